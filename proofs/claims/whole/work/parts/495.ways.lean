/-! whether there is a way, as a fact of the house alone -/
def Rc (fl : SFl) (w h b t : Nat) : Prop := ∀ P : Nat → Prop, P b → (∀ a k c, P a → k < 6 → ldS fl w h a k = some c → P c) → P t
theorem SRC_Rc {fl : SFl} {w h b : Nat} {rs : Nat → Bool} {tn ln : Nat → Nat} (S : SRC fl w h b rs tn ln) (t : Nat) : rs t = true ↔ Rc fl w h b t := by
  constructor
  · have key : ∀ N a, 100000 * tn a + ln a < N → rs a = true → Rc fl w h b a := by
      intro N
      induction N with
      | zero => intro a ha; exact absurd ha (Nat.not_lt_zero _)
      | succ N ih =>
        intro a ha hr
        rcases S.2.2.1 a hr with ⟨p1, p2, p3⟩ | ⟨u, k, p1, p2, p3, p4, p5⟩
        · rw [p1]; exact fun P h0 _ => h0
        · have hlt : 100000 * tn u + ln u < N := by
            by_cases k4 : k < 4
            · rw [if_pos k4] at p4; omega
            · rw [if_neg k4] at p4; omega
          exact fun P h0 hP => hP u k a (ih u hlt p1 P h0 hP) p2 p3
    exact key _ t (Nat.lt_succ_self _)
  · intro hr
    exact hr (fun x => rs x = true) S.1.1 (fun a k c ha hk e => (S.2.1 a k c ha hk e).1)
/-- there is a way, with the squares open that T and gone leave open -/
def WYP (w h : Nat) (C : Nat → Int → Int → Prop) (T : Int → Int → Nat → Prop) (gone : Int32) (b gl : Nat) : Prop := ∃ fl, FT fl w h C (ONf T gone) ∧ frS fl b = true ∧ Rc fl w h b gl
theorem FT_fr {fl fl2 : SFl} {w h : Nat} {C : Nat → Int → Int → Prop} {O : Int → Int → Prop} (w20 : w ≤ 20) (h20 : h ≤ 20) (f1 : FT fl w h C O) (f2 : FT fl2 w h C O) {s : Nat} (hs : okS w h s) : frS fl s = frS fl2 s ∧ tuS fl s = tuS fl2 s := by
  obtain ⟨q, x, y, rfl, hq, hx, hy⟩ := st_split w20 h20 hs
  rw [frS_c (by omega) (by omega), frS_c (by omega) (by omega), tuS_c (by omega) (by omega), tuS_c (by omega) (by omega)]
  have e : ∀ p, p < 5 → bt (fl.f_fitting (21 * p + y)) x = bt (fl2.f_fitting (21 * p + y)) x := fun p hp => by
    have := (f1.2 p x y hp hx hy).trans (f2.2 p x y hp hx hy).symm
    cases q1 : bt (fl.f_fitting (21 * p + y)) x <;> cases q2 : bt (fl2.f_fitting (21 * p + y)) x
    · rfl
    · rw [q1, q2] at this; exact absurd (this.mpr rfl) (by decide)
    · rw [q1, q2] at this; exact absurd (this.mp rfl) (by decide)
    · rfl
  exact ⟨e q (by omega), e 4 (by omega)⟩
theorem FT_ld {fl fl2 : SFl} {w h : Nat} {C : Nat → Int → Int → Prop} {O : Int → Int → Prop} (w20 : w ≤ 20) (h20 : h ≤ 20) (f1 : FT fl w h C O) (f2 : FT fl2 w h C O) {a : Nat} (ha : okS w h a) (k : Nat) : ldS fl w h a k = ldS fl2 w h a k := by
  unfold ldS
  cases e : goS w h a k with
  | none => rfl
  | some t => rw [Option.bind_some, Option.bind_some, (FT_fr w20 h20 f1 f2 (goS_ok w20 h20 ha e)).1, (FT_fr w20 h20 f1 f2 ha).2]
theorem WYP_iff {fl : SFl} {w h : Nat} {C : Nat → Int → Int → Prop} {T : Int → Int → Nat → Prop} {gone : Int32} {b gl : Nat} (w20 : w ≤ 20) (h20 : h ≤ 20) (f1 : FT fl w h C (ONf T gone)) (hb : okS w h b) : WYP w h C T gone b gl ↔ frS fl b = true ∧ Rc fl w h b gl := by
  constructor
  · rintro ⟨fl2, f2, h1, h2⟩
    refine ⟨by rw [(FT_fr w20 h20 f1 f2 hb).1]; exact h1, fun P h0 hP => ?_⟩
    exact (h2 (fun x => P x ∧ okS w h x) ⟨h0, hb⟩ (fun a k c ha hk e => ⟨hP a k c ha.1 hk (by rw [FT_ld w20 h20 f1 f2 ha.2]; exact e), (ldS_ok w20 h20 ha.2 e).1⟩)).1
  · rintro ⟨h1, h2⟩; exact ⟨fl, f1, h1, h2⟩
theorem isWay_both {F : Nat} (hF : 100000000000000 < F) {fl : SFl} {mo : SMo} {w h : Nat} (g : GR fl mo w h) {C : Nat → Int → Int → Prop} {T : Int → Int → Nat → Prop} (hf : FT fl w h C (ONf T mo.f_gone)) {b gl : Nat} (he : ENDS mo b gl) (hb : okS w h b) (hgl : okS w h gl) (se : SSe) :
    ∃ c se' mo', x5_run F fl se (nI b) = some se' ∧ x5_isReached se' (nI gl) = some (bi c) ∧ x8_isWay F mo = some (bi c, mo') ∧ sA mo mo' ∧ sG mo mo' ∧ (c = true ↔ WYP w h C T mo.f_gone b gl) := by
  obtain ⟨w20, h20, -, -⟩ := GR_w g
  obtain ⟨se', mo2, n, rs, ord, tn, ln, x1, x2, x3, x4, x5, x6, x7, x8, x9, x10⟩ := search_both hF g he hb se
  have okg1 := hgl.1
  have tg : (nI gl).toInt = (gl : Int) := t_nI (by omega)
  have ibg : ib (nI gl) 1764 = true := ib_of (by omega) (by omega)
  have ecg : Int32.toNatClampNeg (nI gl) = gl := by rw [t_cl, tg]; rfl
  have hgoal : x8_goal mo2 = some (nI gl) := (ENDS_b he x8.2.2.2.1).2
  have fn := FARD_neg x4 (fun a ha => (x5 a ha).2) okg1
  refine ⟨rs gl, se', mo2, x1, e5_isReached x3 okg1, ?_, x8, x9, ?_⟩
  · rw [x8_isWay, x2, Option.bind_some, hgoal, Option.bind_some, if_pos ibg, ecg]
    simp only [fn]
    cases rs gl
    · rw [if_pos rfl]; rfl
    · rw [if_neg (by decide)]; rfl
  · rw [WYP_iff w20 h20 hf hb]
    cases hfb : frS fl b
    · rw [x7 hfb gl]
      exact ⟨fun c => absurd c (by decide), fun c => absurd c.1 (by decide)⟩
    · rw [SRC_Rc (x6 hfb)]
      exact ⟨fun c => ⟨rfl, c⟩, fun c => c.2⟩
/-! subsets of the doors, by their bits -/
theorem bt_nI {n t : Nat} (h : n < 4096) : bt (nI n) t = n.testBit t := by
  show ((nI n).toBitVec).getLsbD t = _
  have e : (nI n).toBitVec = BitVec.ofNat 32 n := rfl
  rw [e, BitVec.getLsbD_ofNat]
  by_cases c : t < 32
  · rw [decide_eq_true c, Bool.true_and]
  · rw [decide_eq_false c, Bool.false_and]
    symm
    refine Nat.testBit_lt_two_pow ?_
    refine Nat.lt_of_lt_of_le h ?_
    exact Nat.le_trans (show 4096 ≤ 2 ^ 32 by decide) (Nat.pow_le_pow_right (by decide) (by omega))
theorem pcn_sub {x y : Int32} : ∀ n, (∀ t, t < n → bt x t = true → bt y t = true) → pcn x n ≤ pcn y n ∧ (pcn x n = pcn y n → ∀ t, t < n → bt x t = bt y t)
  | 0, _ => ⟨Nat.le_refl 0, fun _ t ht => absurd ht (Nat.not_lt_zero t)⟩
  | n + 1, h => by
    obtain ⟨h1, h2⟩ := pcn_sub n (fun t ht => h t (by omega))
    have h3 := h n (by omega)
    show pcn x n + (if bt x n = true then 1 else 0) ≤ pcn y n + (if bt y n = true then 1 else 0) ∧ (pcn x n + (if bt x n = true then 1 else 0) = pcn y n + (if bt y n = true then 1 else 0) → _)
    cases q1 : bt x n
    · cases q2 : bt y n
      · rw [if_neg (by decide), Nat.add_zero, Nat.add_zero]
        refine ⟨h1, fun e t ht => ?_⟩
        by_cases et : t = n
        · rw [et, q1, q2]
        · exact h2 e t (by omega)
      · rw [if_neg (by decide), if_pos rfl]
        exact ⟨by omega, fun e => absurd e (by omega)⟩
    · have q2 := h3 q1
      rw [q2, if_pos rfl]
      refine ⟨by omega, fun e t ht => ?_⟩
      by_cases et : t = n
      · rw [et, q1, q2]
      · exact h2 (by omega) t (by omega)
def SubD (cn s : Nat) : Prop := nI s &&& (nI cn ^^^ -1) = 0
theorem SubD_le {cn s : Nat} (hc : cn < 4096) (hs : s < 4096) (h : SubD cn s) : s ≤ cn ∧ pcn (nI s) 12 ≤ pcn (nI cn) 12 ∧ (¬ s = cn → pcn (nI s) 12 < pcn (nI cn) 12) := by
  have hb := andn_0.mp h
  have hb2 : ∀ t, s.testBit t = true → cn.testBit t = true := fun t ht => by
    have h1 : bt (nI s) t = true := by rw [bt_nI hs]; exact ht
    have := hb t (bt_lt h1) h1
    rwa [bt_nI hc] at this
  have e : s &&& cn = s := by
    apply Nat.eq_of_testBit_eq
    intro t
    rw [Nat.testBit_and]
    cases q : s.testBit t
    · rfl
    · rw [hb2 t q]; rfl
  obtain ⟨p1, p2⟩ := pcn_sub (x := nI s) (y := nI cn) 12 (fun t ht hx => hb t (by omega) hx)
  refine ⟨?_, p1, fun hne => ?_⟩
  · rw [← e]; exact Nat.and_le_right
  · refine Nat.lt_of_le_of_ne p1 (fun c => hne ?_)
    have h12 := p2 c
    apply Nat.eq_of_testBit_eq
    intro t
    by_cases ht : t < 12
    · have := h12 t ht
      rwa [bt_nI hs, bt_nI hc] at this
    · have big : ∀ n, n < 4096 → n.testBit t = false := fun n hn => Nat.testBit_lt_two_pow (Nat.lt_of_lt_of_le hn (Nat.le_trans (show 4096 ≤ 2 ^ 12 by decide) (Nat.pow_le_pow_right (by decide) (by omega))))
      rw [big s hs, big cn hc]
/-- the best set of doors -/
def DRS (cn : Nat) (W : Nat → Prop) (r : Nat) : Prop := r < 4096 ∧ SubD cn r ∧ W r ∧ ∀ s, s < 4096 → SubD cn s → W s → pcn (nI r) 12 < pcn (nI s) 12 ∨ (pcn (nI r) 12 = pcn (nI s) 12 ∧ r ≤ s)
theorem DRS_one {cn : Nat} {W : Nat → Prop} {r s : Nat} (a : DRS cn W r) (b : DRS cn W s) : r = s := by
  obtain ⟨a1, a2, a3, a4⟩ := a
  obtain ⟨b1, b2, b3, b4⟩ := b
  rcases a4 s b1 b2 b3 with x | ⟨x1, x2⟩ <;> rcases b4 r a1 a2 a3 with y | ⟨y1, y2⟩ <;> omega
