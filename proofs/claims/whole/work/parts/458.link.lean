/-! both sides: where the load is free, where it may be turned -/
theorem frQ_ge {f : Nat → Int32} {a b i j : Nat} (hi : i < 6) (hq : hasQ f j i = true) : ∀ k, 6 * j + i < k → em2 a b i j ≤ frQ f a b k
  | 0, h => absurd h (Nat.not_lt_zero _)
  | k + 1, h => by
    show em2 a b i j ≤ (if hasQ f (k / 6) (k % 6) = true then mx (frQ f a b k) (em2 a b (k % 6) (k / 6)) else frQ f a b k)
    by_cases e : 6 * j + i = k
    · rw [show k / 6 = j by omega, show k % 6 = i by omega, if_pos hq]
      exact mx_le.2.1
    · have h1 := frQ_ge (a := a) (b := b) hi hq k (by omega)
      split
      · exact Nat.le_trans h1 mx_le.1
      · exact h1
theorem nr_em {i a : Nat} : nr ((i : Int) - a) + 1 = (em i a : Int) ∧ 0 ≤ nr ((i : Int) - a) := by
  unfold nr em
  by_cases c : a ≤ i
  · rw [if_pos (by omega), if_pos c]; omega
  · rw [if_neg (by omega), if_neg c]; omega
theorem nr_neg (u : Int) : nr (-u - 1) = nr u := by
  unfold nr
  by_cases c : 0 ≤ u
  · rw [if_neg (by omega), if_pos c]; omega
  · rw [if_pos (by omega), if_neg c]
theorem sq_lt {x y : Int} (h0 : 0 ≤ x) (h : x + 1 = y) : x * x < y * y := by
  subst h
  have : (x + 1) * (x + 1) = x * x + 2 * x + 1 := by
    rw [Int.add_mul, Int.mul_add, Int.one_mul, Int.mul_one]; omega
  omega
theorem CQ_CN {f : Nat → Int32} {a b q n : Nat} {u v : Int} (h : CQ f a b q (6 * n) u v) : CN (frQ f a b (6 * n)) u v := by
  obtain ⟨i, j, hi, hk, hq, e⟩ := h
  have h1 := frQ_ge (a := a) (b := b) hi hq (6 * n) hk
  obtain ⟨s1, s2⟩ := nr_em (i := i) (a := a)
  obtain ⟨s3, s4⟩ := nr_em (i := j) (a := b)
  have t1 := sq_lt s2 s1
  have t2 := sq_lt s4 s3
  have e2 : ((em2 a b i j : Nat) : Int) = (em i a : Int) * em i a + (em j b : Int) * em j b := by unfold em2; rw [Int.natCast_add, Int.natCast_mul, Int.natCast_mul]
  have key : nr u * nr u + nr v * nr v = nr ((i : Int) - a) * nr ((i : Int) - a) + nr ((j : Int) - b) * nr ((j : Int) - b) := by
    unfold cel at e
    split at e
    · rw [pr_eq] at e; rw [e.1, e.2]
    · split at e
      · rw [pr_eq] at e; rw [e.1, e.2, nr_neg]; omega
      · split at e
        · rw [pr_eq] at e; rw [e.1, e.2, nr_neg, nr_neg]
        · rw [pr_eq] at e; rw [e.1, e.2, nr_neg]; omega
  unfold CN
  omega
/-- open, with these gone -/
def ONf (T : Int → Int → Nat → Prop) (gone : Int32) (X Y : Int) : Prop := ∀ t, t < 32 → T X Y t → bt gone t = true
theorem andn_0 {x g : Int32} : x &&& (g ^^^ -1) = 0 ↔ ∀ t, t < 32 → bt x t = true → bt g t = true := by
  rw [b_eq0]
  refine forall_congr' (fun t => forall_congr' (fun ht => ?_))
  rw [b_and, b_not _ ht]
  cases bt x t <;> cases bt g t <;> simp
theorem bars_0 {v g : Int32} {C : Int → Int → Prop} {T : Int → Int → Nat → Prop} {x y : Int} (h : ∀ t, t < 32 → (bt v t = true ↔ BX C T x y t)) : v &&& (g ^^^ -1) = 0 ↔ ∀ u w, C u w → ONf T g (x + u) (y + w) := by
  rw [andn_0]
  constructor
  · intro k u w c t ht hT
    exact k t ht ((h t ht).mpr ⟨u, w, c, hT⟩)
  · intro k t ht hb
    obtain ⟨u, w, c, hT⟩ := (h t ht).mp hb
    exact k u w c t ht hT
theorem FG_iff {fl : SFl} {O O' : Int → Int → Prop} (h : FG fl O) (e : ∀ X Y, O X Y ↔ O' X Y) : FG fl O' :=
  ⟨fun X Y o => h.1 X Y ((e X Y).mpr o), fun x y hy hx => (h.2 x y hy hx).trans (e _ _)⟩
theorem OG_ON {w h : Int32} {sq : Nat → Int32} {o g : Int32} (hg : bt g 30 = false) (X Y : Int) : OG w h sq (o ||| g) X Y ↔ ONf (BT w h sq o 0) g X Y := by
  have hb : ∀ t, B0 w h sq o X Y t ↔ BN w h sq o 0 X Y t := fun t => by
    unfold BN
    constructor
    · intro c; exact ⟨X, Y, by omega, by omega, c⟩
    · rintro ⟨a, b, c1, c2, c3⟩
      rw [show a = X by omega, show b = Y by omega] at c3; exact c3
  have e : sq (20 * Y + X).toNat &&& ((o ||| g) ^^^ -1) = 0 ↔ ∀ t, t < 32 → bt (sq (20 * Y + X).toNat &&& (o ^^^ -1)) t = true → bt g t = true := by
    rw [b_eq0]
    refine forall_congr' (fun t => forall_congr' (fun ht => ?_))
    rw [b_and, b_not _ ht, b_or, b_and, b_not _ ht]
    cases bt (sq (20 * Y + X).toNat) t <;> cases bt o t <;> cases bt g t <;> simp
  unfold OG ONf BT
  rw [e]
  by_cases c : inH w h X Y
  · have cc := c
    unfold inH at cc
    constructor
    · rintro ⟨-, k⟩ t ht hT
      rcases hT with ⟨-, hT⟩ | ⟨hT, -⟩
      · rcases (hb t).mpr hT with ⟨-, h2⟩ | ⟨h2, -⟩
        · exact k t ht h2
        · exact absurd c h2
      · exact absurd c hT
    · intro k
      exact ⟨cc, fun t ht h2 => k t ht (Or.inl ⟨c, (hb t).mp (Or.inl ⟨c, h2⟩)⟩)⟩
  · constructor
    · rintro ⟨k, -⟩; exact absurd k c
    · intro k
      have := k 30 (by omega) (Or.inr ⟨c, rfl⟩)
      rw [hg] at this; exact absurd this (by decide)
/-- one graph on both sides -/
def GR (fl : SFl) (mo : SMo) (w h : Nat) : Prop :=
  ((fl.f_w = nI w ∧ fl.f_h = nI h ∧ mo.f_wide = nI w ∧ mo.f_high = nI h) ∧ (1 ≤ w ∧ w ≤ 20) ∧ 1 ≤ h ∧ h ≤ 20) ∧
  (∀ q x y : Nat, q < 4 → x ≤ w → y ≤ h → (mo.f_bars (441 * q + 21 * y + x) &&& (mo.f_gone ^^^ -1) = 0 ↔ bt (fl.f_fitting (21 * q + y)) x = true)) ∧
  (∀ x y : Nat, x ≤ w → y ≤ h → (mo.f_turnBars (21 * y + x) &&& (mo.f_gone ^^^ -1) = 0 ↔ bt (fl.f_fitting (84 + y)) x = true)) ∧
  ∀ q x y : Nat, q < 4 → x ≤ w → y ≤ h → bt (fl.f_fitting (84 + y)) x = true → bt (fl.f_fitting (21 * q + y)) x = true
theorem GR_mk {fl : SFl} {mo : SMo} {w h n a b : Nat} {f : Nat → Int32} {T : Int → Int → Nat → Prop} (hf : FT fl w h (CL f a b n) (ONf T mo.f_gone)) (hb : BSQ mo.f_bars mo.f_turnBars w h (CL f a b n) T (fun _ _ => True)) (m1 : mo.f_wide = nI w) (m2 : mo.f_high = nI h) (hw : 1 ≤ w ∧ w ≤ 20) (hh : 1 ≤ h ∧ h ≤ 20) : GR fl mo w h := by
  refine ⟨⟨⟨hf.1.1, hf.1.2, m1, m2⟩, hw, hh⟩, fun q x y hq hx hy => ?_, fun x y hx hy => ?_, fun q x y hq hx hy ht => ?_⟩
  · rw [bars_0 (C := CL f a b n q) (T := T) (x := x) (y := y) ((hb x y hx hy trivial).1 q hq), ← hf.2 q x y (by omega) hx hy]
  · rw [bars_0 (C := CL f a b n 4) (T := T) (x := x) (y := y) (hb x y hx hy trivial).2, ← hf.2 4 x y (by omega) hx hy]
  · have h4 := (hf.2 4 x y (by omega) hx hy).mp ht
    refine (hf.2 q x y (by omega) hx hy).mpr (fun u v c => h4 u v ?_)
    rw [CL_4]
    rw [CL_q hq] at c
    exact CQ_CN c
theorem e7_layOut {F : Nat} (hF : 324 < F) {bu : SBu} {lo : SLo} {mo : SMo} (hb : RB bu mo) (h : RLo lo mo) (sh : SSh) (fl : SFl) (ph : SPh) : ∃ sh' fl', x7_layOut F bu lo sh fl ph = some (bi (wholeQ lo.f_bits lo.f_count.toInt.toNat), sh', fl') ∧ (wholeQ lo.f_bits lo.f_count.toInt.toNat = true → SHP sh' lo.f_bits lo.f_hx.toInt.toNat lo.f_hy.toInt.toNat lo.f_count.toInt.toNat ∧ FT fl' bu.f_w.toInt.toNat bu.f_h.toInt.toNat (CL lo.f_bits lo.f_hx.toInt.toNat lo.f_hy.toInt.toNat lo.f_count.toInt.toNat) (OG bu.f_w bu.f_h bu.f_squares bu.f_outBits) ∧ FG fl' (OG bu.f_w bu.f_h bu.f_squares bu.f_outBits)) := by
  have hw := RB_wh hb
  have w0 := hw
  obtain ⟨w1, w2⟩ := hw
  have hhx := h.2.2.1
  have h0 := h.1
  rw [x7_layOut, e2_isWhole (by omega) h, Option.bind_some]
  cases hwq : wholeQ lo.f_bits lo.f_count.toInt.toNat
  · rw [if_pos bi_f]
    exact ⟨_, _, rfl, fun c => absurd c (by decide)⟩
  · obtain ⟨sh', e1, hS⟩ := e6_take (F := F) (by omega) h sh
    obtain ⟨f1, e2, l1, l2, hG⟩ := e1_lay (F := F) (by omega) w0 fl bu.f_outBits
    obtain ⟨f2, e3, hT, hG2⟩ := e1_mark hF hG (w := bu.f_w.toInt.toNat) (h := bu.f_h.toInt.toNat) (l1.trans (t_eqnI (by omega))) (l2.trans (t_eqnI (by omega))) (by omega) (by omega) hS (fun p hp u v c => CL_b (by omega) (by omega) (by omega) p c)
    rw [if_neg (by decide), e1, Option.bind_some, e2, Option.bind_some, e3, Option.bind_some]
    exact ⟨_, _, rfl, fun _ => ⟨hS, hT, hG2⟩⟩
theorem FT_iff {fl : SFl} {w h : Nat} {C : Nat → Int → Int → Prop} {O O' : Int → Int → Prop} (hf : FT fl w h C O) (e : ∀ X Y, O X Y ↔ O' X Y) : FT fl w h C O' :=
  ⟨hf.1, fun p x y hp hx hy => (hf.2 p x y hp hx hy).trans ⟨fun k u v c => (e _ _).mp (k u v c), fun k u v c => (e _ _).mpr (k u v c)⟩⟩
/-- what both sides have laid out -/
def LAID (bu : SBu) (lo : SLo) (mo' : SMo) (sh' : SSh) (fl' : SFl) : Prop :=
  GR fl' mo' bu.f_w.toInt.toNat bu.f_h.toInt.toNat ∧ mo'.f_gone = 0 ∧ SHP sh' lo.f_bits lo.f_hx.toInt.toNat lo.f_hy.toInt.toNat lo.f_count.toInt.toNat ∧
  FG fl' (ONf (BT bu.f_w bu.f_h bu.f_squares bu.f_outBits 0) 0) ∧
  BSQ mo'.f_bars mo'.f_turnBars bu.f_w.toInt.toNat bu.f_h.toInt.toNat (CL lo.f_bits lo.f_hx.toInt.toNat lo.f_hy.toInt.toNat lo.f_count.toInt.toNat) (BT bu.f_w bu.f_h bu.f_squares bu.f_outBits 0) (fun _ _ => True)
theorem begin_both {F : Nat} (hF : 324 < F) {bu : SBu} {lo : SLo} {mo : SMo} (hb : RB bu mo) (h : RLo lo mo) (sh : SSh) (fl : SFl) (ph : SPh) : ∃ c sh' fl' mo', x7_layOut F bu lo sh fl ph = some (bi c, sh', fl') ∧ x8_begin F mo = some (bi c, mo') ∧ sA mo mo' ∧ (c = true → LAID bu lo mo' sh' fl') := by
  obtain ⟨sh', fl', e1, k1⟩ := e7_layOut hF hb h sh fl ph
  obtain ⟨mo', e2, hA, k2⟩ := e8_begin (F := F) (by omega) hb h
  have hw := RB_wh hb
  obtain ⟨w1, w2⟩ := hw
  refine ⟨_, sh', fl', mo', e1, e2, hA, fun hc => ?_⟩
  obtain ⟨hS, hT, hG⟩ := k1 hc
  obtain ⟨hg, hB⟩ := k2 hc
  have hn := RB_now (RB_sH hb hA.1)
  have on : ∀ X Y, OG bu.f_w bu.f_h bu.f_squares bu.f_outBits X Y ↔ ONf (BT bu.f_w bu.f_h bu.f_squares bu.f_outBits 0) 0 X Y := fun X Y => by
    have := OG_ON (w := bu.f_w) (h := bu.f_h) (sq := bu.f_squares) (o := bu.f_outBits) (g := 0) (b_0 30) X Y
    rwa [or_0] at this
  exact ⟨GR_mk (by rw [hg]; exact FT_iff hT on) hB (hn.1.trans (t_eqnI (by omega))) (hn.2.1.trans (t_eqnI (by omega))) (by omega) (by omega), hg, hS, FG_iff hG on, hB⟩
