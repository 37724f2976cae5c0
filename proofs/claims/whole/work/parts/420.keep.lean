/-! the house on both sides, and what is kept for undo -/
/-- what a house holds: things below 12, no bit of a thing that there is not, nothing outside -/
def okB (w h things doors : Int32) (sq : Nat → Int32) : Prop :=
  (0 ≤ things.toInt ∧ things.toInt ≤ 12) ∧ (∀ k, k < 400 → ∀ t, t < 32 → bt (sq k) t = true → (t : Int) < things.toInt) ∧
  (∀ x y : Nat, x < 20 → y < 20 → (w.toInt ≤ x ∨ h.toInt ≤ y) → sq (20 * y + x) = 0) ∧ (∀ t, t < 32 → bt doors t = true → (t : Int) < things.toInt) ∧ pcn doors 12 ≤ 6
/-- place c of the class's ring, place m of the reference's row -/
def kpAt (bu : SBu) (mo : SMo) (c m : Nat) : Prop :=
  mo.f_keptThings m = bu.f_oldThings c ∧ mo.f_keptDoors m = bu.f_oldDoorBits c ∧ mo.f_keptOuts m = bu.f_oldOutBits c ∧
  (∀ k, k < 400 → mo.f_keptSquares (400 * m + k) = bu.f_oldSquares (400 * c + k)) ∧
  okB bu.f_w bu.f_h (bu.f_oldThings c) (bu.f_oldDoorBits c) (fun k => bu.f_oldSquares (400 * c + k))
def kpR (bu : SBu) (mo : SMo) (n s : Nat) : Prop :=
  n ≤ 20 ∧ s < 20 ∧ bu.f_kept = nI n ∧ bu.f_slot = nI s ∧ mo.f_undos = nI n ∧ ∀ j, j < n → kpAt bu mo ((s + 19 - j) % 20) (n - 1 - j)
/-- the two hold the same now -/
def nowR (bu : SBu) (mo : SMo) : Prop :=
  mo.f_wide = bu.f_w ∧ mo.f_high = bu.f_h ∧ mo.f_things = bu.f_things ∧ mo.f_doors = bu.f_doorBits ∧ mo.f_outs = bu.f_outBits ∧ ∀ k, k < 400 → mo.f_squares k = bu.f_squares k
def RB (bu : SBu) (mo : SMo) : Prop :=
  ((1 ≤ bu.f_w.toInt ∧ bu.f_w.toInt ≤ 20) ∧ (1 ≤ bu.f_h.toInt ∧ bu.f_h.toInt ≤ 20)) ∧ nowR bu mo ∧
  okB bu.f_w bu.f_h bu.f_things bu.f_doorBits bu.f_squares ∧ ∃ n s : Nat, kpR bu mo n s
/-- one block of 400 written over -/
def blk (q f : Nat → Int32) (b : Nat) : Nat → Int32 := fun z => if 400 * b ≤ z ∧ z < 400 * b + 400 then f (z - 400 * b) else q z
theorem blk_in {q f : Nat → Int32} {b k : Nat} (h : k < 400) : blk q f b (400 * b + k) = f k := by
  unfold blk; rw [if_pos (by omega)]; congr 1; omega
theorem blk_out {q f : Nat → Int32} {b c k : Nat} (h : k < 400) (hc : c ≠ b) : blk q f b (400 * c + k) = q (400 * c + k) := by
  unfold blk; rw [if_neg (by omega)]
/-- the class keeps -/
def keptB (bu : SBu) (n s : Nat) : SBu :=
  SBu.s_oldOutBits (SBu.s_oldDoorBits (SBu.s_oldThings (SBu.s_oldSquares (SBu.s_slot (SBu.s_kept bu (nI (if n < 20 then n + 1 else 20))) (nI ((s + 1) % 20))) (blk bu.f_oldSquares bu.f_squares s)) (upd bu.f_oldThings s bu.f_things)) (upd bu.f_oldDoorBits s bu.f_doorBits)) (upd bu.f_oldOutBits s bu.f_outBits)
theorem e0_keep {F : Nat} (hF : 400 < F) {bu : SBu} {n s : Nat} (hn : bu.f_kept = nI n) (h20 : n ≤ 20) (hs : bu.f_slot = nI s) (hs2 : s < 20) : x0_keep F bu = some (keptB bu n s) := by
  have hsi : bu.f_slot.toInt = (s : Int) := by rw [hs, t_nI (by omega)]
  have hni : bu.f_kept.toInt = (n : Int) := by rw [hn, t_nI (by omega)]
  rw [x0_keep]
  refine for_nat (fun k i q => x0_keep_L11 F bu (bu.f_slot * 400) bu.f_kept bu.f_slot bu.f_oldThings bu.f_oldDoorBits bu.f_oldOutBits k i q) 400 (by decide)
    (fun j q => q = fun z => if 400 * s ≤ z ∧ z < 400 * s + j then bu.f_squares (z - 400 * s) else bu.f_oldSquares z) (fun r => r = some (keptB bu n s)) ?_ ?_ F 0 0 bu.f_oldSquares rfl (by omega) (by omega) ?_
  · intro k i q hi hq
    show x0_keep_L11 _ _ _ _ _ _ _ _ _ _ _ = _
    rw [x0_keep_L11, if_pos (by rw [t_le]; simp only [t_l]; omega), e7_put (by decide), e7_put (by decide), e7_put (by decide), Option.bind_some, Option.bind_some, Option.bind_some,
      gput_of hsi hs2, gput_of hsi hs2, gput_of hsi hs2]
    have e1 : (if (20 : Int32) < (bu.f_kept + 1) then (20 : Int32) else (bu.f_kept + 1)) = nI (if n < 20 then n + 1 else 20) := by
      split <;> rename_i hc <;> rw [t_lt, t_add] at hc <;> simp only [t_l] at hc
      · rw [if_neg (by omega)]; rfl
      · rw [if_pos (by omega), t_eq, t_nI (by omega), t_add]; simp only [t_l]; omega
    have e2 : ((bu.f_slot + 1) - (bu.f_slot + 1) / 20 * 20) = nI ((s + 1) % 20) := by
      have h1 : (bu.f_slot + 1).toInt = (s : Int) + 1 := t_inc hsi (by omega) (by omega)
      rw [t_eq, t_nI (by omega), t_rem (by omega) (by decide), h1]; simp only [t_l]; omega
    show some (SBu.s_oldOutBits (SBu.s_oldDoorBits (SBu.s_oldThings (SBu.s_oldSquares (SBu.s_slot (SBu.s_kept bu (if (20 : Int32) < (bu.f_kept + 1) then (20 : Int32) else (bu.f_kept + 1))) ((bu.f_slot + 1) - (bu.f_slot + 1) / 20 * 20)) q) _) _) _) = _
    rw [e1, e2, hq]; rfl
  · intro k i q j hi hj hq
    refine Or.inl ⟨_, ?_, (by
        show x0_keep_L11 _ _ _ _ _ _ _ _ _ _ _ = _
        rw [x0_keep_L11, if_neg (by rw [t_le]; simp only [t_l]; omega), if_pos (ib_of (by omega) (by omega)), e7_put (by decide), Option.bind_some,
          gput_of (k := 400 * s + j) (by rw [t_add, t_mul, hsi, hi]; simp only [t_l]; omega) (by omega)])⟩
    · subst hq
      funext z
      rw [upd_at, t_cl, hi]
      by_cases h1 : z = 400 * s + j
      · subst h1
        rw [if_pos rfl, if_pos (by omega)]
        congr 1; omega
      · by_cases h2 : 400 * s ≤ z ∧ z < 400 * s + j
        · rw [if_neg h1, if_pos h2, if_pos (by omega)]
        · rw [if_neg h1, if_neg h2, if_neg (by omega)]
  · funext z; rw [if_neg (by omega)]
/-- the reference keeps: the rows behind the copy at place m -/
def keptM (mo : SMo) (m : Nat) (kt kd ko ks : Nat → Int32) : SMo :=
  SMo.s_keptSquares (SMo.s_keptOuts (SMo.s_keptDoors (SMo.s_keptThings (SMo.s_undos mo (nI (m + 1))) kt) kd) ko) (blk ks mo.f_squares m)
theorem e8_keep_c {F : Nat} (hF : 400 < F) {mo : SMo} {m : Nat} (hm : m < 20) {u : Int32} (hu : u = nI m) (kt kd ko ks : Nat → Int32) : x8_keep_L149 F mo u kt kd ko F 0 ks = some (keptM mo m kt kd ko ks) := by
  have hui : u.toInt = (m : Int) := by rw [hu, t_nI (by omega)]
  refine for_nat (fun k i q => x8_keep_L149 F mo u kt kd ko k i q) 400 (by decide)
    (fun j q => q = fun z => if 400 * m ≤ z ∧ z < 400 * m + j then mo.f_squares (z - 400 * m) else ks z) (fun r => r = some (keptM mo m kt kd ko ks)) ?_ ?_ F 0 0 ks rfl (by omega) (by omega) ?_
  · intro k i q hi hq
    show x8_keep_L149 _ _ _ _ _ _ _ _ _ = _
    rw [x8_keep_L149, if_pos (by rw [t_le]; simp only [t_l]; omega)]
    have e2 : u + 1 = nI (m + 1) := by rw [t_eq, t_nI (by omega), t_inc hui (by omega) (by omega)]; omega
    rw [e2, hq]; rfl
  · intro k i q j hi hj hq
    refine Or.inl ⟨_, ?_, (by
        show x8_keep_L149 _ _ _ _ _ _ _ _ _ = _
        have e3 : ((400 : Int32) * u + i).toInt = ((400 * m + j : Nat) : Int) := by rw [t_add, t_mul, hui, hi]; simp only [t_l]; omega
        rw [x8_keep_L149, if_neg (by rw [t_le]; simp only [t_l]; omega), if_pos (ib_of (by omega) (by omega)), if_pos (ib_of (by rw [e3]; omega) (by rw [e3]; omega)), t_cl, e3])⟩
    · subst hq
      funext z
      rw [upd_at, t_cl, hi]
      by_cases h1 : z = 400 * m + j
      · subst h1
        rw [if_pos (by omega), if_pos (by omega)]
        congr 1; omega
      · by_cases h2 : 400 * m ≤ z ∧ z < 400 * m + j
        · rw [if_neg (by omega), if_pos h2, if_pos (by omega)]
        · rw [if_neg (by omega), if_neg h2, if_neg (by omega)]
  · funext z; rw [if_neg (by omega)]
/-- the reference drops its oldest -/
theorem e8_keep_b {F : Nat} (hF : 8000 < F) {mo : SMo} {u : Int32} (hu : u = 20) (kt kd ko ks : Nat → Int32) : x8_keep_L69 F mo u kt kd ko F 400 ks = some (keptM mo 19 (upd kt 19 mo.f_things) (upd kd 19 mo.f_doors) (upd ko 19 mo.f_outs) (fun z => if z < 7600 then ks (z + 400) else ks z)) := by
  subst hu
  refine for_nat (fun k i q => x8_keep_L69 F mo 20 kt kd ko k i q) 8000 (by decide)
    (fun j q => 400 ≤ j ∧ q = fun z => if z + 400 < j then ks (z + 400) else ks z) (fun r => r = some (keptM mo 19 (upd kt 19 mo.f_things) (upd kd 19 mo.f_doors) (upd ko 19 mo.f_outs) (fun z => if z < 7600 then ks (z + 400) else ks z))) ?_ ?_ F 400 400 ks rfl (by omega) (by omega) ⟨by omega, ?_⟩
  · intro k i q hi hq
    show x8_keep_L69 _ _ _ _ _ _ _ _ _ = _
    obtain ⟨-, hq⟩ := hq
    have e1 : (20 : Int32) - 1 = nI 19 := by decide
    rw [x8_keep_L69, if_pos (by rw [t_le]; simp only [t_l]; omega), e1, if_pos (by decide), if_pos (by decide), if_pos (by decide), e8_keep_c (by omega) (by decide) rfl]
    subst hq
    have e2 : (fun z => if z + 400 < 8000 then ks (z + 400) else ks z) = (fun z => if z < 7600 then ks (z + 400) else ks z) := by
      funext z; by_cases h : z < 7600
      · rw [if_pos h, if_pos (by omega)]
      · rw [if_neg h, if_neg (by omega)]
    rw [e2]; rfl
  · intro k i q j hi hj hq
    obtain ⟨h400, hq⟩ := hq
    refine Or.inl ⟨_, ?_, (by
        show x8_keep_L69 _ _ _ _ _ _ _ _ _ = _
        have e3 : (i - (400 : Int32)).toInt = ((j - 400 : Nat) : Int) := by rw [t_sub, hi]; simp only [t_l]; omega
        rw [x8_keep_L69, if_neg (by rw [t_le]; simp only [t_l]; omega), if_pos (ib_of (by omega) (by omega)), if_pos (ib_of (by rw [e3]; omega) (by rw [e3]; omega)), t_cl, t_cl, e3, hi])⟩
    · refine ⟨by omega, ?_⟩
      subst hq
      funext z
      rw [upd_at, Int.toNat_natCast, Int.toNat_natCast]
      by_cases h1 : z = j - 400
      · show (if z = j - 400 then (if j + 400 < j then ks (j + 400) else ks j) else _) = _
        rw [if_pos h1, if_neg (show ¬ j + 400 < j by omega), if_pos (show z + 400 < j + 1 by omega)]
        exact congrArg ks (by omega)
      · by_cases h2 : z + 400 < j
        · rw [if_neg (by omega), if_pos h2, if_pos (by omega)]
        · rw [if_neg (by omega), if_neg h2, if_neg (by omega)]
  · funext z; rw [if_neg (by omega)]
/-- the reference drops its oldest numbers -/
theorem e8_keep_a {F : Nat} (hF : 8000 < F) {mo : SMo} {u : Int32} (hu : u = 20) (kt kd ko ks : Nat → Int32) : x8_keep_L11 F mo u ks F 1 kt kd ko = some (keptM mo 19 (upd (fun z => if z < 19 then kt (z + 1) else kt z) 19 mo.f_things) (upd (fun z => if z < 19 then kd (z + 1) else kd z) 19 mo.f_doors) (upd (fun z => if z < 19 then ko (z + 1) else ko z) 19 mo.f_outs) (fun z => if z < 7600 then ks (z + 400) else ks z)) := by
  subst hu
  refine for_nat (fun k i (q : (Nat → Int32) × (Nat → Int32) × (Nat → Int32)) => x8_keep_L11 F mo 20 ks k i q.1 q.2.1 q.2.2) 20 (by decide)
    (fun j q => 1 ≤ j ∧ q = (fun z => if z + 1 < j then kt (z + 1) else kt z, fun z => if z + 1 < j then kd (z + 1) else kd z, fun z => if z + 1 < j then ko (z + 1) else ko z)) (fun r => r = some (keptM mo 19 (upd (fun z => if z < 19 then kt (z + 1) else kt z) 19 mo.f_things) (upd (fun z => if z < 19 then kd (z + 1) else kd z) 19 mo.f_doors) (upd (fun z => if z < 19 then ko (z + 1) else ko z) 19 mo.f_outs) (fun z => if z < 7600 then ks (z + 400) else ks z))) ?_ ?_ F 1 1 (kt, kd, ko) rfl (by omega) (by omega) ⟨by omega, ?_⟩
  · intro k i q hi hq
    obtain ⟨-, hq⟩ := hq
    show x8_keep_L11 _ _ _ _ _ _ _ _ _ = _
    rw [x8_keep_L11, if_pos (by rw [t_le]; simp only [t_l]; omega), e8_keep_b hF rfl]
    subst hq
    have e2 : ∀ f : Nat → Int32, (fun z => if z + 1 < 20 then f (z + 1) else f z) = (fun z => if z < 19 then f (z + 1) else f z) := by
      intro f; funext z; by_cases h : z < 19
      · rw [if_pos h, if_pos (by omega)]
      · rw [if_neg h, if_neg (by omega)]
    show some (keptM mo 19 (upd (fun z => if z + 1 < 20 then kt (z + 1) else kt z) 19 mo.f_things) (upd (fun z => if z + 1 < 20 then kd (z + 1) else kd z) 19 mo.f_doors) (upd (fun z => if z + 1 < 20 then ko (z + 1) else ko z) 19 mo.f_outs) _) = _
    rw [e2, e2, e2]
  · intro k i q j hi hj hq
    obtain ⟨h1j, hq⟩ := hq
    refine Or.inl ⟨(upd q.1 (j - 1) (q.1 j), upd q.2.1 (j - 1) (q.2.1 j), upd q.2.2 (j - 1) (q.2.2 j)), ⟨by omega, ?_⟩, ?_⟩
    · subst hq
      have e2 : ∀ f : Nat → Int32, upd (fun z => if z + 1 < j then f (z + 1) else f z) (j - 1) (if j + 1 < j then f (j + 1) else f j) = (fun z => if z + 1 < j + 1 then f (z + 1) else f z) := by
        intro f; funext z
        rw [upd_at, if_neg (by omega : ¬ j + 1 < j)]
        by_cases h1 : z = j - 1
        · subst h1
          rw [if_pos (by omega), if_pos (by omega)]
          congr 1; omega
        · by_cases h2 : z + 1 < j
          · rw [if_neg (by omega), if_pos h2, if_pos (by omega)]
          · rw [if_neg (by omega), if_neg h2, if_neg (by omega)]
      show (upd (fun z => if z + 1 < j then kt (z + 1) else kt z) (j - 1) (if j + 1 < j then kt (j + 1) else kt j), upd (fun z => if z + 1 < j then kd (z + 1) else kd z) (j - 1) (if j + 1 < j then kd (j + 1) else kd j), upd (fun z => if z + 1 < j then ko (z + 1) else ko z) (j - 1) (if j + 1 < j then ko (j + 1) else ko j)) = _
      rw [e2, e2, e2]
    · show x8_keep_L11 _ _ _ _ _ _ _ _ _ = _
      have e3 : (i - (1 : Int32)).toInt = ((j - 1 : Nat) : Int) := by rw [t_sub, hi]; simp only [t_l]; omega
      have b1 : ib i 20 = true := ib_of (by omega) (by omega)
      have b2 : ib (i - 1) 20 = true := ib_of (by rw [e3]; omega) (by rw [e3]; omega)
      rw [x8_keep_L11, if_neg (by rw [t_le]; simp only [t_l]; omega), if_pos b1, if_pos b2, if_pos b1, if_pos b2, if_pos b1, if_pos b2, t_cl, t_cl, e3, hi]; rfl
  · have e2 : ∀ f : Nat → Int32, f = (fun z => if z + 1 < 1 then f (z + 1) else f z) := by
      intro f; funext z; rw [if_neg (by omega)]
    rw [← e2, ← e2, ← e2]
theorem okB_congr {w h t d : Int32} {f g : Nat → Int32} (e : ∀ k, k < 400 → f k = g k) (o : okB w h t d f) : okB w h t d g :=
  ⟨o.1, fun k hk t ht hb => o.2.1 k hk t ht (by rw [e k hk]; exact hb), fun x y hx hy hxy => by rw [← e _ (by omega)]; exact o.2.2.1 x y hx hy hxy, o.2.2.2⟩
theorem kp_top {bu : SBu} {mo : SMo} {n s m : Nat} {kt kd ko ks : Nat → Int32} (hnow : nowR bu mo) (hok : okB bu.f_w bu.f_h bu.f_things bu.f_doorBits bu.f_squares) (h1 : kt m = mo.f_things) (h2 : kd m = mo.f_doors) (h3 : ko m = mo.f_outs) : kpAt (keptB bu n s) (keptM mo m kt kd ko ks) s m := by
  refine ⟨?_, ?_, ?_, ?_, ?_⟩
  · show kt m = upd bu.f_oldThings s bu.f_things s
    rw [upd_at, if_pos rfl, h1]; exact hnow.2.2.1
  · show kd m = upd bu.f_oldDoorBits s bu.f_doorBits s
    rw [upd_at, if_pos rfl, h2]; exact hnow.2.2.2.1
  · show ko m = upd bu.f_oldOutBits s bu.f_outBits s
    rw [upd_at, if_pos rfl, h3]; exact hnow.2.2.2.2.1
  · intro k hk
    show blk ks mo.f_squares m (400 * m + k) = blk bu.f_oldSquares bu.f_squares s (400 * s + k)
    rw [blk_in hk, blk_in hk]; exact hnow.2.2.2.2.2 k hk
  · show okB bu.f_w bu.f_h (upd bu.f_oldThings s bu.f_things s) (upd bu.f_oldDoorBits s bu.f_doorBits s) (fun k => blk bu.f_oldSquares bu.f_squares s (400 * s + k))
    rw [upd_at, upd_at, if_pos rfl, if_pos rfl]
    exact okB_congr (fun k hk => (blk_in hk).symm) hok
theorem kp_old {bu : SBu} {mo : SMo} {n s m c m0 m1 : Nat} {kt kd ko ks : Nat → Int32} (hc : c ≠ s) (hm : m1 ≠ m) (h : kpAt bu mo c m0) (h1 : kt m1 = mo.f_keptThings m0) (h2 : kd m1 = mo.f_keptDoors m0) (h3 : ko m1 = mo.f_keptOuts m0) (h4 : ∀ k, k < 400 → ks (400 * m1 + k) = mo.f_keptSquares (400 * m0 + k)) : kpAt (keptB bu n s) (keptM mo m kt kd ko ks) c m1 := by
  refine ⟨?_, ?_, ?_, ?_, ?_⟩
  · show kt m1 = upd bu.f_oldThings s bu.f_things c
    rw [upd_at, if_neg hc, h1]; exact h.1
  · show kd m1 = upd bu.f_oldDoorBits s bu.f_doorBits c
    rw [upd_at, if_neg hc, h2]; exact h.2.1
  · show ko m1 = upd bu.f_oldOutBits s bu.f_outBits c
    rw [upd_at, if_neg hc, h3]; exact h.2.2.1
  · intro k hk
    show blk ks mo.f_squares m (400 * m1 + k) = blk bu.f_oldSquares bu.f_squares s (400 * c + k)
    rw [blk_out hk hm, blk_out hk hc, h4 k hk]; exact h.2.2.2.1 k hk
  · show okB bu.f_w bu.f_h (upd bu.f_oldThings s bu.f_things c) (upd bu.f_oldDoorBits s bu.f_doorBits c) (fun k => blk bu.f_oldSquares bu.f_squares s (400 * c + k))
    rw [upd_at, upd_at, if_neg hc, if_neg hc]
    exact okB_congr (fun k hk => (blk_out hk hc).symm) h.2.2.2.2
theorem keptB_f (bu : SBu) (n s : Nat) : ((keptB bu n s).f_w = bu.f_w ∧ (keptB bu n s).f_h = bu.f_h) ∧ ((keptB bu n s).f_things = bu.f_things ∧ (keptB bu n s).f_doorBits = bu.f_doorBits ∧ (keptB bu n s).f_outBits = bu.f_outBits) ∧ (keptB bu n s).f_squares = bu.f_squares := by
  simp only [keptB, SBu_w, SBu_h, SBu_things, SBu_doorBits, SBu_outBits, SBu_squares, SBu_kept, SBu_slot, SBu_oldSquares, SBu_oldThings, SBu_oldDoorBits, SBu_oldOutBits, and_self]
theorem keptM_f (mo : SMo) (m : Nat) (kt kd ko ks : Nat → Int32) : ((keptM mo m kt kd ko ks).f_wide = mo.f_wide ∧ (keptM mo m kt kd ko ks).f_high = mo.f_high) ∧ ((keptM mo m kt kd ko ks).f_things = mo.f_things ∧ (keptM mo m kt kd ko ks).f_doors = mo.f_doors ∧ (keptM mo m kt kd ko ks).f_outs = mo.f_outs) ∧ (keptM mo m kt kd ko ks).f_squares = mo.f_squares := by
  simp only [keptM, SMo_finding, SMo_findings, SMo_wide, SMo_high, SMo_things, SMo_doors, SMo_outs, SMo_squares, SMo_undos, SMo_keptThings, SMo_keptDoors, SMo_keptOuts, SMo_keptSquares, SMo_ends, SMo_rowMany, SMo_rows, SMo_moving, SMo_holdX, SMo_holdY, SMo_way, SMo_bars, SMo_turnBars, SMo_grown, SMo_gone, SMo_pieceOf, SMo_todo, SMo_far, SMo_isIn, SMo_line, SMo_taken, SMo_takenMany, SMo_drafted, SMo_draftMany, and_self]
theorem kept_head {bu : SBu} {mo : SMo} (h1 : (1 ≤ bu.f_w.toInt ∧ bu.f_w.toInt ≤ 20) ∧ (1 ≤ bu.f_h.toInt ∧ bu.f_h.toInt ≤ 20)) (h2 : nowR bu mo) (h3 : okB bu.f_w bu.f_h bu.f_things bu.f_doorBits bu.f_squares) (n s m : Nat) (kt kd ko ks : Nat → Int32) :
    ((1 ≤ (keptB bu n s).f_w.toInt ∧ (keptB bu n s).f_w.toInt ≤ 20) ∧ (1 ≤ (keptB bu n s).f_h.toInt ∧ (keptB bu n s).f_h.toInt ≤ 20)) ∧ nowR (keptB bu n s) (keptM mo m kt kd ko ks) ∧ okB (keptB bu n s).f_w (keptB bu n s).f_h (keptB bu n s).f_things (keptB bu n s).f_doorBits (keptB bu n s).f_squares := by
  obtain ⟨⟨a1, a2⟩, ⟨a3, a4, a5⟩, a6⟩ := keptB_f bu n s
  obtain ⟨⟨b1, b2⟩, ⟨b3, b4, b5⟩, b6⟩ := keptM_f mo m kt kd ko ks
  unfold nowR
  rw [a1, a2, a3, a4, a5, a6, b1, b2, b3, b4, b5, b6]
  exact ⟨h1, h2, h3⟩
theorem kept_kp {bu : SBu} {mo : SMo} (n s m : Nat) (kt kd ko ks : Nat → Int32) (k2 : Nat) (h1 : (if n < 20 then n + 1 else 20) = k2) (h2 : m + 1 = k2) (h3 : k2 ≤ 20) (h4 : ∀ j, j < k2 → kpAt (keptB bu n s) (keptM mo m kt kd ko ks) (((s + 1) % 20 + 19 - j) % 20) (k2 - 1 - j)) : kpR (keptB bu n s) (keptM mo m kt kd ko ks) k2 ((s + 1) % 20) :=
  ⟨h3, Nat.mod_lt _ (by decide), congrArg nI h1, rfl, congrArg nI h2, h4⟩
theorem RB_mk {bu : SBu} {mo : SMo} {n s : Nat} (h : ((1 ≤ bu.f_w.toInt ∧ bu.f_w.toInt ≤ 20) ∧ (1 ≤ bu.f_h.toInt ∧ bu.f_h.toInt ≤ 20)) ∧ nowR bu mo ∧ okB bu.f_w bu.f_h bu.f_things bu.f_doorBits bu.f_squares) (hk : kpR bu mo n s) : RB bu mo := ⟨h.1, h.2.1, h.2.2, n, s, hk⟩
/-- keep, on both sides: what is now stands as the latest -/
theorem keep_both {F : Nat} (hF : 8000 < F) {bu : SBu} {mo : SMo} (h : RB bu mo) : ∃ (n s m : Nat) (kt kd ko ks : Nat → Int32), x0_keep F bu = some (keptB bu n s) ∧ x8_keep F mo = some (keptM mo m kt kd ko ks) ∧ RB (keptB bu n s) (keptM mo m kt kd ko ks) ∧ m < 20 := by
  obtain ⟨hwh, hnow, hok, n, s, h20, hs, hk, hsl, hu, hall⟩ := h
  have hui : mo.f_undos.toInt = (n : Int) := by rw [hu, t_nI (by omega)]
  by_cases hn : n = 20
  · subst hn
    have h20' : mo.f_undos = 20 := hu.trans (by decide)
    have e8 : x8_keep F mo = _ := (by rw [x8_keep, if_pos h20'] : x8_keep F mo = _).trans (e8_keep_a hF h20' _ _ _ _)
    refine ⟨20, s, 19, _, _, _, _, e0_keep (by omega) hk h20 hsl hs, e8, RB_mk (kept_head hwh hnow hok _ _ _ _ _ _ _) (kept_kp 20 s 19 _ _ _ _ 20 (if_neg (by decide)) rfl (by omega) ?_), by omega⟩
    intro j hj
    by_cases hj0 : j = 0
    · subst hj0
      rw [show ((s + 1) % 20 + 19 - 0) % 20 = s by omega]
      exact kp_top hnow hok (by rw [upd_at, if_pos rfl]) (by rw [upd_at, if_pos rfl]) (by rw [upd_at, if_pos rfl])
    · rw [show ((s + 1) % 20 + 19 - j) % 20 = (s + 19 - (j - 1)) % 20 by omega]
      refine kp_old (m0 := 20 - 1 - (j - 1)) (by omega) (by omega) (hall (j - 1) (by omega)) ?_ ?_ ?_ ?_
      · rw [upd_at, if_neg (by omega), if_pos (by omega)]; congr 1; omega
      · rw [upd_at, if_neg (by omega), if_pos (by omega)]; congr 1; omega
      · rw [upd_at, if_neg (by omega), if_pos (by omega)]; congr 1; omega
      · intro k hk
        rw [if_pos (by omega)]; congr 1; omega
  · have b : ib mo.f_undos 20 = true := ib_of (by omega) (by omega)
    refine ⟨n, s, n, _, _, _, _, e0_keep (by omega) hk h20 hsl hs, by rw [x8_keep, if_neg (by rw [t_eq, hui]; simp only [t_l]; omega), if_pos b, if_pos b, if_pos b, e8_keep_c (by omega) (by omega) hu], RB_mk (kept_head hwh hnow hok _ _ _ _ _ _ _) (kept_kp n s n _ _ _ _ (n + 1) (if_pos (by omega)) rfl (by omega) ?_), by omega⟩
    intro j hj
    by_cases hj0 : j = 0
    · subst hj0
      rw [show ((s + 1) % 20 + 19 - 0) % 20 = s by omega, show n + 1 - 1 - 0 = n by omega]
      exact kp_top hnow hok (by rw [upd_at, t_cl, hui, if_pos (by omega)]) (by rw [upd_at, t_cl, hui, if_pos (by omega)]) (by rw [upd_at, t_cl, hui, if_pos (by omega)])
    · rw [show ((s + 1) % 20 + 19 - j) % 20 = (s + 19 - (j - 1)) % 20 by omega, show n + 1 - 1 - j = n - 1 - (j - 1) by omega]
      refine kp_old (m0 := n - 1 - (j - 1)) (by omega) (by omega) (hall (j - 1) (by omega)) ?_ ?_ ?_ ?_
      · rw [upd_at, t_cl, hui, if_neg (by omega)]
      · rw [upd_at, t_cl, hui, if_neg (by omega)]
      · rw [upd_at, t_cl, hui, if_neg (by omega)]
      · intro k hk; rfl
