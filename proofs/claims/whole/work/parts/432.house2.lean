/-! the calls that change the house, on both sides -/
/-! what stays the same in the reference: groups of its fields -/
def sH (mo mo' : SMo) : Prop := ((mo'.f_wide = mo.f_wide ∧ mo'.f_high = mo.f_high ∧ mo'.f_things = mo.f_things ∧ mo'.f_doors = mo.f_doors ∧ mo'.f_outs = mo.f_outs ∧ mo'.f_squares = mo.f_squares) ∧
  (mo'.f_keptSquares = mo.f_keptSquares ∧ mo'.f_keptThings = mo.f_keptThings ∧ mo'.f_keptDoors = mo.f_keptDoors ∧ mo'.f_keptOuts = mo.f_keptOuts) ∧ mo'.f_undos = mo.f_undos)
def sL (mo mo' : SMo) : Prop := (mo'.f_rowMany = mo.f_rowMany ∧ mo'.f_rows = mo.f_rows) ∧ mo'.f_holdX = mo.f_holdX ∧ mo'.f_holdY = mo.f_holdY
def sF (mo mo' : SMo) : Prop := mo'.f_finding = mo.f_finding ∧ mo'.f_findings = mo.f_findings
def sE (mo mo' : SMo) : Prop := mo'.f_ends = mo.f_ends
def sT (mo mo' : SMo) : Prop := mo'.f_taken = mo.f_taken ∧ mo'.f_takenMany = mo.f_takenMany
def sD (mo mo' : SMo) : Prop := mo'.f_drafted = mo.f_drafted ∧ mo'.f_draftMany = mo.f_draftMany
/-- what the calls of the house leave alone -/
def sO (mo mo' : SMo) : Prop := sL mo mo' ∧ sF mo mo' ∧ sE mo mo' ∧ sT mo mo' ∧ sD mo mo'
theorem sO_rf (mo : SMo) : sO mo mo := ⟨⟨⟨rfl, rfl⟩, rfl, rfl⟩, ⟨rfl, rfl⟩, rfl, ⟨rfl, rfl⟩, ⟨rfl, rfl⟩⟩
theorem keptM_o (mo : SMo) (m : Nat) (kt kd ko ks : Nat → Int32) : sO mo (keptM mo m kt kd ko ks) := by
  simp only [sO, sL, sF, sE, sT, sD, keptM, SMo_finding, SMo_findings, SMo_wide, SMo_high, SMo_things, SMo_doors, SMo_outs, SMo_squares, SMo_undos, SMo_keptThings, SMo_keptDoors, SMo_keptOuts, SMo_keptSquares, SMo_ends, SMo_rowMany, SMo_rows, SMo_moving, SMo_holdX, SMo_holdY, SMo_way, SMo_bars, SMo_turnBars, SMo_grown, SMo_gone, SMo_pieceOf, SMo_todo, SMo_far, SMo_isIn, SMo_line, SMo_taken, SMo_takenMany, SMo_drafted, SMo_draftMany, and_self]
theorem kpAt_upd {bu bu' : SBu} {mo mo' : SMo} {c m : Nat} (ew : bu'.f_w = bu.f_w ∧ bu'.f_h = bu.f_h) (ek : bu'.f_oldSquares = bu.f_oldSquares ∧ bu'.f_oldThings = bu.f_oldThings ∧ bu'.f_oldDoorBits = bu.f_oldDoorBits ∧ bu'.f_oldOutBits = bu.f_oldOutBits)
    (em : mo'.f_keptSquares = mo.f_keptSquares ∧ mo'.f_keptThings = mo.f_keptThings ∧ mo'.f_keptDoors = mo.f_keptDoors ∧ mo'.f_keptOuts = mo.f_keptOuts) (h : kpAt bu mo c m) : kpAt bu' mo' c m := by
  unfold kpAt at h ⊢
  rw [ew.1, ew.2, ek.1, ek.2.1, ek.2.2.1, ek.2.2.2, em.1, em.2.1, em.2.2.1, em.2.2.2]
  exact h
theorem RB_upd {bu bu' : SBu} {mo mo' : SMo} (h : RB bu mo) (ew : bu'.f_w = bu.f_w ∧ bu'.f_h = bu.f_h) (ek : (bu'.f_oldSquares = bu.f_oldSquares ∧ bu'.f_oldThings = bu.f_oldThings ∧ bu'.f_oldDoorBits = bu.f_oldDoorBits ∧ bu'.f_oldOutBits = bu.f_oldOutBits) ∧ bu'.f_kept = bu.f_kept ∧ bu'.f_slot = bu.f_slot)
    (em : (mo'.f_keptSquares = mo.f_keptSquares ∧ mo'.f_keptThings = mo.f_keptThings ∧ mo'.f_keptDoors = mo.f_keptDoors ∧ mo'.f_keptOuts = mo.f_keptOuts) ∧ mo'.f_undos = mo.f_undos) (hn : nowR bu' mo') (ok : okB bu'.f_w bu'.f_h bu'.f_things bu'.f_doorBits bu'.f_squares) : RB bu' mo' := by
  obtain ⟨hwh, -, -, n, s, h1, h2, h3, h4, h5, h6⟩ := h
  exact ⟨by rw [ew.1, ew.2]; exact hwh, hn, ok, n, s, h1, h2, by rw [ek.2.1]; exact h3, by rw [ek.2.2]; exact h4, by rw [em.2]; exact h5, fun j hj => kpAt_upd ew ek.1 em.1 (h6 j hj)⟩
/-- what a call of the house gives on both sides -/
def stH (bu : SBu) (mo : SMo) (a : Option (Int32 × SBu)) (b : Option (Int32 × SMo)) : Prop :=
  ∃ r bu' mo', a = some (r, bu') ∧ b = some (r, mo') ∧ RB bu' mo' ∧ (bu'.f_w = bu.f_w ∧ bu'.f_h = bu.f_h) ∧ sO mo mo'
theorem stH_same {bu : SBu} {mo : SMo} (h : RB bu mo) (r : Int32) {a : Option (Int32 × SBu)} {b : Option (Int32 × SMo)} (ha : a = some (r, bu)) (hb : b = some (r, mo)) : stH bu mo a b := ⟨r, bu, mo, ha, hb, h, ⟨rfl, rfl⟩, sO_rf mo⟩
theorem RB_wh {bu : SBu} {mo : SMo} (h : RB bu mo) : whOk bu.f_w bu.f_h := h.1
theorem RB_now {bu : SBu} {mo : SMo} (h : RB bu mo) : nowR bu mo := h.2.1
theorem RB_ok {bu : SBu} {mo : SMo} (h : RB bu mo) : okB bu.f_w bu.f_h bu.f_things bu.f_doorBits bu.f_squares := h.2.2.1
theorem bt_bit {t : Int32} {k : Nat} (ht : t.toInt = k) (hk : k < 32) : bt ((1 : Int32) <<< (t &&& 31)) k = true := by
  rw [b_one ht hk hk]; simp
theorem bt_lt {x : Int32} {t : Nat} (h : bt x t = true) : t < 32 := by
  rcases Nat.lt_or_ge t 32 with h2 | h2
  · exact h2
  · rw [b_big h2] at h; exact absurd h (by decide)
/-- bits below 12 alone: 0 .. 4095 -/
theorem low12 {x : Int32} (h : ∀ t, t < 32 → bt x t = true → t < 12) : 0 ≤ x.toInt ∧ x.toInt < 4096 := by
  have e : x &&& 4095 = x := by
    apply b_ext
    intro i hi
    rw [b_and]
    cases hb : bt x i
    · rfl
    · rw [(by decide +kernel : ∀ j, j < 12 → bt 4095 j = true) i (h i hi hb)]; rfl
  have e2 : x.toBitVec &&& 4095#32 = x.toBitVec := by
    have := congrArg Int32.toBitVec e
    rwa [Int32.toBitVec_and] at this
  have h3 : x.toBitVec.toNat < 4096 := by
    rw [← e2, BitVec.toNat_and]
    exact Nat.lt_of_le_of_lt Nat.and_le_right (by decide)
  have h4 : x.toInt = x.toBitVec.toInt := rfl
  rw [h4, BitVec.toInt_eq_toNat_of_lt (by omega)]
  omega
theorem thing_both {F : Nat} (hF : 8000 < F) {bu : SBu} {mo : SMo} (h : RB bu mo) (ph : SPh) (d : Bool) : stH bu mo (x7_thing F bu ph (bi d)) (x8_thing F mo (bi d)) := by
  have hn := RB_now h
  have ok := RB_ok h
  rw [x7_thing, x8_thing]
  have e3 : mo.f_things = bu.f_things := hn.2.2.1
  have e4 : mo.f_doors = bu.f_doorBits := hn.2.2.2.1
  obtain ⟨⟨k1, k1'⟩, k2, k3, k4, k5⟩ := ok
  by_cases h12 : bu.f_things < 12
  · have h12' : bu.f_things.toInt < 12 := by rw [t_lt] at h12; simpa only [t_l] using h12
    rw [if_pos h12, if_neg (show ¬ mo.f_things = 12 by rw [e3, t_eq]; simp only [t_l]; omega)]
    obtain ⟨n, s, m, kt, kd, ko, ks, hk1, hk2, hk, hm⟩ := keep_both hF h
    obtain ⟨⟨a1, a2⟩, ⟨a3, a4, a5⟩, a6⟩ := keptB_f bu n s
    obtain ⟨⟨b1, b2⟩, ⟨b3, b4, b5⟩, b6⟩ := keptM_f mo m kt kd ko ks
    have hT : ((keptB bu n s).f_things + 1).toInt = bu.f_things.toInt + 1 := by rw [a3, t_add]; simp only [t_l]; omega
    have htn : bu.f_things.toInt = ((bu.f_things.toInt.toNat : Nat) : Int) := by omega
    cases d with
    | false =>
      simp only [bi_f0, if_true, x0_addThing, hk1, hk2, Option.bind_some]
      refine ⟨_, _, _, rfl, by rw [b3, a3, e3], ?_, ?_, ?_⟩
      · refine RB_upd hk ⟨?_, ?_⟩ ⟨⟨?_, ?_, ?_, ?_⟩, ?_, ?_⟩ ⟨⟨?_, ?_, ?_, ?_⟩, ?_⟩ ?_ ?_
        all_goals try (simp only [SBu_w, SBu_h, SBu_things, SBu_doorBits, SBu_outBits, SBu_squares, SBu_kept, SBu_slot, SBu_oldSquares, SBu_oldThings, SBu_oldDoorBits, SBu_oldOutBits, SMo_finding, SMo_findings, SMo_wide, SMo_high, SMo_things, SMo_doors, SMo_outs, SMo_squares, SMo_undos, SMo_keptThings, SMo_keptDoors, SMo_keptOuts, SMo_keptSquares, SMo_ends, SMo_rowMany, SMo_rows, SMo_moving, SMo_holdX, SMo_holdY, SMo_way, SMo_bars, SMo_turnBars, SMo_grown, SMo_gone, SMo_pieceOf, SMo_todo, SMo_far, SMo_isIn, SMo_line, SMo_taken, SMo_takenMany, SMo_drafted, SMo_draftMany]; done)
        · unfold nowR
          simp only [SBu_w, SBu_h, SBu_things, SBu_doorBits, SBu_outBits, SBu_squares, SBu_kept, SBu_slot, SBu_oldSquares, SBu_oldThings, SBu_oldDoorBits, SBu_oldOutBits, SMo_finding, SMo_findings, SMo_wide, SMo_high, SMo_things, SMo_doors, SMo_outs, SMo_squares, SMo_undos, SMo_keptThings, SMo_keptDoors, SMo_keptOuts, SMo_keptSquares, SMo_ends, SMo_rowMany, SMo_rows, SMo_moving, SMo_holdX, SMo_holdY, SMo_way, SMo_bars, SMo_turnBars, SMo_grown, SMo_gone, SMo_pieceOf, SMo_todo, SMo_far, SMo_isIn, SMo_line, SMo_taken, SMo_takenMany, SMo_drafted, SMo_draftMany, a1, a2, a3, a4, a5, a6, b1, b2, b3, b4, b5, b6]
          refine ⟨hn.1, hn.2.1, trivial, ?_, hn.2.2.2.2.1, hn.2.2.2.2.2⟩
          rw [e4]
          exact b_ext (fun i hi => by rw [b_or, b_0, Bool.or_false])
        · simp only [SBu_w, SBu_h, SBu_things, SBu_doorBits, SBu_outBits, SBu_squares, SBu_kept, SBu_slot, SBu_oldSquares, SBu_oldThings, SBu_oldDoorBits, SBu_oldOutBits, a1, a2, a3, a4, a6]
          rw [a3] at hT
          refine ⟨by omega, fun k hk t ht hb => by have := k2 k hk t ht hb; omega, k3, fun t ht hb => by have := k4 t ht hb; omega, k5⟩
      · simp only [SBu_w, SBu_h, SBu_things, SBu_doorBits, SBu_outBits, SBu_squares, SBu_kept, SBu_slot, SBu_oldSquares, SBu_oldThings, SBu_oldDoorBits, SBu_oldOutBits, a1, a2, and_self]
      · have := keptM_o mo m kt kd ko ks
        simp only [sO, sL, sF, sE, sT, sD, SMo_finding, SMo_findings, SMo_wide, SMo_high, SMo_things, SMo_doors, SMo_outs, SMo_squares, SMo_undos, SMo_keptThings, SMo_keptDoors, SMo_keptOuts, SMo_keptSquares, SMo_ends, SMo_rowMany, SMo_rows, SMo_moving, SMo_holdX, SMo_holdY, SMo_way, SMo_bars, SMo_turnBars, SMo_grown, SMo_gone, SMo_pieceOf, SMo_todo, SMo_far, SMo_isIn, SMo_line, SMo_taken, SMo_takenMany, SMo_drafted, SMo_draftMany] at this ⊢
        exact this
    | true =>
      obtain ⟨d0, d1⟩ := low12 (x := bu.f_doorBits) (fun t ht hb => by have := k4 t ht hb; omega)
      simp only [bi_t0, if_false, x0_addThing, hk1, hk2, Option.bind_some, e_bitCount d0 d1, e4, e8_bitsIn (show 12 < F by omega)]
      have hp := pcn_le bu.f_doorBits 12
      by_cases h6 : pcn bu.f_doorBits 12 < 6
      · rw [if_pos (show nI (pcn bu.f_doorBits 12) < 6 by rw [t_lt, t_nI (by omega)]; simp only [t_l]; omega), if_neg (show ¬ nI (pcn bu.f_doorBits 12) = 6 by rw [t_eq, t_nI (by omega)]; simp only [t_l]; omega)]
        refine ⟨_, _, _, rfl, by rw [b3, a3, e3], ?_, ?_, ?_⟩
        · refine RB_upd hk ⟨?_, ?_⟩ ⟨⟨?_, ?_, ?_, ?_⟩, ?_, ?_⟩ ⟨⟨?_, ?_, ?_, ?_⟩, ?_⟩ ?_ ?_
          all_goals try (simp only [SBu_w, SBu_h, SBu_things, SBu_doorBits, SBu_outBits, SBu_squares, SBu_kept, SBu_slot, SBu_oldSquares, SBu_oldThings, SBu_oldDoorBits, SBu_oldOutBits, SMo_finding, SMo_findings, SMo_wide, SMo_high, SMo_things, SMo_doors, SMo_outs, SMo_squares, SMo_undos, SMo_keptThings, SMo_keptDoors, SMo_keptOuts, SMo_keptSquares, SMo_ends, SMo_rowMany, SMo_rows, SMo_moving, SMo_holdX, SMo_holdY, SMo_way, SMo_bars, SMo_turnBars, SMo_grown, SMo_gone, SMo_pieceOf, SMo_todo, SMo_far, SMo_isIn, SMo_line, SMo_taken, SMo_takenMany, SMo_drafted, SMo_draftMany]; done)
          · unfold nowR
            simp only [SBu_w, SBu_h, SBu_things, SBu_doorBits, SBu_outBits, SBu_squares, SBu_kept, SBu_slot, SBu_oldSquares, SBu_oldThings, SBu_oldDoorBits, SBu_oldOutBits, SMo_finding, SMo_findings, SMo_wide, SMo_high, SMo_things, SMo_doors, SMo_outs, SMo_squares, SMo_undos, SMo_keptThings, SMo_keptDoors, SMo_keptOuts, SMo_keptSquares, SMo_ends, SMo_rowMany, SMo_rows, SMo_moving, SMo_holdX, SMo_holdY, SMo_way, SMo_bars, SMo_turnBars, SMo_grown, SMo_gone, SMo_pieceOf, SMo_todo, SMo_far, SMo_isIn, SMo_line, SMo_taken, SMo_takenMany, SMo_drafted, SMo_draftMany, a1, a2, a3, a4, a5, a6, b1, b2, b3, b4, b5, b6]
            exact ⟨hn.1, hn.2.1, trivial, by rw [e4], hn.2.2.2.2.1, hn.2.2.2.2.2⟩
          · simp only [SBu_w, SBu_h, SBu_things, SBu_doorBits, SBu_outBits, SBu_squares, SBu_kept, SBu_slot, SBu_oldSquares, SBu_oldThings, SBu_oldDoorBits, SBu_oldOutBits, a1, a2, a3, a4, a6]
            rw [a3] at hT
            have hz : bt bu.f_doorBits bu.f_things.toInt.toNat = false := by
              cases hb : bt bu.f_doorBits bu.f_things.toInt.toNat
              · rfl
              · have := k4 _ (by omega) hb; omega
            refine ⟨by omega, fun k hk t ht hb => by have := k2 k hk t ht hb; omega, k3, fun t ht hb => ?_, ?_⟩
            · rw [b_or, b_one htn (by omega) ht] at hb
              cases hb1 : bt bu.f_doorBits t
              · rw [hb1, Bool.false_or, decide_eq_true_eq] at hb; omega
              · have := k4 t ht hb1; omega
            · rw [pcn_set (k := bu.f_things.toInt.toNat) hz (by rw [b_or, bt_bit htn (by omega), Bool.or_true]) (fun i hi hne => by rw [b_or, b_one htn (by omega) hi, decide_eq_false hne, Bool.or_false]) 12 (by omega), if_pos (by omega)]
              omega
        · simp only [SBu_w, SBu_h, SBu_things, SBu_doorBits, SBu_outBits, SBu_squares, SBu_kept, SBu_slot, SBu_oldSquares, SBu_oldThings, SBu_oldDoorBits, SBu_oldOutBits, a1, a2, and_self]
        · have := keptM_o mo m kt kd ko ks
          simp only [sO, sL, sF, sE, sT, sD, SMo_finding, SMo_findings, SMo_wide, SMo_high, SMo_things, SMo_doors, SMo_outs, SMo_squares, SMo_undos, SMo_keptThings, SMo_keptDoors, SMo_keptOuts, SMo_keptSquares, SMo_ends, SMo_rowMany, SMo_rows, SMo_moving, SMo_holdX, SMo_holdY, SMo_way, SMo_bars, SMo_turnBars, SMo_grown, SMo_gone, SMo_pieceOf, SMo_todo, SMo_far, SMo_isIn, SMo_line, SMo_taken, SMo_takenMany, SMo_drafted, SMo_draftMany] at this ⊢
          exact this
      · rw [if_neg (show ¬ nI (pcn bu.f_doorBits 12) < 6 by rw [t_lt, t_nI (by omega)]; simp only [t_l]; omega), if_pos (show nI (pcn bu.f_doorBits 12) = 6 by rw [t_eq, t_nI (by omega)]; simp only [t_l]; omega)]
        exact stH_same h _ rfl rfl
  · have h12' : ¬ bu.f_things.toInt < 12 := by rw [t_lt] at h12; simpa only [t_l] using h12
    rw [if_neg h12, if_pos (show mo.f_things = 12 by rw [e3, t_eq]; simp only [t_l]; omega)]
    exact stH_same h _ rfl rfl
