/-! all bars set; begin and layOut -/
def BSQ (br tb : Nat → Int32) (w h : Nat) (C : Nat → Int → Int → Prop) (T : Int → Int → Nat → Prop) (D : Nat → Nat → Prop) : Prop := ∀ x y : Nat, x ≤ w → y ≤ h → D x y →
  (∀ q, q < 4 → ∀ t, t < 32 → (bt (br (441 * q + 21 * y + x)) t = true ↔ BX (C q) T x y t)) ∧ ∀ t, t < 32 → (bt (tb (21 * y + x)) t = true ↔ BX (C 4) T x y t)
theorem s_bt (mo : SMo) (tb br c : Nat → Int32) : SMo.s_turnBars (SMo.s_bars (SMo.s_turnBars mo tb) br) c = SMo.s_bars (SMo.s_turnBars mo c) br := SMo_ext (by simp only [SMo_finding, SMo_findings, SMo_wide, SMo_high, SMo_things, SMo_doors, SMo_outs, SMo_squares, SMo_undos, SMo_keptThings, SMo_keptDoors, SMo_keptOuts, SMo_keptSquares, SMo_ends, SMo_rowMany, SMo_rows, SMo_moving, SMo_holdX, SMo_holdY, SMo_way, SMo_bars, SMo_turnBars, SMo_grown, SMo_gone, SMo_pieceOf, SMo_todo, SMo_far, SMo_isIn, SMo_line, SMo_taken, SMo_takenMany, SMo_drafted, SMo_draftMany, and_self])
theorem s_bb (mo : SMo) (br c : Nat → Int32) : SMo.s_bars (SMo.s_bars mo br) c = SMo.s_bars mo c := SMo_ext (by simp only [SMo_finding, SMo_findings, SMo_wide, SMo_high, SMo_things, SMo_doors, SMo_outs, SMo_squares, SMo_undos, SMo_keptThings, SMo_keptDoors, SMo_keptOuts, SMo_keptSquares, SMo_ends, SMo_rowMany, SMo_rows, SMo_moving, SMo_holdX, SMo_holdY, SMo_way, SMo_bars, SMo_turnBars, SMo_grown, SMo_gone, SMo_pieceOf, SMo_todo, SMo_far, SMo_isIn, SMo_line, SMo_taken, SMo_takenMany, SMo_drafted, SMo_draftMany, and_self])
theorem s_b_self (mo : SMo) : SMo.s_bars (SMo.s_turnBars mo (SMo.f_turnBars mo)) (SMo.f_bars mo) = mo := SMo_ext (by simp only [SMo_finding, SMo_findings, SMo_wide, SMo_high, SMo_things, SMo_doors, SMo_outs, SMo_squares, SMo_undos, SMo_keptThings, SMo_keptDoors, SMo_keptOuts, SMo_keptSquares, SMo_ends, SMo_rowMany, SMo_rows, SMo_moving, SMo_holdX, SMo_holdY, SMo_way, SMo_bars, SMo_turnBars, SMo_grown, SMo_gone, SMo_pieceOf, SMo_todo, SMo_far, SMo_isIn, SMo_line, SMo_taken, SMo_takenMany, SMo_drafted, SMo_draftMany, and_self])
theorem CL_q {f : Nat → Int32} {a b n q : Nat} (hq : q < 4) : CL f a b n q = CQ f a b q (6 * n) := by funext u v; unfold CL; rw [if_neg (by omega)]
theorem CL_4 {f : Nat → Int32} {a b n : Nat} : CL f a b n 4 = CN (frQ f a b (6 * n)) := by funext u v; unfold CL; rw [if_pos rfl]
theorem RL_bars {lo : SLo} {mo : SMo} (h : RLo lo mo) (tb br : Nat → Int32) : RLo lo (SMo.s_bars (SMo.s_turnBars mo tb) br) := RL_upd h (by simp only [sL, SMo_finding, SMo_findings, SMo_wide, SMo_high, SMo_things, SMo_doors, SMo_outs, SMo_squares, SMo_undos, SMo_keptThings, SMo_keptDoors, SMo_keptOuts, SMo_keptSquares, SMo_ends, SMo_rowMany, SMo_rows, SMo_moving, SMo_holdX, SMo_holdY, SMo_way, SMo_bars, SMo_turnBars, SMo_grown, SMo_gone, SMo_pieceOf, SMo_todo, SMo_far, SMo_isIn, SMo_line, SMo_taken, SMo_takenMany, SMo_drafted, SMo_draftMany, and_self])
theorem e8_place {F : Nat} (hF : 60 < F) {lo : SLo} {mo : SMo} (h : RLo lo mo) {w hh : Int32} {sq : Nat → Int32} {o : Int32} {m : Nat} (m1 : mo.f_wide = w) (m2 : mo.f_high = hh) (hg : WG mo.f_way w hh sq o m) (hw : whOk w hh) {C : Nat → Int → Int → Prop} (hC : C = CL lo.f_bits lo.f_hx.toInt.toNat lo.f_hy.toInt.toNat lo.f_count.toInt.toNat) {p2 x3 x4 : Int32} {x y : Nat} (hx : x4.toInt = x) (hy : x3.toInt = y) (hx20 : (x : Int) ≤ w.toInt) (hy20 : (y : Int) ≤ hh.toInt) (o27 o16 : Int32 → SMo → Option SMo) (tb br : Nat → Int32) :
    ∃ br', x8_setBars_L59 F p2 x3 x4 o27 o16 F 0 (SMo.s_bars (SMo.s_turnBars mo tb) br) = o27 (x4 + 1) (SMo.s_bars (SMo.s_turnBars mo tb) br') ∧ (∀ q, q < 4 → ∀ t, t < 32 → (bt (br' (441 * q + 21 * y + x)) t = true ↔ BX (C q) (BT w hh sq o m) x y t)) ∧ ∀ x' y' q : Nat, x' ≤ 20 → y' ≤ 20 → q < 4 → ¬ (x' = x ∧ y' = y) → br' (441 * q + 21 * y' + x') = br (441 * q + 21 * y' + x') := by
  have w0 := hw
  obtain ⟨w1, w2⟩ := hw
  refine for_nat (fun k i br => x8_setBars_L59 F p2 x3 x4 o27 o16 k i (SMo.s_bars (SMo.s_turnBars mo tb) br)) 4 (by decide) (fun j br' => (∀ q, q < j → ∀ t, t < 32 → (bt (br' (441 * q + 21 * y + x)) t = true ↔ BX (C q) (BT w hh sq o m) x y t)) ∧ ∀ x' y' q : Nat, x' ≤ 20 → y' ≤ 20 → q < 4 → ¬ (x' = x ∧ y' = y) → br' (441 * q + 21 * y' + x') = br (441 * q + 21 * y' + x'))
    (fun res => ∃ br', res = o27 (x4 + 1) (SMo.s_bars (SMo.s_turnBars mo tb) br') ∧ (∀ q, q < 4 → ∀ t, t < 32 → (bt (br' (441 * q + 21 * y + x)) t = true ↔ BX (C q) (BT w hh sq o m) x y t)) ∧ ∀ x' y' q : Nat, x' ≤ 20 → y' ≤ 20 → q < 4 → ¬ (x' = x ∧ y' = y) → br' (441 * q + 21 * y' + x') = br (441 * q + 21 * y' + x')) ?_ ?_ F 0 0 br rfl (by omega) (by omega) ⟨fun q hq => absurd hq (Nat.not_lt_zero q), fun _ _ _ _ _ _ _ => rfl⟩
  · intro k i b2 hi hb
    refine ⟨b2, ?_, hb.1, hb.2⟩
    show x8_setBars_L59 _ _ _ _ _ _ _ _ _ = _
    rw [x8_setBars_L59, if_pos (by rw [t_le]; simp only [t_l]; omega)]
  · intro k i b2 j hi hj hb
    have ei : i = nI j := t_eqnI hi
    obtain ⟨r, er, hr⟩ := e8_barAt hF (RL_bars h tb b2) (w := w) (hh := hh) (sq := sq) (o := o) (m := m) (by simp only [SMo_finding, SMo_findings, SMo_wide, SMo_high, SMo_things, SMo_doors, SMo_outs, SMo_squares, SMo_undos, SMo_keptThings, SMo_keptDoors, SMo_keptOuts, SMo_keptSquares, SMo_ends, SMo_rowMany, SMo_rows, SMo_moving, SMo_holdX, SMo_holdY, SMo_way, SMo_bars, SMo_turnBars, SMo_grown, SMo_gone, SMo_pieceOf, SMo_todo, SMo_far, SMo_isIn, SMo_line, SMo_taken, SMo_takenMany, SMo_drafted, SMo_draftMany]; exact m1) (by simp only [SMo_finding, SMo_findings, SMo_wide, SMo_high, SMo_things, SMo_doors, SMo_outs, SMo_squares, SMo_undos, SMo_keptThings, SMo_keptDoors, SMo_keptOuts, SMo_keptSquares, SMo_ends, SMo_rowMany, SMo_rows, SMo_moving, SMo_holdX, SMo_holdY, SMo_way, SMo_bars, SMo_turnBars, SMo_grown, SMo_gone, SMo_pieceOf, SMo_todo, SMo_far, SMo_isIn, SMo_line, SMo_taken, SMo_takenMany, SMo_drafted, SMo_draftMany]; exact m2) (by simp only [SMo_finding, SMo_findings, SMo_wide, SMo_high, SMo_things, SMo_doors, SMo_outs, SMo_squares, SMo_undos, SMo_keptThings, SMo_keptDoors, SMo_keptOuts, SMo_keptSquares, SMo_ends, SMo_rowMany, SMo_rows, SMo_moving, SMo_holdX, SMo_holdY, SMo_way, SMo_bars, SMo_turnBars, SMo_grown, SMo_gone, SMo_pieceOf, SMo_todo, SMo_far, SMo_isIn, SMo_line, SMo_taken, SMo_takenMany, SMo_drafted, SMo_draftMany]; exact hg) w0 hx hy (by omega) (by omega) hj
    have e : (441 * i + 21 * x3 + x4).toInt = ((441 * j + 21 * y + x : Nat) : Int) := t_addN (t_addN (t_mulN l_441 hi (by omega)) (t_mulN l_21 hy (by omega)) (by omega)) hx (by omega)
    refine Or.inl ⟨upd b2 (441 * j + 21 * y + x) r, ⟨fun q hq t ht => ?_, fun x' y' q hx' hy' hq hne => ?_⟩, ?_⟩
    · rw [upd_at]
      by_cases hqj : q = j
      · rw [if_pos (by omega), hqj, hr t ht, hC, CL_q hj]
      · rw [if_neg (by omega)]; exact hb.1 q (by omega) t ht
    · rw [upd_at, if_neg (by omega)]; exact hb.2 x' y' q hx' hy' hq hne
    · show x8_setBars_L59 _ _ _ _ _ _ _ _ _ = _
      rw [x8_setBars_L59, if_neg (show ¬ 4 ≤ i by rw [t_le]; simp only [t_l]; omega), ei, er, Option.bind_some, ← ei, if_pos (ib_of (by omega) (by omega)), s_bb, t_cl, e, Int.toNat_natCast]
      simp only [SMo_finding, SMo_findings, SMo_wide, SMo_high, SMo_things, SMo_doors, SMo_outs, SMo_squares, SMo_undos, SMo_keptThings, SMo_keptDoors, SMo_keptOuts, SMo_keptSquares, SMo_ends, SMo_rowMany, SMo_rows, SMo_moving, SMo_holdX, SMo_holdY, SMo_way, SMo_bars, SMo_turnBars, SMo_grown, SMo_gone, SMo_pieceOf, SMo_todo, SMo_far, SMo_isIn, SMo_line, SMo_taken, SMo_takenMany, SMo_drafted, SMo_draftMany]
theorem e8_lines {F : Nat} (hF : 60 < F) {lo : SLo} {mo : SMo} (h : RLo lo mo) {w hh : Int32} {sq : Nat → Int32} {o : Int32} {m : Nat} (m1 : mo.f_wide = w) (m2 : mo.f_high = hh) (hg : WG mo.f_way w hh sq o m) (hw : whOk w hh) {C : Nat → Int → Int → Prop} (hC : C = CL lo.f_bits lo.f_hx.toInt.toNat lo.f_hy.toInt.toNat lo.f_count.toInt.toNat) {p2 : Int32} (hp : p2 = nI (frQ lo.f_bits lo.f_hx.toInt.toNat lo.f_hy.toInt.toNat (6 * lo.f_count.toInt.toNat))) :
    ∃ tb br, x8_setBars_L16 F p2 F 0 mo = some (SMo.s_bars (SMo.s_turnBars mo tb) br) ∧ BSQ br tb w.toInt.toNat hh.toInt.toNat C (BT w hh sq o m) (fun _ _ => True) := by
  have w0 := hw
  obtain ⟨w1, w2⟩ := hw
  have h0 := h.1
  have hhx := h.2.2.1
  have hfr := frQ_le (f := lo.f_bits) (a := lo.f_hx.toInt.toNat) (b := lo.f_hy.toInt.toNat) (by omega) (by omega) (6 * lo.f_count.toInt.toNat) (by omega)
  have start : x8_setBars_L16 F p2 F 0 mo = x8_setBars_L16 F p2 F 0 (SMo.s_bars (SMo.s_turnBars mo mo.f_turnBars) mo.f_bars) := by rw [s_b_self]
  rw [start]
  refine for_nat (fun k i (s : (Nat → Int32) × (Nat → Int32)) => x8_setBars_L16 F p2 k i (SMo.s_bars (SMo.s_turnBars mo s.1) s.2)) (hh.toInt.toNat + 1) (by omega) (fun j s => BSQ s.2 s.1 w.toInt.toNat hh.toInt.toNat C (BT w hh sq o m) (fun _ y => y < j))
    (fun res => ∃ tb br, res = some (SMo.s_bars (SMo.s_turnBars mo tb) br) ∧ BSQ br tb w.toInt.toNat hh.toInt.toNat C (BT w hh sq o m) (fun _ _ => True)) ?_ ?_ F 0 0 (mo.f_turnBars, mo.f_bars) rfl (by omega) (by omega) (fun x y _ _ hy => absurd hy (Nat.not_lt_zero y))
  · intro k i s hi hs
    refine ⟨s.1, s.2, ?_, fun x y hx hy _ => hs x y hx hy (by omega)⟩
    show x8_setBars_L16 _ _ _ _ _ = _
    rw [x8_setBars_L16, if_pos (by simp only [SMo_finding, SMo_findings, SMo_wide, SMo_high, SMo_things, SMo_doors, SMo_outs, SMo_squares, SMo_undos, SMo_keptThings, SMo_keptDoors, SMo_keptOuts, SMo_keptSquares, SMo_ends, SMo_rowMany, SMo_rows, SMo_moving, SMo_holdX, SMo_holdY, SMo_way, SMo_bars, SMo_turnBars, SMo_grown, SMo_gone, SMo_pieceOf, SMo_todo, SMo_far, SMo_isIn, SMo_line, SMo_taken, SMo_takenMany, SMo_drafted, SMo_draftMany]; rw [m2, t_lt]; omega)]
  · intro k i s j hi hj hs
    have key : ∃ s' : (Nat → Int32) × (Nat → Int32), x8_setBars_L27 F p2 i (x8_setBars_L16 F p2 k) F 0 (SMo.s_bars (SMo.s_turnBars mo s.1) s.2) = x8_setBars_L16 F p2 k (i + 1) (SMo.s_bars (SMo.s_turnBars mo s'.1) s'.2) ∧ BSQ s'.2 s'.1 w.toInt.toNat hh.toInt.toNat C (BT w hh sq o m) (fun _ y => y < j + 1) := by
      refine for_nat (fun k2 i2 (s : (Nat → Int32) × (Nat → Int32)) => x8_setBars_L27 F p2 i (x8_setBars_L16 F p2 k) k2 i2 (SMo.s_bars (SMo.s_turnBars mo s.1) s.2)) (w.toInt.toNat + 1) (by omega) (fun j2 s => BSQ s.2 s.1 w.toInt.toNat hh.toInt.toNat C (BT w hh sq o m) (fun x y => y < j ∨ y = j ∧ x < j2))
        (fun res => ∃ s' : (Nat → Int32) × (Nat → Int32), res = x8_setBars_L16 F p2 k (i + 1) (SMo.s_bars (SMo.s_turnBars mo s'.1) s'.2) ∧ BSQ s'.2 s'.1 w.toInt.toNat hh.toInt.toNat C (BT w hh sq o m) (fun _ y => y < j + 1)) ?_ ?_ F 0 0 s rfl (by omega) (by omega) (fun x y hx hy hd => hs x y hx hy (by omega))
      · intro k2 i2 s2 hi2 hs2
        refine ⟨s2, ?_, fun x y hx hy hd => hs2 x y hx hy (by omega)⟩
        show x8_setBars_L27 _ _ _ _ _ _ _ = _
        rw [x8_setBars_L27, if_pos (by simp only [SMo_finding, SMo_findings, SMo_wide, SMo_high, SMo_things, SMo_doors, SMo_outs, SMo_squares, SMo_undos, SMo_keptThings, SMo_keptDoors, SMo_keptOuts, SMo_keptSquares, SMo_ends, SMo_rowMany, SMo_rows, SMo_moving, SMo_holdX, SMo_holdY, SMo_way, SMo_bars, SMo_turnBars, SMo_grown, SMo_gone, SMo_pieceOf, SMo_todo, SMo_far, SMo_isIn, SMo_line, SMo_taken, SMo_takenMany, SMo_drafted, SMo_draftMany]; rw [m1, t_lt]; omega)]
      · intro k2 i2 s2 j2 hi2 hj2 hs2
        obtain ⟨v, ev, hv⟩ := e8_turnBarAt (F := F) hF (p3 := p2) (mo := SMo.s_bars (SMo.s_turnBars mo s2.1) s2.2) (w := w) (hh := hh) (sq := sq) (o := o) (m := m) (by simp only [SMo_finding, SMo_findings, SMo_wide, SMo_high, SMo_things, SMo_doors, SMo_outs, SMo_squares, SMo_undos, SMo_keptThings, SMo_keptDoors, SMo_keptOuts, SMo_keptSquares, SMo_ends, SMo_rowMany, SMo_rows, SMo_moving, SMo_holdX, SMo_holdY, SMo_way, SMo_bars, SMo_turnBars, SMo_grown, SMo_gone, SMo_pieceOf, SMo_todo, SMo_far, SMo_isIn, SMo_line, SMo_taken, SMo_takenMany, SMo_drafted, SMo_draftMany]; exact m1) (by simp only [SMo_finding, SMo_findings, SMo_wide, SMo_high, SMo_things, SMo_doors, SMo_outs, SMo_squares, SMo_undos, SMo_keptThings, SMo_keptDoors, SMo_keptOuts, SMo_keptSquares, SMo_ends, SMo_rowMany, SMo_rows, SMo_moving, SMo_holdX, SMo_holdY, SMo_way, SMo_bars, SMo_turnBars, SMo_grown, SMo_gone, SMo_pieceOf, SMo_todo, SMo_far, SMo_isIn, SMo_line, SMo_taken, SMo_takenMany, SMo_drafted, SMo_draftMany]; exact m2) (by simp only [SMo_finding, SMo_findings, SMo_wide, SMo_high, SMo_things, SMo_doors, SMo_outs, SMo_squares, SMo_undos, SMo_keptThings, SMo_keptDoors, SMo_keptOuts, SMo_keptSquares, SMo_ends, SMo_rowMany, SMo_rows, SMo_moving, SMo_holdX, SMo_holdY, SMo_way, SMo_bars, SMo_turnBars, SMo_grown, SMo_gone, SMo_pieceOf, SMo_todo, SMo_far, SMo_isIn, SMo_line, SMo_taken, SMo_takenMany, SMo_drafted, SMo_draftMany]; exact hg) w0 hi2 hi (by omega) (by omega) (r := frQ lo.f_bits lo.f_hx.toInt.toNat lo.f_hy.toInt.toNat (6 * lo.f_count.toInt.toNat)) (by rw [hp, t_nI (by omega)]) hfr
        have e : (21 * i + i2).toInt = ((21 * j + j2 : Nat) : Int) := t_addN (t_mulN l_21 hi (by omega)) hi2 (by omega)
        obtain ⟨br', e2, hq, hold⟩ := e8_place hF h m1 m2 hg w0 hC (p2 := p2) hi2 hi (by omega) (by omega) (x8_setBars_L27 F p2 i (x8_setBars_L16 F p2 k) k2) (x8_setBars_L16 F p2 k) (upd s2.1 (21 * j + j2) v) s2.2
        refine Or.inl ⟨(upd s2.1 (21 * j + j2) v, br'), fun x y hx hy hd => ?_, ?_⟩
        · by_cases hxy : x = j2 ∧ y = j
          · rw [hxy.1, hxy.2]
            refine ⟨hq, fun t ht => ?_⟩
            show bt (upd s2.1 (21 * j + j2) v (21 * j + j2)) t = true ↔ _
            rw [upd_at, if_pos rfl, hv t ht, hC, CL_4]
          · obtain ⟨g1, g2⟩ := hs2 x y hx hy (by omega)
            refine ⟨fun q hq4 t ht => ?_, fun t ht => ?_⟩
            · show bt (br' (441 * q + 21 * y + x)) t = true ↔ _
              rw [hold x y q (by omega) (by omega) hq4 hxy]; exact g1 q hq4 t ht
            · show bt (upd s2.1 (21 * j + j2) v (21 * y + x)) t = true ↔ _
              rw [upd_at, if_neg (by omega)]; exact g2 t ht
        · show x8_setBars_L27 _ _ _ _ _ _ _ = _
          rw [x8_setBars_L27, if_neg (by simp only [SMo_finding, SMo_findings, SMo_wide, SMo_high, SMo_things, SMo_doors, SMo_outs, SMo_squares, SMo_undos, SMo_keptThings, SMo_keptDoors, SMo_keptOuts, SMo_keptSquares, SMo_ends, SMo_rowMany, SMo_rows, SMo_moving, SMo_holdX, SMo_holdY, SMo_way, SMo_bars, SMo_turnBars, SMo_grown, SMo_gone, SMo_pieceOf, SMo_todo, SMo_far, SMo_isIn, SMo_line, SMo_taken, SMo_takenMany, SMo_drafted, SMo_draftMany]; rw [m1, t_lt]; omega), ev, Option.bind_some, if_pos (ib_of (by omega) (by omega)), s_bt, t_cl, e, Int.toNat_natCast]
          simp only [SMo_finding, SMo_findings, SMo_wide, SMo_high, SMo_things, SMo_doors, SMo_outs, SMo_squares, SMo_undos, SMo_keptThings, SMo_keptDoors, SMo_keptOuts, SMo_keptSquares, SMo_ends, SMo_rowMany, SMo_rows, SMo_moving, SMo_holdX, SMo_holdY, SMo_way, SMo_bars, SMo_turnBars, SMo_grown, SMo_gone, SMo_pieceOf, SMo_todo, SMo_far, SMo_isIn, SMo_line, SMo_taken, SMo_takenMany, SMo_drafted, SMo_draftMany]
          exact e2
    obtain ⟨s', e, hs'⟩ := key
    refine Or.inl ⟨s', hs', ?_⟩
    show x8_setBars_L16 _ _ _ _ _ = _
    rw [x8_setBars_L16, if_neg (by simp only [SMo_finding, SMo_findings, SMo_wide, SMo_high, SMo_things, SMo_doors, SMo_outs, SMo_squares, SMo_undos, SMo_keptThings, SMo_keptDoors, SMo_keptOuts, SMo_keptSquares, SMo_ends, SMo_rowMany, SMo_rows, SMo_moving, SMo_holdX, SMo_holdY, SMo_way, SMo_bars, SMo_turnBars, SMo_grown, SMo_gone, SMo_pieceOf, SMo_todo, SMo_far, SMo_isIn, SMo_line, SMo_taken, SMo_takenMany, SMo_drafted, SMo_draftMany]; rw [m2, t_lt]; omega), e]
/-- all that lasts in the reference is the same -/
def sA (mo mo' : SMo) : Prop := sH mo mo' ∧ sO mo mo'
theorem sA_rf (mo : SMo) : sA mo mo := ⟨(sQ_rf mo).1, sO_rf mo⟩
theorem sH_tr {a b c : SMo} (h : sH a b) (k : sH b c) : sH a c := by
  obtain ⟨⟨p1, p2, p3, p4, p5, p6⟩, ⟨p7, p8, p9, p10⟩, p11⟩ := h
  obtain ⟨⟨q1, q2, q3, q4, q5, q6⟩, ⟨q7, q8, q9, q10⟩, q11⟩ := k
  exact ⟨⟨q1.trans p1, q2.trans p2, q3.trans p3, q4.trans p4, q5.trans p5, q6.trans p6⟩, ⟨q7.trans p7, q8.trans p8, q9.trans p9, q10.trans p10⟩, q11.trans p11⟩
theorem sA_tr {a b c : SMo} (h : sA a b) (k : sA b c) : sA a c := ⟨sH_tr h.1 k.1, sO_tr h.2 k.2⟩
theorem RB_sH {bu : SBu} {mo mo' : SMo} (h : RB bu mo) (e : sH mo mo') : RB bu mo' := by
  obtain ⟨⟨p1, p2, p3, p4, p5, p6⟩, p7, p11⟩ := e
  refine RB_upd h ⟨rfl, rfl⟩ ⟨⟨rfl, rfl, rfl, rfl⟩, rfl, rfl⟩ ⟨p7, p11⟩ ?_ (RB_ok h)
  have hn := RB_now h
  unfold nowR at hn ⊢
  rw [p1, p2, p3, p4, p5, p6]; exact hn
theorem BT_sq {w h : Int32} {sq sq' : Nat → Int32} {o : Int32} {n : Nat} (hw : whOk w h) (e : ∀ k, k < 400 → sq' k = sq k) (X Y : Int) (t : Nat) : BT w h sq' o n X Y t ↔ BT w h sq o n X Y t := by
  obtain ⟨w1, w2⟩ := hw
  have b0 : ∀ a b, B0 w h sq' o a b t ↔ B0 w h sq o a b t := fun a b => by
    unfold B0
    refine or_congr ?_ Iff.rfl
    refine and_congr_right (fun hi => ?_)
    unfold inH at hi
    rw [e _ (by omega)]
  have bn : BN w h sq' o n X Y t ↔ BN w h sq o n X Y t := by
    unfold BN
    exact ⟨fun ⟨a, b, c1, c2, c3⟩ => ⟨a, b, c1, c2, (b0 a b).mp c3⟩, fun ⟨a, b, c1, c2, c3⟩ => ⟨a, b, c1, c2, (b0 a b).mpr c3⟩⟩
  unfold BT
  rw [bn]
theorem e8_setBars {F : Nat} (hF : 60 < F) {bu : SBu} {lo : SLo} {mo : SMo} (hb : RB bu mo) (h : RLo lo mo) {m : Nat} (hm : m ≤ 9) : ∃ mo', x8_setBars F mo (nI m) = some mo' ∧ sA mo mo' ∧ mo'.f_gone = mo.f_gone ∧ BSQ mo'.f_bars mo'.f_turnBars bu.f_w.toInt.toNat bu.f_h.toInt.toNat (CL lo.f_bits lo.f_hx.toInt.toNat lo.f_hy.toInt.toNat lo.f_count.toInt.toNat) (BT bu.f_w bu.f_h bu.f_squares bu.f_outBits m) (fun _ _ => True) := by
  have hw := RB_wh hb
  have hn := RB_now hb
  have hMG : MG (SMo.s_grown mo (nI m)) bu.f_w bu.f_h mo.f_squares bu.f_outBits m := by
    unfold MG; simp only [SMo_finding, SMo_findings, SMo_wide, SMo_high, SMo_things, SMo_doors, SMo_outs, SMo_squares, SMo_undos, SMo_keptThings, SMo_keptDoors, SMo_keptOuts, SMo_keptSquares, SMo_ends, SMo_rowMany, SMo_rows, SMo_moving, SMo_holdX, SMo_holdY, SMo_way, SMo_bars, SMo_turnBars, SMo_grown, SMo_gone, SMo_pieceOf, SMo_todo, SMo_far, SMo_isIn, SMo_line, SMo_taken, SMo_takenMany, SMo_drafted, SMo_draftMany]; exact ⟨hn.1, hn.2.1, trivial, hn.2.2.2.2.1, trivial⟩
  obtain ⟨g, e1, hg⟩ := e8_setSquares hF hMG hw hm
  have hRL : RLo lo (SMo.s_way (SMo.s_grown mo (nI m)) g) := RL_upd h (by simp only [sL, SMo_finding, SMo_findings, SMo_wide, SMo_high, SMo_things, SMo_doors, SMo_outs, SMo_squares, SMo_undos, SMo_keptThings, SMo_keptDoors, SMo_keptOuts, SMo_keptSquares, SMo_ends, SMo_rowMany, SMo_rows, SMo_moving, SMo_holdX, SMo_holdY, SMo_way, SMo_bars, SMo_turnBars, SMo_grown, SMo_gone, SMo_pieceOf, SMo_todo, SMo_far, SMo_isIn, SMo_line, SMo_taken, SMo_takenMany, SMo_drafted, SMo_draftMany, and_self])
  obtain ⟨tb, br, e2, hbs⟩ := e8_lines hF hRL (w := bu.f_w) (hh := bu.f_h) (sq := mo.f_squares) (o := bu.f_outBits) (m := m) (by simp only [SMo_finding, SMo_findings, SMo_wide, SMo_high, SMo_things, SMo_doors, SMo_outs, SMo_squares, SMo_undos, SMo_keptThings, SMo_keptDoors, SMo_keptOuts, SMo_keptSquares, SMo_ends, SMo_rowMany, SMo_rows, SMo_moving, SMo_holdX, SMo_holdY, SMo_way, SMo_bars, SMo_turnBars, SMo_grown, SMo_gone, SMo_pieceOf, SMo_todo, SMo_far, SMo_isIn, SMo_line, SMo_taken, SMo_takenMany, SMo_drafted, SMo_draftMany]; exact hn.1) (by simp only [SMo_finding, SMo_findings, SMo_wide, SMo_high, SMo_things, SMo_doors, SMo_outs, SMo_squares, SMo_undos, SMo_keptThings, SMo_keptDoors, SMo_keptOuts, SMo_keptSquares, SMo_ends, SMo_rowMany, SMo_rows, SMo_moving, SMo_holdX, SMo_holdY, SMo_way, SMo_bars, SMo_turnBars, SMo_grown, SMo_gone, SMo_pieceOf, SMo_todo, SMo_far, SMo_isIn, SMo_line, SMo_taken, SMo_takenMany, SMo_drafted, SMo_draftMany]; exact hn.2.1) (by simp only [SMo_finding, SMo_findings, SMo_wide, SMo_high, SMo_things, SMo_doors, SMo_outs, SMo_squares, SMo_undos, SMo_keptThings, SMo_keptDoors, SMo_keptOuts, SMo_keptSquares, SMo_ends, SMo_rowMany, SMo_rows, SMo_moving, SMo_holdX, SMo_holdY, SMo_way, SMo_bars, SMo_turnBars, SMo_grown, SMo_gone, SMo_pieceOf, SMo_todo, SMo_far, SMo_isIn, SMo_line, SMo_taken, SMo_takenMany, SMo_drafted, SMo_draftMany]; exact hg) hw rfl rfl
  refine ⟨_, by rw [x8_setBars, e1, Option.bind_some, e8_farthest (by omega) hRL, Option.bind_some, e2], ?_, ?_, ?_⟩
  · simp only [sA, sH, sO, sL, sF, sE, sT, sD, SMo_finding, SMo_findings, SMo_wide, SMo_high, SMo_things, SMo_doors, SMo_outs, SMo_squares, SMo_undos, SMo_keptThings, SMo_keptDoors, SMo_keptOuts, SMo_keptSquares, SMo_ends, SMo_rowMany, SMo_rows, SMo_moving, SMo_holdX, SMo_holdY, SMo_way, SMo_bars, SMo_turnBars, SMo_grown, SMo_gone, SMo_pieceOf, SMo_todo, SMo_far, SMo_isIn, SMo_line, SMo_taken, SMo_takenMany, SMo_drafted, SMo_draftMany, and_self]
  · simp only [SMo_finding, SMo_findings, SMo_wide, SMo_high, SMo_things, SMo_doors, SMo_outs, SMo_squares, SMo_undos, SMo_keptThings, SMo_keptDoors, SMo_keptOuts, SMo_keptSquares, SMo_ends, SMo_rowMany, SMo_rows, SMo_moving, SMo_holdX, SMo_holdY, SMo_way, SMo_bars, SMo_turnBars, SMo_grown, SMo_gone, SMo_pieceOf, SMo_todo, SMo_far, SMo_isIn, SMo_line, SMo_taken, SMo_takenMany, SMo_drafted, SMo_draftMany]
  · simp only [SMo_finding, SMo_findings, SMo_wide, SMo_high, SMo_things, SMo_doors, SMo_outs, SMo_squares, SMo_undos, SMo_keptThings, SMo_keptDoors, SMo_keptOuts, SMo_keptSquares, SMo_ends, SMo_rowMany, SMo_rows, SMo_moving, SMo_holdX, SMo_holdY, SMo_way, SMo_bars, SMo_turnBars, SMo_grown, SMo_gone, SMo_pieceOf, SMo_todo, SMo_far, SMo_isIn, SMo_line, SMo_taken, SMo_takenMany, SMo_drafted, SMo_draftMany]
    intro x y hx hy hd
    obtain ⟨g1, g2⟩ := hbs x y hx hy hd
    have c : ∀ D t, BX D (BT bu.f_w bu.f_h mo.f_squares bu.f_outBits m) x y t ↔ BX D (BT bu.f_w bu.f_h bu.f_squares bu.f_outBits m) x y t := fun D t => by
      unfold BX
      exact ⟨fun ⟨u, v, c1, c2⟩ => ⟨u, v, c1, (BT_sq hw hn.2.2.2.2.2 _ _ t).mp c2⟩, fun ⟨u, v, c1, c2⟩ => ⟨u, v, c1, (BT_sq hw hn.2.2.2.2.2 _ _ t).mpr c2⟩⟩
    exact ⟨fun q hq t ht => (g1 q hq t ht).trans (c _ t), fun t ht => (g2 t ht).trans (c _ t)⟩
theorem e8_begin {F : Nat} (hF : 60 < F) {bu : SBu} {lo : SLo} {mo : SMo} (hb : RB bu mo) (h : RLo lo mo) : ∃ mo', x8_begin F mo = some (bi (wholeQ lo.f_bits lo.f_count.toInt.toNat), mo') ∧ sA mo mo' ∧ (wholeQ lo.f_bits lo.f_count.toInt.toNat = true → mo'.f_gone = 0 ∧ BSQ mo'.f_bars mo'.f_turnBars bu.f_w.toInt.toNat bu.f_h.toInt.toNat (CL lo.f_bits lo.f_hx.toInt.toNat lo.f_hy.toInt.toNat lo.f_count.toInt.toNat) (BT bu.f_w bu.f_h bu.f_squares bu.f_outBits 0) (fun _ _ => True)) := by
  have a0 : sA mo (SMo.s_gone mo 0) := by simp only [sA, sH, sO, sL, sF, sE, sT, sD, SMo_finding, SMo_findings, SMo_wide, SMo_high, SMo_things, SMo_doors, SMo_outs, SMo_squares, SMo_undos, SMo_keptThings, SMo_keptDoors, SMo_keptOuts, SMo_keptSquares, SMo_ends, SMo_rowMany, SMo_rows, SMo_moving, SMo_holdX, SMo_holdY, SMo_way, SMo_bars, SMo_turnBars, SMo_grown, SMo_gone, SMo_pieceOf, SMo_todo, SMo_far, SMo_isIn, SMo_line, SMo_taken, SMo_takenMany, SMo_drafted, SMo_draftMany, and_self]
  have hb0 := RB_sH hb a0.1
  have h0 := RL_upd h a0.2.1
  rw [x8_begin, e8_isWhole (by omega) h0, Option.bind_some]
  cases hwq : wholeQ lo.f_bits lo.f_count.toInt.toNat
  · rw [if_pos bi_f, if_pos (bo_bi false)]
    exact ⟨_, rfl, a0, fun c => absurd c (by decide)⟩
  · obtain ⟨mo', e, hA, hg, hB⟩ := e8_setBars hF hb0 h0 (m := 0) (by omega)
    have e : x8_setBars F (SMo.s_gone mo 0) 0 = some mo' := e
    rw [if_neg (by decide), e, Option.bind_some, if_pos (bo_bi true)]
    exact ⟨_, rfl, sA_tr a0 hA, fun _ => ⟨by rw [hg]; simp only [SMo_finding, SMo_findings, SMo_wide, SMo_high, SMo_things, SMo_doors, SMo_outs, SMo_squares, SMo_undos, SMo_keptThings, SMo_keptDoors, SMo_keptOuts, SMo_keptSquares, SMo_ends, SMo_rowMany, SMo_rows, SMo_moving, SMo_holdX, SMo_holdY, SMo_way, SMo_bars, SMo_turnBars, SMo_grown, SMo_gone, SMo_pieceOf, SMo_todo, SMo_far, SMo_isIn, SMo_line, SMo_taken, SMo_takenMany, SMo_drafted, SMo_draftMany], hB⟩⟩
