/-! the law: what both sides hold, call by call -/
def RR (bu : SBu) (lo : SLo) (ph : SPh) (ro : SRo) (mo : SMo) : Prop := RB bu mo ∧ RLo lo mo ∧ RF ph mo ∧ RE bu.f_w bu.f_h ph mo ∧ RT ro mo ∧ RD ph mo
theorem RR_A {bu : SBu} {lo : SLo} {ph : SPh} {ro : SRo} {mo mo' : SMo} (R : RR bu lo ph ro mo) (e : sA mo mo') : RR bu lo ph ro mo' :=
  ⟨RB_sH R.1 e.1, RL_upd R.2.1 e.2.1, RF_upd R.2.2.1 e.2.2.1, RE_upd R.2.2.2.1 rfl rfl e.2.2.2.1, RT_upd R.2.2.2.2.1 e.2.2.2.2.1, RD_upd R.2.2.2.2.2 rfl rfl e.2.2.2.2.2⟩
theorem RR_H {bu bu' : SBu} {lo : SLo} {ph : SPh} {ro : SRo} {mo mo' : SMo} (R : RR bu lo ph ro mo) (h : RB bu' mo') (w : bu'.f_w = bu.f_w ∧ bu'.f_h = bu.f_h) (e : sO mo mo') : RR bu' lo ph ro mo' :=
  ⟨h, RL_upd R.2.1 e.1, RF_upd R.2.2.1 e.2.1, by rw [w.1, w.2]; exact RE_upd R.2.2.2.1 rfl rfl e.2.2.1, RT_upd R.2.2.2.2.1 e.2.2.2.1, RD_upd R.2.2.2.2.2 rfl rfl e.2.2.2.2⟩
theorem RR_L {bu : SBu} {lo lo' : SLo} {ph ph' : SPh} {ro : SRo} {mo mo' : SMo} (R : RR bu lo ph ro mo) (h : RLo lo' mo') (f : RF ph' mo') (p : pQ ph ph') (e : sQ mo mo') : RR bu lo' ph' ro mo' :=
  ⟨RB_sH R.1 e.1, h, f, RE_upd R.2.2.2.1 p.1 p.2.1 e.2.1, RT_upd R.2.2.2.2.1 e.2.2.1, RD_upd R.2.2.2.2.2 p.2.2.1 p.2.2.2 e.2.2.2⟩
theorem RF_ph {ph ph' : SPh} {mo : SMo} (h : RF ph mo) (e1 : ph'.f_latestFinding = ph.f_latestFinding) (e2 : ph'.f_findingCounts = ph.f_findingCounts) : RF ph' mo := by
  unfold RF; rw [e1, e2]; exact h
theorem RR_E {bu bu' : SBu} {lo : SLo} {ph ph' : SPh} {ro : SRo} {mo mo' : SMo} (R : RR bu lo ph ro mo) (h : RB bu' mo') (he : RE bu'.f_w bu'.f_h ph' mo') (p : pQ2 ph ph') (e : sL mo mo' ∧ sF mo mo' ∧ sT mo mo' ∧ sD mo mo') : RR bu' lo ph' ro mo' :=
  ⟨h, RL_upd R.2.1 e.1, RF_ph (RF_upd R.2.2.1 e.2.1) p.1 p.2.1, he, RT_upd R.2.2.2.2.1 e.2.2.1, RD_upd R.2.2.2.2.2 p.2.2.1 p.2.2.2 e.2.2.2⟩
theorem cmp_self (x : Int64) : lg_cmp x x = 0 := by
  unfold lg_cmp
  rw [if_neg (fun c => absurd (Int64.lt_iff_toInt_lt.mp c) (Int.lt_irrefl _)), if_pos rfl]
def OKO (o : Int32 → SBu → SLo → SSh → SFl → SRe → SSe → SRo → SPh → SMo → Option Int32) (x3 : Int32) : Prop := ∀ bu lo sh fl re se ro ph mo, RR bu lo ph ro mo → o (x3 + 6) bu lo sh fl re se ro ph mo = some 1
theorem lc_house {F L : Nat} {xs : Nat → Int32} (hF : 100000000000000 < F) {o : Int32 → SBu → SLo → SSh → SFl → SRe → SSe → SRo → SPh → SMo → Option Int32} {x3 : Int32} (bs : (ib (x3 + 1) L = true ∧ ib (x3 + 2) L = true ∧ ib (x3 + 3) L = true) ∧ ib (x3 + 4) L = true ∧ ib (x3 + 5) L = true) (ho : OKO o x3) {bu : SBu} {lo : SLo} {sh : SSh} {fl : SFl} {re : SRe} {se : SSe} {ro : SRo} {ph : SPh} {mo : SMo} (R : RR bu lo ph ro mo) : xl_c200 F L xs o x3 bu lo sh fl re se ro ph mo = some 1 := by
  obtain ⟨⟨b1, b2, b3⟩, b4, b5⟩ := bs
  obtain ⟨hB, hL, hFi, hE, hT, hD⟩ := id R
  rw [xl_c200]
  simp only [if_pos b1, if_pos b2]
  obtain ⟨r, bu2, ph2, mo2, e1, e2, q1, q2, q3, q4⟩ := house_both (F := F) (by omega) hB hE (xs (Int32.toNatClampNeg (x3 + (1 : Int32)))) (xs (Int32.toNatClampNeg (x3 + (2 : Int32))))
  simp only [e1, e2, Option.bind_some, eq_self, if_true]
  exact ho _ _ _ _ _ _ _ _ _ (RR_E R q1 q2 q3 q4)
theorem lc_thing {F L : Nat} {xs : Nat → Int32} (hF : 100000000000000 < F) {o : Int32 → SBu → SLo → SSh → SFl → SRe → SSe → SRo → SPh → SMo → Option Int32} {x3 : Int32} (bs : (ib (x3 + 1) L = true ∧ ib (x3 + 2) L = true ∧ ib (x3 + 3) L = true) ∧ ib (x3 + 4) L = true ∧ ib (x3 + 5) L = true) (ho : OKO o x3) {bu : SBu} {lo : SLo} {sh : SSh} {fl : SFl} {re : SRe} {se : SSe} {ro : SRo} {ph : SPh} {mo : SMo} (R : RR bu lo ph ro mo) : xl_c233 F L xs o x3 bu lo sh fl re se ro ph mo = some 1 := by
  obtain ⟨⟨b1, b2, b3⟩, b4, b5⟩ := bs
  obtain ⟨hB, hL, hFi, hE, hT, hD⟩ := id R
  rw [xl_c233]
  simp only [if_pos b1]
  by_cases hz : (xs (Int32.toNatClampNeg (x3 + (1 : Int32)))) = 0
  · simp only [if_pos hz]
    have T : stH bu mo (x7_thing F bu ph  0) (x8_thing F mo  0) := thing_both (F := F) (by omega) hB ph  false
    obtain ⟨r, bu2, mo2, e1, e2, q1, q2, q3⟩ := T
    simp only [e1, e2, Option.bind_some, eq_self, if_true]
    exact ho _ _ _ _ _ _ _ _ _ (RR_H R q1 q2 q3)
  · simp only [if_neg hz]
    have T : stH bu mo (x7_thing F bu ph  1) (x8_thing F mo  1) := thing_both (F := F) (by omega) hB ph  true
    obtain ⟨r, bu2, mo2, e1, e2, q1, q2, q3⟩ := T
    simp only [e1, e2, Option.bind_some, eq_self, if_true]
    exact ho _ _ _ _ _ _ _ _ _ (RR_H R q1 q2 q3)
theorem lc_fill {F L : Nat} {xs : Nat → Int32} (hF : 100000000000000 < F) {o : Int32 → SBu → SLo → SSh → SFl → SRe → SSe → SRo → SPh → SMo → Option Int32} {x3 : Int32} (bs : (ib (x3 + 1) L = true ∧ ib (x3 + 2) L = true ∧ ib (x3 + 3) L = true) ∧ ib (x3 + 4) L = true ∧ ib (x3 + 5) L = true) (ho : OKO o x3) {bu : SBu} {lo : SLo} {sh : SSh} {fl : SFl} {re : SRe} {se : SSe} {ro : SRo} {ph : SPh} {mo : SMo} (R : RR bu lo ph ro mo) : xl_c272 F L xs o x3 bu lo sh fl re se ro ph mo = some 1 := by
  obtain ⟨⟨b1, b2, b3⟩, b4, b5⟩ := bs
  obtain ⟨hB, hL, hFi, hE, hT, hD⟩ := id R
  rw [xl_c272]
  simp only [if_pos b1, if_pos b2, if_pos b3, if_pos b4, if_pos b5]
  obtain ⟨r, bu2, mo2, e1, e2, q1, q2, q3⟩ := fill_both (F := F) (by omega) hB ph (xs (Int32.toNatClampNeg (x3 + (1 : Int32)))) (xs (Int32.toNatClampNeg (x3 + (2 : Int32)))) (xs (Int32.toNatClampNeg (x3 + (3 : Int32)))) (xs (Int32.toNatClampNeg (x3 + (4 : Int32)))) (xs (Int32.toNatClampNeg (x3 + (5 : Int32))))
  simp only [e1, e2, Option.bind_some, eq_self, if_true]
  exact ho _ _ _ _ _ _ _ _ _ (RR_H R q1 q2 q3)
theorem lc_clear {F L : Nat} {xs : Nat → Int32} (hF : 100000000000000 < F) {o : Int32 → SBu → SLo → SSh → SFl → SRe → SSe → SRo → SPh → SMo → Option Int32} {x3 : Int32} (bs : (ib (x3 + 1) L = true ∧ ib (x3 + 2) L = true ∧ ib (x3 + 3) L = true) ∧ ib (x3 + 4) L = true ∧ ib (x3 + 5) L = true) (ho : OKO o x3) {bu : SBu} {lo : SLo} {sh : SSh} {fl : SFl} {re : SRe} {se : SSe} {ro : SRo} {ph : SPh} {mo : SMo} (R : RR bu lo ph ro mo) : xl_c335 F L xs o x3 bu lo sh fl re se ro ph mo = some 1 := by
  obtain ⟨⟨b1, b2, b3⟩, b4, b5⟩ := bs
  obtain ⟨hB, hL, hFi, hE, hT, hD⟩ := id R
  rw [xl_c335]
  simp only [if_pos b1, if_pos b2, if_pos b3]
  obtain ⟨r, bu2, mo2, e1, e2, q1, q2, q3⟩ := clear_both (F := F) (by omega) hB ph (xs (Int32.toNatClampNeg (x3 + (1 : Int32)))) (xs (Int32.toNatClampNeg (x3 + (2 : Int32)))) (xs (Int32.toNatClampNeg (x3 + (3 : Int32))))
  simp only [e1, e2, Option.bind_some, eq_self, if_true]
  exact ho _ _ _ _ _ _ _ _ _ (RR_H R q1 q2 q3)
theorem lc_out {F L : Nat} {xs : Nat → Int32} (hF : 100000000000000 < F) {o : Int32 → SBu → SLo → SSh → SFl → SRe → SSe → SRo → SPh → SMo → Option Int32} {x3 : Int32} (bs : (ib (x3 + 1) L = true ∧ ib (x3 + 2) L = true ∧ ib (x3 + 3) L = true) ∧ ib (x3 + 4) L = true ∧ ib (x3 + 5) L = true) (ho : OKO o x3) {bu : SBu} {lo : SLo} {sh : SSh} {fl : SFl} {re : SRe} {se : SSe} {ro : SRo} {ph : SPh} {mo : SMo} (R : RR bu lo ph ro mo) : xl_c378 F L xs o x3 bu lo sh fl re se ro ph mo = some 1 := by
  obtain ⟨⟨b1, b2, b3⟩, b4, b5⟩ := bs
  obtain ⟨hB, hL, hFi, hE, hT, hD⟩ := id R
  rw [xl_c378]
  simp only [if_pos b1, if_pos b2]
  by_cases hz : (xs (Int32.toNatClampNeg (x3 + (2 : Int32)))) = 0
  · simp only [if_pos hz]
    have T : stH bu mo (x7_out F bu ph (xs (Int32.toNatClampNeg (x3 + (1 : Int32)))) 0) (x8_out F mo (xs (Int32.toNatClampNeg (x3 + (1 : Int32)))) 0) := out_both (F := F) (by omega) hB ph (xs (Int32.toNatClampNeg (x3 + (1 : Int32)))) false
    obtain ⟨r, bu2, mo2, e1, e2, q1, q2, q3⟩ := T
    simp only [e1, e2, Option.bind_some, eq_self, if_true]
    exact ho _ _ _ _ _ _ _ _ _ (RR_H R q1 q2 q3)
  · simp only [if_neg hz]
    have T : stH bu mo (x7_out F bu ph (xs (Int32.toNatClampNeg (x3 + (1 : Int32)))) 1) (x8_out F mo (xs (Int32.toNatClampNeg (x3 + (1 : Int32)))) 1) := out_both (F := F) (by omega) hB ph (xs (Int32.toNatClampNeg (x3 + (1 : Int32)))) true
    obtain ⟨r, bu2, mo2, e1, e2, q1, q2, q3⟩ := T
    simp only [e1, e2, Option.bind_some, eq_self, if_true]
    exact ho _ _ _ _ _ _ _ _ _ (RR_H R q1 q2 q3)
theorem lc_undo {F L : Nat} {xs : Nat → Int32} (hF : 100000000000000 < F) {o : Int32 → SBu → SLo → SSh → SFl → SRe → SSe → SRo → SPh → SMo → Option Int32} {x3 : Int32} (bs : (ib (x3 + 1) L = true ∧ ib (x3 + 2) L = true ∧ ib (x3 + 3) L = true) ∧ ib (x3 + 4) L = true ∧ ib (x3 + 5) L = true) (ho : OKO o x3) {bu : SBu} {lo : SLo} {sh : SSh} {fl : SFl} {re : SRe} {se : SSe} {ro : SRo} {ph : SPh} {mo : SMo} (R : RR bu lo ph ro mo) : xl_c427 F L xs o x3 bu lo sh fl re se ro ph mo = some 1 := by
  obtain ⟨⟨b1, b2, b3⟩, b4, b5⟩ := bs
  obtain ⟨hB, hL, hFi, hE, hT, hD⟩ := id R
  rw [xl_c427]
  obtain ⟨r, bu2, mo2, e1, e2, q1, q2, q3⟩ := undo_both (F := F) (by omega) hB ph
  simp only [e1, e2, Option.bind_some, eq_self, if_true]
  exact ho _ _ _ _ _ _ _ _ _ (RR_H R q1 q2 q3)
theorem lc_open {F L : Nat} {xs : Nat → Int32} (hF : 100000000000000 < F) {o : Int32 → SBu → SLo → SSh → SFl → SRe → SSe → SRo → SPh → SMo → Option Int32} {x3 : Int32} (bs : (ib (x3 + 1) L = true ∧ ib (x3 + 2) L = true ∧ ib (x3 + 3) L = true) ∧ ib (x3 + 4) L = true ∧ ib (x3 + 5) L = true) (ho : OKO o x3) {bu : SBu} {lo : SLo} {sh : SSh} {fl : SFl} {re : SRe} {se : SSe} {ro : SRo} {ph : SPh} {mo : SMo} (R : RR bu lo ph ro mo) : xl_c440 F L xs o x3 bu lo sh fl re se ro ph mo = some 1 := by
  obtain ⟨⟨b1, b2, b3⟩, b4, b5⟩ := bs
  obtain ⟨hB, hL, hFi, hE, hT, hD⟩ := id R
  rw [xl_c440]
  simp only [if_pos b1, if_pos b2]
  obtain ⟨r, e1, e2⟩ := open_both (RB_wh hB) (RB_now hB) ph (xs (Int32.toNatClampNeg (x3 + (1 : Int32)))) (xs (Int32.toNatClampNeg (x3 + (2 : Int32))))
  simp only [e1, e2, Option.bind_some, eq_self, if_true]
  exact ho _ _ _ _ _ _ _ _ _ R
theorem lc_on {F L : Nat} {xs : Nat → Int32} (hF : 100000000000000 < F) {o : Int32 → SBu → SLo → SSh → SFl → SRe → SSe → SRo → SPh → SMo → Option Int32} {x3 : Int32} (bs : (ib (x3 + 1) L = true ∧ ib (x3 + 2) L = true ∧ ib (x3 + 3) L = true) ∧ ib (x3 + 4) L = true ∧ ib (x3 + 5) L = true) (ho : OKO o x3) {bu : SBu} {lo : SLo} {sh : SSh} {fl : SFl} {re : SRe} {se : SSe} {ro : SRo} {ph : SPh} {mo : SMo} (R : RR bu lo ph ro mo) : xl_c473 F L xs o x3 bu lo sh fl re se ro ph mo = some 1 := by
  obtain ⟨⟨b1, b2, b3⟩, b4, b5⟩ := bs
  obtain ⟨hB, hL, hFi, hE, hT, hD⟩ := id R
  rw [xl_c473]
  simp only [if_pos b1, if_pos b2]
  obtain ⟨r, e1, e2⟩ := on_both (F := F) (by omega) (RB_wh hB) (RB_now hB) (RB_ok hB) ph (xs (Int32.toNatClampNeg (x3 + (1 : Int32)))) (xs (Int32.toNatClampNeg (x3 + (2 : Int32))))
  simp only [e1, e2, Option.bind_some, eq_self, if_true]
  exact ho _ _ _ _ _ _ _ _ _ R
theorem lc_rows {F L : Nat} {xs : Nat → Int32} (hF : 100000000000000 < F) {o : Int32 → SBu → SLo → SSh → SFl → SRe → SSe → SRo → SPh → SMo → Option Int32} {x3 : Int32} (bs : (ib (x3 + 1) L = true ∧ ib (x3 + 2) L = true ∧ ib (x3 + 3) L = true) ∧ ib (x3 + 4) L = true ∧ ib (x3 + 5) L = true) (ho : OKO o x3) {bu : SBu} {lo : SLo} {sh : SSh} {fl : SFl} {re : SRe} {se : SSe} {ro : SRo} {ph : SPh} {mo : SMo} (R : RR bu lo ph ro mo) : xl_c506 F L xs o x3 bu lo sh fl re se ro ph mo = some 1 := by
  obtain ⟨⟨b1, b2, b3⟩, b4, b5⟩ := bs
  obtain ⟨hB, hL, hFi, hE, hT, hD⟩ := id R
  rw [xl_c506]
  simp only [if_pos b1]
  obtain ⟨r, lo2, ph2, mo2, e1, e2, q1, q2, q3, q4⟩ := rows_both (F := F) (by omega) hL hFi (xs (Int32.toNatClampNeg (x3 + (1 : Int32))))
  simp only [e1, e2, Option.bind_some, eq_self, if_true]
  exact ho _ _ _ _ _ _ _ _ _ (RR_L R q1 q2 q3 q4)
theorem lc_row {F L : Nat} {xs : Nat → Int32} (hF : 100000000000000 < F) {o : Int32 → SBu → SLo → SSh → SFl → SRe → SSe → SRo → SPh → SMo → Option Int32} {x3 : Int32} (bs : (ib (x3 + 1) L = true ∧ ib (x3 + 2) L = true ∧ ib (x3 + 3) L = true) ∧ ib (x3 + 4) L = true ∧ ib (x3 + 5) L = true) (ho : OKO o x3) {bu : SBu} {lo : SLo} {sh : SSh} {fl : SFl} {re : SRe} {se : SSe} {ro : SRo} {ph : SPh} {mo : SMo} (R : RR bu lo ph ro mo) : xl_c529 F L xs o x3 bu lo sh fl re se ro ph mo = some 1 := by
  obtain ⟨⟨b1, b2, b3⟩, b4, b5⟩ := bs
  obtain ⟨hB, hL, hFi, hE, hT, hD⟩ := id R
  rw [xl_c529]
  simp only [if_pos b1, if_pos b2]
  obtain ⟨r, lo2, ph2, mo2, e1, e2, q1, q2, q3, q4⟩ := row_both hL hFi (xs (Int32.toNatClampNeg (x3 + (1 : Int32)))) (xs (Int32.toNatClampNeg (x3 + (2 : Int32))))
  simp only [e1, e2, Option.bind_some, eq_self, if_true]
  exact ho _ _ _ _ _ _ _ _ _ (RR_L R q1 q2 q3 q4)
theorem lc_tear {F L : Nat} {xs : Nat → Int32} (hF : 100000000000000 < F) {o : Int32 → SBu → SLo → SSh → SFl → SRe → SSe → SRo → SPh → SMo → Option Int32} {x3 : Int32} (bs : (ib (x3 + 1) L = true ∧ ib (x3 + 2) L = true ∧ ib (x3 + 3) L = true) ∧ ib (x3 + 4) L = true ∧ ib (x3 + 5) L = true) (ho : OKO o x3) {bu : SBu} {lo : SLo} {sh : SSh} {fl : SFl} {re : SRe} {se : SSe} {ro : SRo} {ph : SPh} {mo : SMo} (R : RR bu lo ph ro mo) : xl_c562 F L xs o x3 bu lo sh fl re se ro ph mo = some 1 := by
  obtain ⟨⟨b1, b2, b3⟩, b4, b5⟩ := bs
  obtain ⟨hB, hL, hFi, hE, hT, hD⟩ := id R
  rw [xl_c562]
  simp only [if_pos b1]
  obtain ⟨r, lo2, ph2, mo2, e1, e2, q1, q2, q3, q4⟩ := tear_both hL hFi (xs (Int32.toNatClampNeg (x3 + (1 : Int32))))
  simp only [e1, e2, Option.bind_some, eq_self, if_true]
  exact ho _ _ _ _ _ _ _ _ _ (RR_L R q1 q2 q3 q4)
theorem lc_copy {F L : Nat} {xs : Nat → Int32} (hF : 100000000000000 < F) {o : Int32 → SBu → SLo → SSh → SFl → SRe → SSe → SRo → SPh → SMo → Option Int32} {x3 : Int32} (bs : (ib (x3 + 1) L = true ∧ ib (x3 + 2) L = true ∧ ib (x3 + 3) L = true) ∧ ib (x3 + 4) L = true ∧ ib (x3 + 5) L = true) (ho : OKO o x3) {bu : SBu} {lo : SLo} {sh : SSh} {fl : SFl} {re : SRe} {se : SSe} {ro : SRo} {ph : SPh} {mo : SMo} (R : RR bu lo ph ro mo) : xl_c585 F L xs o x3 bu lo sh fl re se ro ph mo = some 1 := by
  obtain ⟨⟨b1, b2, b3⟩, b4, b5⟩ := bs
  obtain ⟨hB, hL, hFi, hE, hT, hD⟩ := id R
  rw [xl_c585]
  simp only [if_pos b1, if_pos b2, if_pos b3]
  obtain ⟨r, lo2, ph2, mo2, e1, e2, q1, q2, q3, q4⟩ := copy_both (F := F) (by omega) hL hFi (xs (Int32.toNatClampNeg (x3 + (1 : Int32)))) (xs (Int32.toNatClampNeg (x3 + (2 : Int32)))) (xs (Int32.toNatClampNeg (x3 + (3 : Int32))))
  simp only [e1, e2, Option.bind_some, eq_self, if_true]
  exact ho _ _ _ _ _ _ _ _ _ (RR_L R q1 q2 q3 q4)
theorem lc_told {F L : Nat} {xs : Nat → Int32} (hF : 100000000000000 < F) {o : Int32 → SBu → SLo → SSh → SFl → SRe → SSe → SRo → SPh → SMo → Option Int32} {x3 : Int32} (bs : (ib (x3 + 1) L = true ∧ ib (x3 + 2) L = true ∧ ib (x3 + 3) L = true) ∧ ib (x3 + 4) L = true ∧ ib (x3 + 5) L = true) (ho : OKO o x3) {bu : SBu} {lo : SLo} {sh : SSh} {fl : SFl} {re : SRe} {se : SSe} {ro : SRo} {ph : SPh} {mo : SMo} (R : RR bu lo ph ro mo) : xl_c628 F L xs o x3 bu lo sh fl re se ro ph mo = some 1 := by
  obtain ⟨⟨b1, b2, b3⟩, b4, b5⟩ := bs
  obtain ⟨hB, hL, hFi, hE, hT, hD⟩ := id R
  rw [xl_c628]
  simp only [if_pos b1]
  obtain ⟨r, ph2, mo2, e1, e2, q1, q2, q3, q4⟩ := told_both hL hFi (xs (Int32.toNatClampNeg (x3 + (1 : Int32))))
  simp only [e1, e2, Option.bind_some, eq_self, if_true]
  exact ho _ _ _ _ _ _ _ _ _ (RR_L R q1 q2 q3 q4)
theorem lc_hold {F L : Nat} {xs : Nat → Int32} (hF : 100000000000000 < F) {o : Int32 → SBu → SLo → SSh → SFl → SRe → SSe → SRo → SPh → SMo → Option Int32} {x3 : Int32} (bs : (ib (x3 + 1) L = true ∧ ib (x3 + 2) L = true ∧ ib (x3 + 3) L = true) ∧ ib (x3 + 4) L = true ∧ ib (x3 + 5) L = true) (ho : OKO o x3) {bu : SBu} {lo : SLo} {sh : SSh} {fl : SFl} {re : SRe} {se : SSe} {ro : SRo} {ph : SPh} {mo : SMo} (R : RR bu lo ph ro mo) : xl_c651 F L xs o x3 bu lo sh fl re se ro ph mo = some 1 := by
  obtain ⟨⟨b1, b2, b3⟩, b4, b5⟩ := bs
  obtain ⟨hB, hL, hFi, hE, hT, hD⟩ := id R
  rw [xl_c651]
  simp only [if_pos b1, if_pos b2]
  obtain ⟨r, lo2, mo2, e1, e2, q1, q2, q4⟩ := hold_both hL hFi (xs (Int32.toNatClampNeg (x3 + (1 : Int32)))) (xs (Int32.toNatClampNeg (x3 + (2 : Int32))))
  simp only [e1, e2, Option.bind_some, eq_self, if_true]
  exact ho _ _ _ _ _ _ _ _ _ (RR_L R q1 q2 (pQ_rf ph) q4)
theorem lc_load {F L : Nat} {xs : Nat → Int32} (hF : 100000000000000 < F) {o : Int32 → SBu → SLo → SSh → SFl → SRe → SSe → SRo → SPh → SMo → Option Int32} {x3 : Int32} (bs : (ib (x3 + 1) L = true ∧ ib (x3 + 2) L = true ∧ ib (x3 + 3) L = true) ∧ ib (x3 + 4) L = true ∧ ib (x3 + 5) L = true) (ho : OKO o x3) {bu : SBu} {lo : SLo} {sh : SSh} {fl : SFl} {re : SRe} {se : SSe} {ro : SRo} {ph : SPh} {mo : SMo} (R : RR bu lo ph ro mo) : xl_c684 F L xs o x3 bu lo sh fl re se ro ph mo = some 1 := by
  obtain ⟨⟨b1, b2, b3⟩, b4, b5⟩ := bs
  obtain ⟨hB, hL, hFi, hE, hT, hD⟩ := id R
  rw [xl_c684]
  simp only [if_pos b1]
  obtain ⟨r, e1, e2⟩ := load_both (F := F) (by omega) hL ph (xs (Int32.toNatClampNeg (x3 + (1 : Int32))))
  simp only [e1, e2, Option.bind_some, eq_self, if_true]
  exact ho _ _ _ _ _ _ _ _ _ R
theorem lc_free {F L : Nat} {xs : Nat → Int32} (hF : 100000000000000 < F) {o : Int32 → SBu → SLo → SSh → SFl → SRe → SSe → SRo → SPh → SMo → Option Int32} {x3 : Int32} (bs : (ib (x3 + 1) L = true ∧ ib (x3 + 2) L = true ∧ ib (x3 + 3) L = true) ∧ ib (x3 + 4) L = true ∧ ib (x3 + 5) L = true) (ho : OKO o x3) {bu : SBu} {lo : SLo} {sh : SSh} {fl : SFl} {re : SRe} {se : SSe} {ro : SRo} {ph : SPh} {mo : SMo} (R : RR bu lo ph ro mo) : xl_c707 F L xs o x3 bu lo sh fl re se ro ph mo = some 1 := by
  obtain ⟨⟨b1, b2, b3⟩, b4, b5⟩ := bs
  obtain ⟨hB, hL, hFi, hE, hT, hD⟩ := id R
  rw [xl_c707]
  simp only [if_pos b1, if_pos b2, if_pos b3]
  obtain ⟨r, sh2, fl2, mo2, e1, e2, q1⟩ := free_both (F := F) (by omega) hB hL sh fl ph (xs (Int32.toNatClampNeg (x3 + (1 : Int32)))) (xs (Int32.toNatClampNeg (x3 + (2 : Int32)))) (xs (Int32.toNatClampNeg (x3 + (3 : Int32))))
  simp only [e1, e2, Option.bind_some, eq_self, if_true]
  exact ho _ _ _ _ _ _ _ _ _ (RR_A R q1)
theorem lc_turning {F L : Nat} {xs : Nat → Int32} (hF : 100000000000000 < F) {o : Int32 → SBu → SLo → SSh → SFl → SRe → SSe → SRo → SPh → SMo → Option Int32} {x3 : Int32} (bs : (ib (x3 + 1) L = true ∧ ib (x3 + 2) L = true ∧ ib (x3 + 3) L = true) ∧ ib (x3 + 4) L = true ∧ ib (x3 + 5) L = true) (ho : OKO o x3) {bu : SBu} {lo : SLo} {sh : SSh} {fl : SFl} {re : SRe} {se : SSe} {ro : SRo} {ph : SPh} {mo : SMo} (R : RR bu lo ph ro mo) : xl_c750 F L xs o x3 bu lo sh fl re se ro ph mo = some 1 := by
  obtain ⟨⟨b1, b2, b3⟩, b4, b5⟩ := bs
  obtain ⟨hB, hL, hFi, hE, hT, hD⟩ := id R
  rw [xl_c750]
  simp only [if_pos b1, if_pos b2]
  obtain ⟨r, sh2, fl2, mo2, e1, e2, q1⟩ := turning_both (F := F) (by omega) hB hL sh fl ph (xs (Int32.toNatClampNeg (x3 + (1 : Int32)))) (xs (Int32.toNatClampNeg (x3 + (2 : Int32))))
  simp only [e1, e2, Option.bind_some, eq_self, if_true]
  exact ho _ _ _ _ _ _ _ _ _ (RR_A R q1)
theorem lc_kind {F L : Nat} {xs : Nat → Int32} (hF : 100000000000000 < F) {o : Int32 → SBu → SLo → SSh → SFl → SRe → SSe → SRo → SPh → SMo → Option Int32} {x3 : Int32} (bs : (ib (x3 + 1) L = true ∧ ib (x3 + 2) L = true ∧ ib (x3 + 3) L = true) ∧ ib (x3 + 4) L = true ∧ ib (x3 + 5) L = true) (ho : OKO o x3) {bu : SBu} {lo : SLo} {sh : SSh} {fl : SFl} {re : SRe} {se : SSe} {ro : SRo} {ph : SPh} {mo : SMo} (R : RR bu lo ph ro mo) : xl_c783 F L xs o x3 bu lo sh fl re se ro ph mo = some 1 := by
  obtain ⟨⟨b1, b2, b3⟩, b4, b5⟩ := bs
  obtain ⟨hB, hL, hFi, hE, hT, hD⟩ := id R
  rw [xl_c783]
  simp only [if_pos b1, if_pos b2, if_pos b3]
  obtain ⟨r, sh2, fl2, mo2, e1, e2, q1⟩ := kind_both (F := F) (by omega) hB hL sh fl ph (xs (Int32.toNatClampNeg (x3 + (1 : Int32)))) (xs (Int32.toNatClampNeg (x3 + (2 : Int32)))) (xs (Int32.toNatClampNeg (x3 + (3 : Int32))))
  simp only [e1, e2, Option.bind_some, eq_self, if_true]
  exact ho _ _ _ _ _ _ _ _ _ (RR_A R q1)
theorem lc_steps {F L : Nat} {xs : Nat → Int32} (hF : 100000000000000 < F) {o : Int32 → SBu → SLo → SSh → SFl → SRe → SSe → SRo → SPh → SMo → Option Int32} {x3 : Int32} (bs : (ib (x3 + 1) L = true ∧ ib (x3 + 2) L = true ∧ ib (x3 + 3) L = true) ∧ ib (x3 + 4) L = true ∧ ib (x3 + 5) L = true) (ho : OKO o x3) {bu : SBu} {lo : SLo} {sh : SSh} {fl : SFl} {re : SRe} {se : SSe} {ro : SRo} {ph : SPh} {mo : SMo} (R : RR bu lo ph ro mo) : xl_c826 F L xs o x3 bu lo sh fl re se ro ph mo = some 1 := by
  obtain ⟨⟨b1, b2, b3⟩, b4, b5⟩ := bs
  obtain ⟨hB, hL, hFi, hE, hT, hD⟩ := id R
  rw [xl_c826]
  simp only [if_pos b1, if_pos b2, if_pos b3, if_pos b4]
  obtain ⟨r, sh2, fl2, ph2, mo2, e1, e2, q1, q2, q3, q4⟩ := steps_both (F := F) (by omega) hB hL sh fl hFi (xs (Int32.toNatClampNeg (x3 + (1 : Int32)))) (xs (Int32.toNatClampNeg (x3 + (2 : Int32)))) (xs (Int32.toNatClampNeg (x3 + (3 : Int32)))) (xs (Int32.toNatClampNeg (x3 + (4 : Int32))))
  simp only [e1, e2, Option.bind_some, eq_self, if_true]
  exact ho _ _ _ _ _ _ _ _ _ (RR_L R (RL_upd hL q4) q1 q2 q3)
theorem lc_pieces {F L : Nat} {xs : Nat → Int32} (hF : 100000000000000 < F) {o : Int32 → SBu → SLo → SSh → SFl → SRe → SSe → SRo → SPh → SMo → Option Int32} {x3 : Int32} (bs : (ib (x3 + 1) L = true ∧ ib (x3 + 2) L = true ∧ ib (x3 + 3) L = true) ∧ ib (x3 + 4) L = true ∧ ib (x3 + 5) L = true) (ho : OKO o x3) {bu : SBu} {lo : SLo} {sh : SSh} {fl : SFl} {re : SRe} {se : SSe} {ro : SRo} {ph : SPh} {mo : SMo} (R : RR bu lo ph ro mo) : xl_c879 F L xs o x3 bu lo sh fl re se ro ph mo = some 1 := by
  obtain ⟨⟨b1, b2, b3⟩, b4, b5⟩ := bs
  obtain ⟨hB, hL, hFi, hE, hT, hD⟩ := id R
  rw [xl_c879]
  simp only [if_pos b1]
  obtain ⟨r, sh2, fl2, re2, mo2, e1, e2, q1⟩ := pieces_both (F := F) (by omega) hB hL sh fl re ph (xs (Int32.toNatClampNeg (x3 + (1 : Int32))))
  simp only [e1, e2, Option.bind_some, eq_self, if_true]
  exact ho _ _ _ _ _ _ _ _ _ (RR_A R q1)
theorem lc_piece {F L : Nat} {xs : Nat → Int32} (hF : 100000000000000 < F) {o : Int32 → SBu → SLo → SSh → SFl → SRe → SSe → SRo → SPh → SMo → Option Int32} {x3 : Int32} (bs : (ib (x3 + 1) L = true ∧ ib (x3 + 2) L = true ∧ ib (x3 + 3) L = true) ∧ ib (x3 + 4) L = true ∧ ib (x3 + 5) L = true) (ho : OKO o x3) {bu : SBu} {lo : SLo} {sh : SSh} {fl : SFl} {re : SRe} {se : SSe} {ro : SRo} {ph : SPh} {mo : SMo} (R : RR bu lo ph ro mo) : xl_c902 F L xs o x3 bu lo sh fl re se ro ph mo = some 1 := by
  obtain ⟨⟨b1, b2, b3⟩, b4, b5⟩ := bs
  obtain ⟨hB, hL, hFi, hE, hT, hD⟩ := id R
  rw [xl_c902]
  simp only [if_pos b1, if_pos b2, if_pos b3]
  obtain ⟨r, sh2, fl2, re2, mo2, e1, e2, q1⟩ := piece_both (F := F) (by omega) hB hL sh fl re ph (xs (Int32.toNatClampNeg (x3 + (1 : Int32)))) (xs (Int32.toNatClampNeg (x3 + (2 : Int32)))) (xs (Int32.toNatClampNeg (x3 + (3 : Int32))))
  simp only [e1, e2, Option.bind_some, eq_self, if_true]
  exact ho _ _ _ _ _ _ _ _ _ (RR_A R q1)
theorem lc_area {F L : Nat} {xs : Nat → Int32} (hF : 100000000000000 < F) {o : Int32 → SBu → SLo → SSh → SFl → SRe → SSe → SRo → SPh → SMo → Option Int32} {x3 : Int32} (bs : (ib (x3 + 1) L = true ∧ ib (x3 + 2) L = true ∧ ib (x3 + 3) L = true) ∧ ib (x3 + 4) L = true ∧ ib (x3 + 5) L = true) (ho : OKO o x3) {bu : SBu} {lo : SLo} {sh : SSh} {fl : SFl} {re : SRe} {se : SSe} {ro : SRo} {ph : SPh} {mo : SMo} (R : RR bu lo ph ro mo) : xl_c945 F L xs o x3 bu lo sh fl re se ro ph mo = some 1 := by
  obtain ⟨⟨b1, b2, b3⟩, b4, b5⟩ := bs
  obtain ⟨hB, hL, hFi, hE, hT, hD⟩ := id R
  rw [xl_c945]
  simp only [if_pos b1, if_pos b2, if_pos b3]
  obtain ⟨r, sh2, fl2, re2, mo2, e1, e2, q1⟩ := area_both (F := F) (by omega) hB hL sh fl re ph (xs (Int32.toNatClampNeg (x3 + (1 : Int32)))) (xs (Int32.toNatClampNeg (x3 + (2 : Int32)))) (xs (Int32.toNatClampNeg (x3 + (3 : Int32))))
  simp only [e1, e2, Option.bind_some, eq_self, if_true]
  exact ho _ _ _ _ _ _ _ _ _ (RR_A R q1)
theorem lc_slide {F L : Nat} {xs : Nat → Int32} (hF : 100000000000000 < F) {o : Int32 → SBu → SLo → SSh → SFl → SRe → SSe → SRo → SPh → SMo → Option Int32} {x3 : Int32} (bs : (ib (x3 + 1) L = true ∧ ib (x3 + 2) L = true ∧ ib (x3 + 3) L = true) ∧ ib (x3 + 4) L = true ∧ ib (x3 + 5) L = true) (ho : OKO o x3) {bu : SBu} {lo : SLo} {sh : SSh} {fl : SFl} {re : SRe} {se : SSe} {ro : SRo} {ph : SPh} {mo : SMo} (R : RR bu lo ph ro mo) : xl_c988 F L xs o x3 bu lo sh fl re se ro ph mo = some 1 := by
  obtain ⟨⟨b1, b2, b3⟩, b4, b5⟩ := bs
  obtain ⟨hB, hL, hFi, hE, hT, hD⟩ := id R
  rw [xl_c988]
  simp only [if_pos b1, if_pos b2, if_pos b3, if_pos b4]
  obtain ⟨r, sh2, fl2, mo2, e1, e2, q1⟩ := slide_both (F := F) (by omega) hB hL sh fl ph (xs (Int32.toNatClampNeg (x3 + (1 : Int32)))) (xs (Int32.toNatClampNeg (x3 + (2 : Int32)))) (xs (Int32.toNatClampNeg (x3 + (3 : Int32)))) (xs (Int32.toNatClampNeg (x3 + (4 : Int32))))
  simp only [e1, e2, Option.bind_some, eq_self, if_true]
  exact ho _ _ _ _ _ _ _ _ _ (RR_A R q1)
theorem lc_end {F L : Nat} {xs : Nat → Int32} (hF : 100000000000000 < F) {o : Int32 → SBu → SLo → SSh → SFl → SRe → SSe → SRo → SPh → SMo → Option Int32} {x3 : Int32} (bs : (ib (x3 + 1) L = true ∧ ib (x3 + 2) L = true ∧ ib (x3 + 3) L = true) ∧ ib (x3 + 4) L = true ∧ ib (x3 + 5) L = true) (ho : OKO o x3) {bu : SBu} {lo : SLo} {sh : SSh} {fl : SFl} {re : SRe} {se : SSe} {ro : SRo} {ph : SPh} {mo : SMo} (R : RR bu lo ph ro mo) : xl_c1041 F L xs o x3 bu lo sh fl re se ro ph mo = some 1 := by
  obtain ⟨⟨b1, b2, b3⟩, b4, b5⟩ := bs
  obtain ⟨hB, hL, hFi, hE, hT, hD⟩ := id R
  rw [xl_c1041]
  simp only [if_pos b1, if_pos b2, if_pos b3, if_pos b4]
  by_cases hz : (xs (Int32.toNatClampNeg (x3 + (1 : Int32)))) = 0
  · simp only [if_pos hz]
    have T : ∃ r ph' mo', x7_end bu ph 0 (xs (Int32.toNatClampNeg (x3 + (2 : Int32)))) (xs (Int32.toNatClampNeg (x3 + (3 : Int32)))) (xs (Int32.toNatClampNeg (x3 + (4 : Int32)))) = some (r, ph') ∧ x8_end mo 0 (xs (Int32.toNatClampNeg (x3 + (2 : Int32)))) (xs (Int32.toNatClampNeg (x3 + (3 : Int32)))) (xs (Int32.toNatClampNeg (x3 + (4 : Int32)))) = some (r, mo') ∧ RE bu.f_w bu.f_h ph' mo' ∧ pQ2 ph ph' ∧ sH mo mo' ∧ (sL mo mo' ∧ sF mo mo' ∧ sT mo mo' ∧ sD mo mo') := end_both (w := 0) (h := 0) hB hE false (xs (Int32.toNatClampNeg (x3 + (2 : Int32)))) (xs (Int32.toNatClampNeg (x3 + (3 : Int32)))) (xs (Int32.toNatClampNeg (x3 + (4 : Int32))))
    obtain ⟨r, ph2, mo2, e1, e2, q1, q2, q3, q4⟩ := T
    simp only [e1, e2, Option.bind_some, eq_self, if_true]
    exact ho _ _ _ _ _ _ _ _ _ (RR_E R (RB_sH hB q3) q1 q2 q4)
  · simp only [if_neg hz]
    have T : ∃ r ph' mo', x7_end bu ph 1 (xs (Int32.toNatClampNeg (x3 + (2 : Int32)))) (xs (Int32.toNatClampNeg (x3 + (3 : Int32)))) (xs (Int32.toNatClampNeg (x3 + (4 : Int32)))) = some (r, ph') ∧ x8_end mo 1 (xs (Int32.toNatClampNeg (x3 + (2 : Int32)))) (xs (Int32.toNatClampNeg (x3 + (3 : Int32)))) (xs (Int32.toNatClampNeg (x3 + (4 : Int32)))) = some (r, mo') ∧ RE bu.f_w bu.f_h ph' mo' ∧ pQ2 ph ph' ∧ sH mo mo' ∧ (sL mo mo' ∧ sF mo mo' ∧ sT mo mo' ∧ sD mo mo') := end_both (w := 0) (h := 0) hB hE true (xs (Int32.toNatClampNeg (x3 + (2 : Int32)))) (xs (Int32.toNatClampNeg (x3 + (3 : Int32)))) (xs (Int32.toNatClampNeg (x3 + (4 : Int32))))
    obtain ⟨r, ph2, mo2, e1, e2, q1, q2, q3, q4⟩ := T
    simp only [e1, e2, Option.bind_some, eq_self, if_true]
    exact ho _ _ _ _ _ _ _ _ _ (RR_E R (RB_sH hB q3) q1 q2 q4)
theorem lc_way {F L : Nat} {xs : Nat → Int32} (hF : 100000000000000 < F) {o : Int32 → SBu → SLo → SSh → SFl → SRe → SSe → SRo → SPh → SMo → Option Int32} {x3 : Int32} (bs : (ib (x3 + 1) L = true ∧ ib (x3 + 2) L = true ∧ ib (x3 + 3) L = true) ∧ ib (x3 + 4) L = true ∧ ib (x3 + 5) L = true) (ho : OKO o x3) {bu : SBu} {lo : SLo} {sh : SSh} {fl : SFl} {re : SRe} {se : SSe} {ro : SRo} {ph : SPh} {mo : SMo} (R : RR bu lo ph ro mo) : xl_c1110 F L xs o x3 bu lo sh fl re se ro ph mo = some 1 := by
  obtain ⟨⟨b1, b2, b3⟩, b4, b5⟩ := bs
  obtain ⟨hB, hL, hFi, hE, hT, hD⟩ := id R
  rw [xl_c1110]
  obtain ⟨r, sh2, fl2, se2, ro2, mo2, e1, e2, q1, q2⟩ := way_both hF hB hL hE hT sh fl se
  simp only [e1, e2, Option.bind_some, eq_self, if_true]
  exact ho _ _ _ _ _ _ _ _ _ ⟨RB_sH hB q1.1, RL_upd hL q1.2.1, RF_upd hFi q1.2.2.1, RE_upd hE rfl rfl q1.2.2.2.1, q2, RD_upd hD rfl rfl q1.2.2.2.2⟩
theorem lc_step {F L : Nat} {xs : Nat → Int32} (hF : 100000000000000 < F) {o : Int32 → SBu → SLo → SSh → SFl → SRe → SSe → SRo → SPh → SMo → Option Int32} {x3 : Int32} (bs : (ib (x3 + 1) L = true ∧ ib (x3 + 2) L = true ∧ ib (x3 + 3) L = true) ∧ ib (x3 + 4) L = true ∧ ib (x3 + 5) L = true) (ho : OKO o x3) {bu : SBu} {lo : SLo} {sh : SSh} {fl : SFl} {re : SRe} {se : SSe} {ro : SRo} {ph : SPh} {mo : SMo} (R : RR bu lo ph ro mo) : xl_c1123 F L xs o x3 bu lo sh fl re se ro ph mo = some 1 := by
  obtain ⟨⟨b1, b2, b3⟩, b4, b5⟩ := bs
  obtain ⟨hB, hL, hFi, hE, hT, hD⟩ := id R
  rw [xl_c1123]
  simp only [if_pos b1]
  obtain ⟨r, e1, e2⟩ := step_both hT ph (xs (Int32.toNatClampNeg (x3 + (1 : Int32))))
  simp only [e1, e2, Option.bind_some, eq_self, if_true]
  exact ho _ _ _ _ _ _ _ _ _ R
theorem lc_count {F L : Nat} {xs : Nat → Int32} (hF : 100000000000000 < F) {o : Int32 → SBu → SLo → SSh → SFl → SRe → SSe → SRo → SPh → SMo → Option Int32} {x3 : Int32} (bs : (ib (x3 + 1) L = true ∧ ib (x3 + 2) L = true ∧ ib (x3 + 3) L = true) ∧ ib (x3 + 4) L = true ∧ ib (x3 + 5) L = true) (ho : OKO o x3) {bu : SBu} {lo : SLo} {sh : SSh} {fl : SFl} {re : SRe} {se : SSe} {ro : SRo} {ph : SPh} {mo : SMo} (R : RR bu lo ph ro mo) : xl_c1146 F L xs o x3 bu lo sh fl re se ro ph mo = some 1 := by
  obtain ⟨⟨b1, b2, b3⟩, b4, b5⟩ := bs
  obtain ⟨hB, hL, hFi, hE, hT, hD⟩ := id R
  rw [xl_c1146]
  simp only [if_pos b1]
  obtain ⟨r, e1, e2⟩ := count_both (F := F) (by omega) hT ph (xs (Int32.toNatClampNeg (x3 + (1 : Int32))))
  simp only [e1, e2, Option.bind_some, eq_self, if_true]
  exact ho _ _ _ _ _ _ _ _ _ R
theorem lc_reached {F L : Nat} {xs : Nat → Int32} (hF : 100000000000000 < F) {o : Int32 → SBu → SLo → SSh → SFl → SRe → SSe → SRo → SPh → SMo → Option Int32} {x3 : Int32} (bs : (ib (x3 + 1) L = true ∧ ib (x3 + 2) L = true ∧ ib (x3 + 3) L = true) ∧ ib (x3 + 4) L = true ∧ ib (x3 + 5) L = true) (ho : OKO o x3) {bu : SBu} {lo : SLo} {sh : SSh} {fl : SFl} {re : SRe} {se : SSe} {ro : SRo} {ph : SPh} {mo : SMo} (R : RR bu lo ph ro mo) : xl_c1169 F L xs o x3 bu lo sh fl re se ro ph mo = some 1 := by
  obtain ⟨⟨b1, b2, b3⟩, b4, b5⟩ := bs
  obtain ⟨hB, hL, hFi, hE, hT, hD⟩ := id R
  rw [xl_c1169]
  obtain ⟨r, sh2, fl2, se2, mo2, e1, e2, q1⟩ := reached_both hF hB hL hE sh fl se
  simp only [e1, e2, Option.bind_some, eq_self, if_true]
  exact ho _ _ _ _ _ _ _ _ _ (RR_A R q1)
theorem lc_reaches {F L : Nat} {xs : Nat → Int32} (hF : 100000000000000 < F) {o : Int32 → SBu → SLo → SSh → SFl → SRe → SSe → SRo → SPh → SMo → Option Int32} {x3 : Int32} (bs : (ib (x3 + 1) L = true ∧ ib (x3 + 2) L = true ∧ ib (x3 + 3) L = true) ∧ ib (x3 + 4) L = true ∧ ib (x3 + 5) L = true) (ho : OKO o x3) {bu : SBu} {lo : SLo} {sh : SSh} {fl : SFl} {re : SRe} {se : SSe} {ro : SRo} {ph : SPh} {mo : SMo} (R : RR bu lo ph ro mo) : xl_c1182 F L xs o x3 bu lo sh fl re se ro ph mo = some 1 := by
  obtain ⟨⟨b1, b2, b3⟩, b4, b5⟩ := bs
  obtain ⟨hB, hL, hFi, hE, hT, hD⟩ := id R
  rw [xl_c1182]
  simp only [if_pos b1, if_pos b2, if_pos b3]
  obtain ⟨r, sh2, fl2, se2, mo2, e1, e2, q1⟩ := reaches_both hF hB hL hE sh fl se (xs (Int32.toNatClampNeg (x3 + (1 : Int32)))) (xs (Int32.toNatClampNeg (x3 + (2 : Int32)))) (xs (Int32.toNatClampNeg (x3 + (3 : Int32))))
  simp only [e1, e2, Option.bind_some, eq_self, if_true]
  exact ho _ _ _ _ _ _ _ _ _ (RR_A R q1)
theorem lc_held {F L : Nat} {xs : Nat → Int32} (hF : 100000000000000 < F) {o : Int32 → SBu → SLo → SSh → SFl → SRe → SSe → SRo → SPh → SMo → Option Int32} {x3 : Int32} (bs : (ib (x3 + 1) L = true ∧ ib (x3 + 2) L = true ∧ ib (x3 + 3) L = true) ∧ ib (x3 + 4) L = true ∧ ib (x3 + 5) L = true) (ho : OKO o x3) {bu : SBu} {lo : SLo} {sh : SSh} {fl : SFl} {re : SRe} {se : SSe} {ro : SRo} {ph : SPh} {mo : SMo} (R : RR bu lo ph ro mo) : xl_c1225 F L xs o x3 bu lo sh fl re se ro ph mo = some 1 := by
  obtain ⟨⟨b1, b2, b3⟩, b4, b5⟩ := bs
  obtain ⟨hB, hL, hFi, hE, hT, hD⟩ := id R
  rw [xl_c1225]
  obtain ⟨r, sh2, fl2, se2, mo2, e1, e2, q1⟩ := held_both hF hB hL hE sh fl se
  simp only [e1, e2, Option.bind_some, eq_self, if_true]
  exact ho _ _ _ _ _ _ _ _ _ (RR_A R q1)
theorem lc_doors {F L : Nat} {xs : Nat → Int32} (hF : 100000000000000 < F) {o : Int32 → SBu → SLo → SSh → SFl → SRe → SSe → SRo → SPh → SMo → Option Int32} {x3 : Int32} (bs : (ib (x3 + 1) L = true ∧ ib (x3 + 2) L = true ∧ ib (x3 + 3) L = true) ∧ ib (x3 + 4) L = true ∧ ib (x3 + 5) L = true) (ho : OKO o x3) {bu : SBu} {lo : SLo} {sh : SSh} {fl : SFl} {re : SRe} {se : SSe} {ro : SRo} {ph : SPh} {mo : SMo} (R : RR bu lo ph ro mo) : xl_c1238 F L xs o x3 bu lo sh fl re se ro ph mo = some 1 := by
  obtain ⟨⟨b1, b2, b3⟩, b4, b5⟩ := bs
  obtain ⟨hB, hL, hFi, hE, hT, hD⟩ := id R
  rw [xl_c1238]
  obtain ⟨r, sh2, fl2, se2, mo2, e1, e2, q1⟩ := doors_both hF hB hL hE sh fl se
  simp only [e1, e2, Option.bind_some, eq_self, if_true]
  exact ho _ _ _ _ _ _ _ _ _ (RR_A R q1)
theorem lc_narrow {F L : Nat} {xs : Nat → Int32} (hF : 100000000000000 < F) {o : Int32 → SBu → SLo → SSh → SFl → SRe → SSe → SRo → SPh → SMo → Option Int32} {x3 : Int32} (bs : (ib (x3 + 1) L = true ∧ ib (x3 + 2) L = true ∧ ib (x3 + 3) L = true) ∧ ib (x3 + 4) L = true ∧ ib (x3 + 5) L = true) (ho : OKO o x3) {bu : SBu} {lo : SLo} {sh : SSh} {fl : SFl} {re : SRe} {se : SSe} {ro : SRo} {ph : SPh} {mo : SMo} (R : RR bu lo ph ro mo) : xl_c1251 F L xs o x3 bu lo sh fl re se ro ph mo = some 1 := by
  obtain ⟨⟨b1, b2, b3⟩, b4, b5⟩ := bs
  obtain ⟨hB, hL, hFi, hE, hT, hD⟩ := id R
  rw [xl_c1251]
  simp only [if_pos b1]
  obtain ⟨r, sh2, fl2, se2, mo2, e1, e2, q1⟩ := narrow_both hF hB hL hE sh fl se (xs (Int32.toNatClampNeg (x3 + (1 : Int32))))
  simp only [e1, e2, Option.bind_some, eq_self, if_true]
  exact ho _ _ _ _ _ _ _ _ _ (RR_A R q1)
theorem lc_draft {F L : Nat} {xs : Nat → Int32} (hF : 100000000000000 < F) {o : Int32 → SBu → SLo → SSh → SFl → SRe → SSe → SRo → SPh → SMo → Option Int32} {x3 : Int32} (bs : (ib (x3 + 1) L = true ∧ ib (x3 + 2) L = true ∧ ib (x3 + 3) L = true) ∧ ib (x3 + 4) L = true ∧ ib (x3 + 5) L = true) (ho : OKO o x3) {bu : SBu} {lo : SLo} {sh : SSh} {fl : SFl} {re : SRe} {se : SSe} {ro : SRo} {ph : SPh} {mo : SMo} (R : RR bu lo ph ro mo) : xl_c1274 F L xs o x3 bu lo sh fl re se ro ph mo = some 1 := by
  obtain ⟨⟨b1, b2, b3⟩, b4, b5⟩ := bs
  obtain ⟨hB, hL, hFi, hE, hT, hD⟩ := id R
  rw [xl_c1274]
  simp only [if_pos b1]
  obtain ⟨r, ph2, mo2, e1, e2, q1, q2, q3, q4, q5⟩ := draft_both hD hFi (xs (Int32.toNatClampNeg (x3 + (1 : Int32))))
  simp only [e1, e2, Option.bind_some, eq_self, if_true]
  exact ho _ _ _ _ _ _ _ _ _ ⟨RB_sH hB q4, RL_upd hL q5.1, q2, RE_upd hE q3.1 q3.2 q5.2.1, RT_upd hT q5.2.2, q1⟩
theorem lc_check {F L : Nat} {xs : Nat → Int32} (hF : 100000000000000 < F) {o : Int32 → SBu → SLo → SSh → SFl → SRe → SSe → SRo → SPh → SMo → Option Int32} {x3 : Int32} (bs : (ib (x3 + 1) L = true ∧ ib (x3 + 2) L = true ∧ ib (x3 + 3) L = true) ∧ ib (x3 + 4) L = true ∧ ib (x3 + 5) L = true) (ho : OKO o x3) {bu : SBu} {lo : SLo} {sh : SSh} {fl : SFl} {re : SRe} {se : SSe} {ro : SRo} {ph : SPh} {mo : SMo} (R : RR bu lo ph ro mo) : xl_c1297 F L xs o x3 bu lo sh fl re se ro ph mo = some 1 := by
  obtain ⟨⟨b1, b2, b3⟩, b4, b5⟩ := bs
  obtain ⟨hB, hL, hFi, hE, hT, hD⟩ := id R
  rw [xl_c1297]
  obtain ⟨r, sh2, fl2, ph2, mo2, e1, e2, q1, q2, q3⟩ := check_both (F := F) (by omega) hB hL hE hD sh fl
  simp only [e1, e2, Option.bind_some, eq_self, if_true]
  subst q1
  exact ho _ _ _ _ _ _ _ _ _ ⟨RB_sH hB q2.1, RL_upd hL q2.2.1, RF_ph (RF_upd hFi q2.2.2.1) (by simp only [SPh_draftSteps, SPh_draftLength, SPh_beginning, SPh_goalState, SPh_latestFinding, SPh_findingCounts]) (by simp only [SPh_draftSteps, SPh_draftLength, SPh_beginning, SPh_goalState, SPh_latestFinding, SPh_findingCounts]), RE_upd hE (by simp only [SPh_draftSteps, SPh_draftLength, SPh_beginning, SPh_goalState, SPh_latestFinding, SPh_findingCounts]) (by simp only [SPh_draftSteps, SPh_draftLength, SPh_beginning, SPh_goalState, SPh_latestFinding, SPh_findingCounts]) q2.2.2.2.1, RT_upd hT q2.2.2.2.2, ⟨0, by omega, by simp only [SPh_draftSteps, SPh_draftLength, SPh_beginning, SPh_goalState, SPh_latestFinding, SPh_findingCounts]; rfl, q3, fun k hk => absurd hk (Nat.not_lt_zero k)⟩⟩
theorem lc_many {F L : Nat} {xs : Nat → Int32} (hF : 100000000000000 < F) {o : Int32 → SBu → SLo → SSh → SFl → SRe → SSe → SRo → SPh → SMo → Option Int32} {x3 : Int32} (bs : (ib (x3 + 1) L = true ∧ ib (x3 + 2) L = true ∧ ib (x3 + 3) L = true) ∧ ib (x3 + 4) L = true ∧ ib (x3 + 5) L = true) (ho : OKO o x3) {bu : SBu} {lo : SLo} {sh : SSh} {fl : SFl} {re : SRe} {se : SSe} {ro : SRo} {ph : SPh} {mo : SMo} (R : RR bu lo ph ro mo) : xl_c1310 F L xs o x3 bu lo sh fl re se ro ph mo = some 1 := by
  obtain ⟨⟨b1, b2, b3⟩, b4, b5⟩ := bs
  obtain ⟨hB, hL, hFi, hE, hT, hD⟩ := id R
  rw [xl_c1310]
  simp only [if_pos b1]
  obtain ⟨r, e1, e2⟩ := many_both hB hD (xs (Int32.toNatClampNeg (x3 + (1 : Int32))))
  simp only [e1, e2, Option.bind_some, eq_self, if_true]
  exact ho _ _ _ _ _ _ _ _ _ R
theorem lc_finding {F L : Nat} {xs : Nat → Int32} (hF : 100000000000000 < F) {o : Int32 → SBu → SLo → SSh → SFl → SRe → SSe → SRo → SPh → SMo → Option Int32} {x3 : Int32} (bs : (ib (x3 + 1) L = true ∧ ib (x3 + 2) L = true ∧ ib (x3 + 3) L = true) ∧ ib (x3 + 4) L = true ∧ ib (x3 + 5) L = true) (ho : OKO o x3) {bu : SBu} {lo : SLo} {sh : SSh} {fl : SFl} {re : SRe} {se : SSe} {ro : SRo} {ph : SPh} {mo : SMo} (R : RR bu lo ph ro mo) : xl_c1333 F L xs o x3 bu lo sh fl re se ro ph mo = some 1 := by
  obtain ⟨⟨b1, b2, b3⟩, b4, b5⟩ := bs
  obtain ⟨hB, hL, hFi, hE, hT, hD⟩ := id R
  rw [xl_c1333]
  obtain ⟨r, e1, e2⟩ := finding_both hFi
  simp only [e1, e2, Option.bind_some, eq_self, if_true]
  exact ho _ _ _ _ _ _ _ _ _ R
theorem lc_findings {F L : Nat} {xs : Nat → Int32} (hF : 100000000000000 < F) {o : Int32 → SBu → SLo → SSh → SFl → SRe → SSe → SRo → SPh → SMo → Option Int32} {x3 : Int32} (bs : (ib (x3 + 1) L = true ∧ ib (x3 + 2) L = true ∧ ib (x3 + 3) L = true) ∧ ib (x3 + 4) L = true ∧ ib (x3 + 5) L = true) (ho : OKO o x3) {bu : SBu} {lo : SLo} {sh : SSh} {fl : SFl} {re : SRe} {se : SSe} {ro : SRo} {ph : SPh} {mo : SMo} (R : RR bu lo ph ro mo) : xl_c1346 F L xs o x3 bu lo sh fl re se ro ph mo = some 1 := by
  obtain ⟨⟨b1, b2, b3⟩, b4, b5⟩ := bs
  obtain ⟨hB, hL, hFi, hE, hT, hD⟩ := id R
  rw [xl_c1346]
  simp only [if_pos b1]
  obtain ⟨r, e1, e2⟩ := findings_both hFi (xs (Int32.toNatClampNeg (x3 + (1 : Int32))))
  simp only [e1, e2, Option.bind_some, eq_self, if_true]
  exact ho _ _ _ _ _ _ _ _ _ R
theorem lc_digest {F L : Nat} {xs : Nat → Int32} (hF : 100000000000000 < F) {o : Int32 → SBu → SLo → SSh → SFl → SRe → SSe → SRo → SPh → SMo → Option Int32} {x3 : Int32} (bs : (ib (x3 + 1) L = true ∧ ib (x3 + 2) L = true ∧ ib (x3 + 3) L = true) ∧ ib (x3 + 4) L = true ∧ ib (x3 + 5) L = true) (ho : OKO o x3) {bu : SBu} {lo : SLo} {sh : SSh} {fl : SFl} {re : SRe} {se : SSe} {ro : SRo} {ph : SPh} {mo : SMo} (R : RR bu lo ph ro mo) : xl_c1369 F L xs o x3 bu lo sh fl re se ro ph mo = some 1 := by
  obtain ⟨⟨b1, b2, b3⟩, b4, b5⟩ := bs
  obtain ⟨hB, hL, hFi, hE, hT, hD⟩ := id R
  rw [xl_c1369]
  obtain ⟨r, e1, e2⟩ := digest_both (F := F) (by omega) hB hL hE
  simp only [e1, e2, Option.bind_some, cmp_self, eq_self, if_true]
  exact ho _ _ _ _ _ _ _ _ _ R
theorem RR_init : RR i_bu i_lo i_ph i_ro i_mo := by
  have z : ∀ k : Nat, (0 : Int32) = nI 0 := fun _ => rfl
  refine ⟨⟨⟨by decide, by decide⟩, ⟨rfl, rfl, rfl, rfl, rfl, fun k hk => rfl⟩, ⟨by decide, fun k hk t ht hb => ?_, fun x y hx hy hxy => rfl, fun t ht hb => ?_, ?_⟩, 0, 0, by omega, by omega, rfl, rfl, rfl, fun j hj => absurd hj (Nat.not_lt_zero j)⟩, ⟨by decide, ⟨rfl, rfl, rfl⟩, ⟨by decide, by decide⟩, fun k hk => rfl, fun k hk hk2 => absurd hk2 (by decide +revert)⟩, ⟨rfl, fun k hk => rfl⟩, ⟨⟨0, 0, 0, ⟨rfl, rfl, rfl, rfl⟩, by decide, by decide, by decide⟩, 0, 0, 0, ⟨rfl, rfl, rfl, rfl⟩, by decide, by decide, by decide⟩, Or.inl ⟨rfl, rfl⟩, ⟨0, by omega, rfl, rfl, fun k hk => absurd hk (Nat.not_lt_zero k)⟩⟩
  · have hb : bt 0 t = true := hb
    rw [b_0] at hb; exact absurd hb (by decide)
  · have hb : bt 0 t = true := hb
    rw [b_0] at hb; exact absurd hb (by decide)
  · show pcn 0 12 ≤ 6
    rw [pcn_0]; decide
theorem xl_loop {F L : Nat} {xs : Nat → Int32} (hF : 100000000000000 < F) (hL : L ≤ 3072) : ∀ (k j : Nat) (x3 : Int32) (bu : SBu) (lo : SLo) (sh : SSh) (fl : SFl) (re : SRe) (se : SSe) (ro : SRo) (ph : SPh) (mo : SMo), x3.toInt = (j : Int) → j ≤ L + 6 → L + 10 < k + j → RR bu lo ph ro mo → xl_law_L18 F L xs k x3 bu lo sh fl re se ro ph mo = some 1 := by
  intro k
  induction k with
  | zero =>
    intro j x3 bu lo sh fl re se ro ph mo hx hj hk R
    exact absurd hk (by omega)
  | succ k ih =>
    intro j x3 bu lo sh fl re se ro ph mo hx hj hk R
    have eL : (Int32.ofNat L - 6).toInt = (L : Int) - 6 := t_subI (t_of (by omega)) (by rfl : (6 : Int32).toInt = 6) (by omega) (by omega)
    rw [xl_law_L18]
    by_cases c : (L : Int) - 6 < j
    · rw [if_pos (by rw [t_lt]; omega)]
    · rw [if_neg (by rw [t_lt]; omega), if_pos (ib_of (by omega) (by omega))]
      have ad : ∀ n : Nat, n ≤ 5 → (x3 + nI n).toInt = ((j + n : Nat) : Int) := fun n hn => t_addN hx (t_nI (by omega)) (by omega)
      have bs : (ib (x3 + 1) L = true ∧ ib (x3 + 2) L = true ∧ ib (x3 + 3) L = true) ∧ ib (x3 + 4) L = true ∧ ib (x3 + 5) L = true := by
        refine ⟨⟨ib_of (i := x3 + nI 1) ?_ ?_, ib_of (i := x3 + nI 2) ?_ ?_, ib_of (i := x3 + nI 3) ?_ ?_⟩, ib_of (i := x3 + nI 4) ?_ ?_, ib_of (i := x3 + nI 5) ?_ ?_⟩
        all_goals (rw [ad _ (by omega)]; omega)
      have ho : OKO (xl_law_L18 F L xs k) x3 := fun bu lo sh fl re se ro ph mo R => ih (j + 6) (x3 + 6) bu lo sh fl re se ro ph mo (t_addN hx (by rfl : (6 : Int32).toInt = ((6 : Nat) : Int)) (by omega)) (by omega) (by omega) R
      by_cases c0 : xs (Int32.toNatClampNeg x3) &&& 63 = 0
      · rw [if_pos c0]; exact lc_house hF bs ho R
      rw [if_neg c0]
      by_cases c1 : xs (Int32.toNatClampNeg x3) &&& 63 = 1
      · rw [if_pos c1]; exact lc_thing hF bs ho R
      rw [if_neg c1]
      by_cases c2 : xs (Int32.toNatClampNeg x3) &&& 63 = 2
      · rw [if_pos c2]; exact lc_fill hF bs ho R
      rw [if_neg c2]
      by_cases c3 : xs (Int32.toNatClampNeg x3) &&& 63 = 3
      · rw [if_pos c3]; exact lc_clear hF bs ho R
      rw [if_neg c3]
      by_cases c4 : xs (Int32.toNatClampNeg x3) &&& 63 = 4
      · rw [if_pos c4]; exact lc_out hF bs ho R
      rw [if_neg c4]
      by_cases c5 : xs (Int32.toNatClampNeg x3) &&& 63 = 5
      · rw [if_pos c5]; exact lc_undo hF bs ho R
      rw [if_neg c5]
      by_cases c6 : xs (Int32.toNatClampNeg x3) &&& 63 = 6
      · rw [if_pos c6]; exact lc_open hF bs ho R
      rw [if_neg c6]
      by_cases c7 : xs (Int32.toNatClampNeg x3) &&& 63 = 7
      · rw [if_pos c7]; exact lc_on hF bs ho R
      rw [if_neg c7]
      by_cases c8 : xs (Int32.toNatClampNeg x3) &&& 63 = 8
      · rw [if_pos c8]; exact lc_rows hF bs ho R
      rw [if_neg c8]
      by_cases c9 : xs (Int32.toNatClampNeg x3) &&& 63 = 9
      · rw [if_pos c9]; exact lc_row hF bs ho R
      rw [if_neg c9]
      by_cases c10 : xs (Int32.toNatClampNeg x3) &&& 63 = 10
      · rw [if_pos c10]; exact lc_tear hF bs ho R
      rw [if_neg c10]
      by_cases c11 : xs (Int32.toNatClampNeg x3) &&& 63 = 11
      · rw [if_pos c11]; exact lc_copy hF bs ho R
      rw [if_neg c11]
      by_cases c12 : xs (Int32.toNatClampNeg x3) &&& 63 = 12
      · rw [if_pos c12]; exact lc_told hF bs ho R
      rw [if_neg c12]
      by_cases c13 : xs (Int32.toNatClampNeg x3) &&& 63 = 13
      · rw [if_pos c13]; exact lc_hold hF bs ho R
      rw [if_neg c13]
      by_cases c14 : xs (Int32.toNatClampNeg x3) &&& 63 = 14
      · rw [if_pos c14]; exact lc_load hF bs ho R
      rw [if_neg c14]
      by_cases c15 : xs (Int32.toNatClampNeg x3) &&& 63 = 15
      · rw [if_pos c15]; exact lc_free hF bs ho R
      rw [if_neg c15]
      by_cases c16 : xs (Int32.toNatClampNeg x3) &&& 63 = 16
      · rw [if_pos c16]; exact lc_turning hF bs ho R
      rw [if_neg c16]
      by_cases c17 : xs (Int32.toNatClampNeg x3) &&& 63 = 17
      · rw [if_pos c17]; exact lc_kind hF bs ho R
      rw [if_neg c17]
      by_cases c18 : xs (Int32.toNatClampNeg x3) &&& 63 = 18
      · rw [if_pos c18]; exact lc_steps hF bs ho R
      rw [if_neg c18]
      by_cases c19 : xs (Int32.toNatClampNeg x3) &&& 63 = 19
      · rw [if_pos c19]; exact lc_pieces hF bs ho R
      rw [if_neg c19]
      by_cases c20 : xs (Int32.toNatClampNeg x3) &&& 63 = 20
      · rw [if_pos c20]; exact lc_piece hF bs ho R
      rw [if_neg c20]
      by_cases c21 : xs (Int32.toNatClampNeg x3) &&& 63 = 21
      · rw [if_pos c21]; exact lc_area hF bs ho R
      rw [if_neg c21]
      by_cases c22 : xs (Int32.toNatClampNeg x3) &&& 63 = 22
      · rw [if_pos c22]; exact lc_slide hF bs ho R
      rw [if_neg c22]
      by_cases c23 : xs (Int32.toNatClampNeg x3) &&& 63 = 23
      · rw [if_pos c23]; exact lc_end hF bs ho R
      rw [if_neg c23]
      by_cases c24 : xs (Int32.toNatClampNeg x3) &&& 63 = 24
      · rw [if_pos c24]; exact lc_way hF bs ho R
      rw [if_neg c24]
      by_cases c25 : xs (Int32.toNatClampNeg x3) &&& 63 = 25
      · rw [if_pos c25]; exact lc_step hF bs ho R
      rw [if_neg c25]
      by_cases c26 : xs (Int32.toNatClampNeg x3) &&& 63 = 26
      · rw [if_pos c26]; exact lc_count hF bs ho R
      rw [if_neg c26]
      by_cases c27 : xs (Int32.toNatClampNeg x3) &&& 63 = 27
      · rw [if_pos c27]; exact lc_reached hF bs ho R
      rw [if_neg c27]
      by_cases c28 : xs (Int32.toNatClampNeg x3) &&& 63 = 28
      · rw [if_pos c28]; exact lc_reaches hF bs ho R
      rw [if_neg c28]
      by_cases c29 : xs (Int32.toNatClampNeg x3) &&& 63 = 29
      · rw [if_pos c29]; exact lc_held hF bs ho R
      rw [if_neg c29]
      by_cases c30 : xs (Int32.toNatClampNeg x3) &&& 63 = 30
      · rw [if_pos c30]; exact lc_doors hF bs ho R
      rw [if_neg c30]
      by_cases c31 : xs (Int32.toNatClampNeg x3) &&& 63 = 31
      · rw [if_pos c31]; exact lc_narrow hF bs ho R
      rw [if_neg c31]
      by_cases c32 : xs (Int32.toNatClampNeg x3) &&& 63 = 32
      · rw [if_pos c32]; exact lc_draft hF bs ho R
      rw [if_neg c32]
      by_cases c33 : xs (Int32.toNatClampNeg x3) &&& 63 = 33
      · rw [if_pos c33]; exact lc_check hF bs ho R
      rw [if_neg c33]
      by_cases c34 : xs (Int32.toNatClampNeg x3) &&& 63 = 34
      · rw [if_pos c34]; exact lc_many hF bs ho R
      rw [if_neg c34]
      by_cases c35 : xs (Int32.toNatClampNeg x3) &&& 63 = 35
      · rw [if_pos c35]; exact lc_finding hF bs ho R
      rw [if_neg c35]
      by_cases c36 : xs (Int32.toNatClampNeg x3) &&& 63 = 36
      · rw [if_pos c36]; exact lc_findings hF bs ho R
      rw [if_neg c36]
      by_cases c37 : xs (Int32.toNatClampNeg x3) &&& 63 = 37
      · rw [if_pos c37]; exact lc_digest hF bs ho R
      rw [if_neg c37]
      exact ho bu lo sh fl re se ro ph mo R

theorem xl_ok18 {F L : Nat} {xs : Nat → Int32} (hF : 100000000000000 < F) (hL : L ≤ 3072) : xl_law_L18 F L xs F (0 : Int32) i_bu i_lo i_sh i_fl i_re i_se i_ro i_ph i_mo = some 1 :=
  xl_loop hF hL F 0 0 _ _ _ _ _ _ _ _ _ rfl (by omega) (by omega) RR_init
theorem xl_ok {F L : Nat} {xs : Nat → Int32} (hF : 100000000000000 < F) (hL : L ≤ 3072) : xl_law F L xs = some 1 := by
  rw [xl_law]
  exact xl_loop hF hL F 0 0 _ _ _ _ _ _ _ _ _ rfl (by omega) (by omega) RR_init
