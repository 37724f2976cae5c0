/-! way: both sides -/
theorem trace_both {F : Nat} (hF : 100 < F) {fl : SFl} {mo : SMo} {w h : Nat} (g : GR fl mo w h) {b : Nat} {se : SSe} {n : Nat} {rs : Nat → Bool} {ord tn ln : Nat → Nat} (R : REP fl w h se n rs ord tn ln) (D : FARD mo.f_far rs tn ln) (S : SRC fl w h b rs tn ln) (ro : SRo) (len : Int32) (x2 : Int32) : ∀ (m a k1 k2 : Nat) (fd tk : Nat → Int32), rs a = true → ln a = m → m < k1 → m < k2 →
    ∃ fd' tk', x4_trace_L38 F fl se ro len k1 (nI a) (nI m - 1) fd = some (SRo.s_found (SRo.s_length ro len) fd') ∧ x8_way_L51 F x2 k2 (nI a) (nI m - 1) (SMo.s_taken mo tk) = some (x2, SMo.s_takenMany (SMo.s_taken mo tk') x2) ∧ (∀ j, j < m → tk' j = fd' j ∧ 0 ≤ (fd' j).toInt ∧ (fd' j).toInt ≤ 5) ∧ ∀ j, m ≤ j → fd' j = fd j ∧ tk' j = tk j := by
  obtain ⟨w20, h20, -, -⟩ := GR_w g
  have B := S.2.2.2
  intro m
  induction m with
  | zero =>
    intro a k1 k2 fd tk ha hl h1 h2
    obtain ⟨k1, rfl⟩ : ∃ k', k1 = k' + 1 := ⟨k1 - 1, by omega⟩
    obtain ⟨k2, rfl⟩ : ∃ k', k2 = k' + 1 := ⟨k2 - 1, by omega⟩
    have e1 : nI 0 - 1 < 0 := by decide
    exact ⟨fd, tk, by rw [x4_trace_L38, if_pos e1], by rw [x8_way_L51, if_pos e1], fun j hj => absurd hj (Nat.not_lt_zero j), fun j _ => ⟨rfl, rfl⟩⟩
  | succ m ih =>
    intro a k1 k2 fd tk ha hl h1 h2
    obtain ⟨k1, rfl⟩ : ∃ k', k1 = k' + 1 := ⟨k1 - 1, by omega⟩
    obtain ⟨k2, rfl⟩ : ∃ k', k2 = k' + 1 := ⟨k2 - 1, by omega⟩
    obtain ⟨⟨hok, hfa⟩, hta, hla⟩ := B a ha
    have em : nI (m + 1) - 1 = nI m := nI_pred m
    have tm : (nI m).toInt = (m : Int) := t_nI (by omega)
    have em2 : nI m + (-1) = nI m - 1 := by
      refine Int32.toInt_inj.mp ?_
      rw [t_addI tm (by decide : (-1 : Int32).toInt = -1) (by omega) (by omega), t_subI tm t_l.2.1 (by omega) (by omega)]; omega
    have n0 : ¬ nI m < 0 := nI_pos (by omega)
    -- there is a best last step
    have hex : ∃ r, fsS (bfS fl w h rs tn ln a) 6 0 = some r := by
      rcases S.2.2.1 a ha with ⟨p1, p2, p3⟩ | ⟨u, k, p1, p2, p3, p4, p5⟩
      · omega
      · have hu := (B u p1).1
        have hi := ldS_inv w20 h20 hu.1 hu.2 p2 p3
        have hii : inv2 (inv2 k) = k := by unfold inv2; split <;> split <;> omega
        refine fsS_ex 6 0 k (by omega) (by omega) ?_
        rw [bfS_of hi p1 p4.symm (by omega)]; rfl
    obtain ⟨r, hr⟩ := hex
    obtain ⟨⟨-, hr6⟩, -⟩ := fsS_lt 6 0 r hr
    obtain ⟨p, hp, hlook⟩ := e8_look (F := F) g D B ha x2 (x8_way_L51 F x2 k2) (m := m) (by omega) tk 6 0 F r hr (by omega) (by omega)
    obtain ⟨hp1, hp2, hp3, hp4⟩ := bfS_some hp
    have hls := e5_lastStep (F := F) (by omega) g R B ha
    rw [hr] at hls
    have n9 : ¬ enc (some r) = -9 := nI_9 (by omega)
    obtain ⟨fd', tk', z1, z2, z3, z4⟩ := ih p k1 k2 (upd fd m (nI r)) (upd tk m (nI r)) hp2 (by omega) (by omega) (by omega)
    refine ⟨fd', tk', ?_, ?_, fun j hj => ?_, fun j hj => ?_⟩
    · rw [em, x4_trace_L38, if_neg n0, hls, Option.bind_some, if_neg n9, e7_put (by decide), Option.bind_some, gput_of tm (by omega)]
      show (x1_lead fl (nI a) (nI r ^^^ 1)).bind _ = _
      rw [xor_1 r (by omega), e1_lead g hok (inv2_6 (by omega)), Option.bind_some, hp1, em2]
      exact z1
    · rw [em, x8_way_L51, if_neg n0]
      show x8_way_L58 F (nI a) x2 (nI m) (SMo.s_taken mo tk) (x8_way_L51 F x2 k2) F (nI 0) = _
      rw [hlook, em2, z2]
    · by_cases c : j < m
      · exact z3 j c
      · have ej : j = m := by omega
        obtain ⟨y1, y2⟩ := z4 j (by omega)
        rw [y1, y2, ej, upd_at, upd_at, if_pos rfl, if_pos rfl, t_nI (by omega)]
        exact ⟨rfl, by omega, by omega⟩
    · obtain ⟨y1, y2⟩ := z4 j (by omega)
      rw [y1, y2, upd_at, upd_at, if_neg (by omega), if_neg (by omega)]
      exact ⟨rfl, rfl⟩
theorem s_tm_tk (mo : SMo) (v : Int32) (f : Nat → Int32) (v2 : Int32) : SMo.s_takenMany (SMo.s_taken (SMo.s_takenMany mo v) f) v2 = SMo.s_takenMany (SMo.s_taken mo f) v2 := SMo_ext (by simp only [SMo_finding, SMo_findings, SMo_wide, SMo_high, SMo_things, SMo_doors, SMo_outs, SMo_squares, SMo_undos, SMo_keptThings, SMo_keptDoors, SMo_keptOuts, SMo_keptSquares, SMo_ends, SMo_rowMany, SMo_rows, SMo_moving, SMo_holdX, SMo_holdY, SMo_way, SMo_bars, SMo_turnBars, SMo_grown, SMo_gone, SMo_pieceOf, SMo_todo, SMo_far, SMo_isIn, SMo_line, SMo_taken, SMo_takenMany, SMo_drafted, SMo_draftMany, and_self])
/-- all that lasts but the way -/
def sW (mo mo' : SMo) : Prop := sH mo mo' ∧ sL mo mo' ∧ sF mo mo' ∧ sE mo mo' ∧ sD mo mo'
theorem sW_of {mo mo' : SMo} (h : sA mo mo') : sW mo mo' := ⟨h.1, h.2.1, h.2.2.1, h.2.2.2.1, h.2.2.2.2.2⟩
theorem sW_tr {a b c : SMo} (h : sA a b) (k : sW b c) : sW a c := by
  obtain ⟨h1, ⟨⟨p1, p2⟩, p3, p4⟩, ⟨p5, p6⟩, p7, ⟨p8, p9⟩, p10, p11⟩ := h
  obtain ⟨k1, ⟨⟨q1, q2⟩, q3, q4⟩, ⟨q5, q6⟩, q7, q10, q11⟩ := k
  exact ⟨sH_tr h1 k1, ⟨⟨q1.trans p1, q2.trans p2⟩, q3.trans p3, q4.trans p4⟩, ⟨q5.trans p5, q6.trans p6⟩, q7.trans p7, q10.trans p10, q11.trans p11⟩
theorem way_both {F : Nat} (hF : 100000000000000 < F) {bu : SBu} {lo : SLo} {mo : SMo} (hb : RB bu mo) (h : RLo lo mo) {ph : SPh} (hE : RE bu.f_w bu.f_h ph mo) {ro : SRo} (hT : RT ro mo) (sh : SSh) (fl : SFl) (se : SSe) :
    ∃ r sh' fl' se' ro' mo', x7_way F bu lo sh fl se ro ph = some (r, sh', fl', se', ro') ∧ x8_way F mo = some (r, mo') ∧ sW mo mo' ∧ RT ro' mo' := by
  obtain ⟨d, sh', fl', mo1, e1, e2, hA, hL⟩ := begin_both (F := F) (by omega) hb h sh fl ph
  rw [x7_way, x8_way, e1, e2, Option.bind_some, Option.bind_some]
  cases d
  · simp only [bi_f0, if_true]
    exact ⟨_, _, _, _, _, _, rfl, rfl, sW_of hA, RT_upd hT hA.2.2.2.2.1⟩
  · have g := (hL rfl).1
    obtain ⟨b, gl, p1, p2, hEn, okb, okg⟩ := RE_ends (RB_wh hb) hE
    have hEn1 := ENDS_upd hEn hA.2.2.2.1
    obtain ⟨se', mo2, n, rs, ord, tn, ln, x1, x2, x3, x4, x5, x6, x7, x8, x9, -⟩ := search_both hF g hEn1 okb se
    have hA2 := sA_tr hA x8
    have g2 := GR_upd g x9
    have okg1 := okg.1
    have tg : (nI gl).toInt = (gl : Int) := t_nI (by omega)
    have ibg : ib (nI gl) 1764 = true := ib_of (by omega) (by omega)
    have ecg : Int32.toNatClampNeg (nI gl) = gl := by rw [t_cl, tg]; rfl
    have hgoal : x8_goal (SMo.s_takenMany mo2 (-9)) = some (nI gl) := (ENDS_b hEn1 (by simp only [SMo_finding, SMo_findings, SMo_wide, SMo_high, SMo_things, SMo_doors, SMo_outs, SMo_squares, SMo_undos, SMo_keptThings, SMo_keptDoors, SMo_keptOuts, SMo_keptSquares, SMo_ends, SMo_rowMany, SMo_rows, SMo_moving, SMo_holdX, SMo_holdY, SMo_way, SMo_bars, SMo_turnBars, SMo_grown, SMo_gone, SMo_pieceOf, SMo_todo, SMo_far, SMo_isIn, SMo_line, SMo_taken, SMo_takenMany, SMo_drafted, SMo_draftMany]; exact x8.2.2.2.1)).2
    have hfg := x4 gl okg1
    simp only [bi_t0, if_false, p1, x1, x2, Option.bind_some, hgoal, if_pos ibg, ecg, p2]
    have stM : ∀ f v, sW mo2 (SMo.s_takenMany (SMo.s_taken mo2 f) v) := fun f v => by simp only [sW, sH, sL, sF, sE, sD, SMo_finding, SMo_findings, SMo_wide, SMo_high, SMo_things, SMo_doors, SMo_outs, SMo_squares, SMo_undos, SMo_keptThings, SMo_keptDoors, SMo_keptOuts, SMo_keptSquares, SMo_ends, SMo_rowMany, SMo_rows, SMo_moving, SMo_holdX, SMo_holdY, SMo_way, SMo_bars, SMo_turnBars, SMo_grown, SMo_gone, SMo_pieceOf, SMo_todo, SMo_far, SMo_isIn, SMo_line, SMo_taken, SMo_takenMany, SMo_drafted, SMo_draftMany, and_self]
    rw [x4_trace, e5_isReached x3 okg1, Option.bind_some]
    cases hr : rs gl
    · rw [hr, if_neg (by decide)] at hfg
      rw [if_pos bi_f, Option.bind_some, hfg, if_neg (by decide)]
      simp only [SRo_length, SRo_found]
      refine ⟨_, _, _, _, _, _, rfl, rfl, sW_tr hA2 (by simp only [sW, sH, sL, sF, sE, sD, SMo_finding, SMo_findings, SMo_wide, SMo_high, SMo_things, SMo_doors, SMo_outs, SMo_squares, SMo_undos, SMo_keptThings, SMo_keptDoors, SMo_keptOuts, SMo_keptSquares, SMo_ends, SMo_rowMany, SMo_rows, SMo_moving, SMo_holdX, SMo_holdY, SMo_way, SMo_bars, SMo_turnBars, SMo_grown, SMo_gone, SMo_pieceOf, SMo_todo, SMo_far, SMo_isIn, SMo_line, SMo_taken, SMo_takenMany, SMo_drafted, SMo_draftMany, and_self]), Or.inl ⟨by simp only [SRo_length, SRo_found], by simp only [SMo_finding, SMo_findings, SMo_wide, SMo_high, SMo_things, SMo_doors, SMo_outs, SMo_squares, SMo_undos, SMo_keptThings, SMo_keptDoors, SMo_keptOuts, SMo_keptSquares, SMo_ends, SMo_rowMany, SMo_rows, SMo_moving, SMo_holdX, SMo_holdY, SMo_way, SMo_bars, SMo_turnBars, SMo_grown, SMo_gone, SMo_pieceOf, SMo_todo, SMo_far, SMo_isIn, SMo_line, SMo_taken, SMo_takenMany, SMo_drafted, SMo_draftMany]⟩⟩
    · rw [hr, if_pos rfl] at hfg
      have hfb : frS fl' b = true := by
        cases hf : frS fl' b
        · rw [x7 hf gl] at hr; exact absurd hr (by decide)
        · rfl
      have S := x6 hfb
      obtain ⟨-, htg, hlg⟩ := S.2.2.2 gl hr
      have h0 : (0 : Int32) ≤ nI (100000 * tn gl + ln gl) := nI_pos' (by omega)
      have hmod : (100000 * tn gl + ln gl) % 100000 = ln gl := by omega
      have atL : x7_at 1764 se'.f_lengths (nI gl) = some (nI (ln gl)) := by
        rw [e7_at (by decide), gat_of (k := gl) tg okg1, x3.1.2.2.1 gl okg1 hr]
      rw [if_neg (by decide : ¬ bi true = 0), atL, Option.bind_some, hfg, if_pos h0, r100000 (by omega), hmod]
      have gM : sG mo2 (SMo.s_takenMany mo2 (-9)) := by simp only [sG, SMo_finding, SMo_findings, SMo_wide, SMo_high, SMo_things, SMo_doors, SMo_outs, SMo_squares, SMo_undos, SMo_keptThings, SMo_keptDoors, SMo_keptOuts, SMo_keptSquares, SMo_ends, SMo_rowMany, SMo_rows, SMo_moving, SMo_holdX, SMo_holdY, SMo_way, SMo_bars, SMo_turnBars, SMo_grown, SMo_gone, SMo_pieceOf, SMo_todo, SMo_far, SMo_isIn, SMo_line, SMo_taken, SMo_takenMany, SMo_drafted, SMo_draftMany, and_self]
      have D3 : FARD (SMo.s_takenMany mo2 (-9)).f_far rs tn ln := by simp only [SMo_finding, SMo_findings, SMo_wide, SMo_high, SMo_things, SMo_doors, SMo_outs, SMo_squares, SMo_undos, SMo_keptThings, SMo_keptDoors, SMo_keptOuts, SMo_keptSquares, SMo_ends, SMo_rowMany, SMo_rows, SMo_moving, SMo_holdX, SMo_holdY, SMo_way, SMo_bars, SMo_turnBars, SMo_grown, SMo_gone, SMo_pieceOf, SMo_todo, SMo_far, SMo_isIn, SMo_line, SMo_taken, SMo_takenMany, SMo_drafted, SMo_draftMany]; exact x4
      obtain ⟨fd', tk', z1, z2, z3, z4⟩ := trace_both (F := F) (by omega) (GR_upd g2 gM) x3 D3 S ro (nI (ln gl)) (nI (ln gl)) (ln gl) gl F F ro.f_found (SMo.s_takenMany mo2 (-9)).f_taken hr rfl (by omega) (by omega)
      rw [s_tk_self] at z2
      rw [s_tm_tk] at z2
      rw [z1, z2, Option.bind_some]
      simp only [SRo_length, SRo_found]
      refine ⟨_, _, _, _, _, _, rfl, rfl, sW_tr hA2 (stM _ _), Or.inr ⟨ln gl, hlg, by simp only [SRo_length, SRo_found], by simp only [SMo_finding, SMo_findings, SMo_wide, SMo_high, SMo_things, SMo_doors, SMo_outs, SMo_squares, SMo_undos, SMo_keptThings, SMo_keptDoors, SMo_keptOuts, SMo_keptSquares, SMo_ends, SMo_rowMany, SMo_rows, SMo_moving, SMo_holdX, SMo_holdY, SMo_way, SMo_bars, SMo_turnBars, SMo_grown, SMo_gone, SMo_pieceOf, SMo_todo, SMo_far, SMo_isIn, SMo_line, SMo_taken, SMo_takenMany, SMo_drafted, SMo_draftMany], fun k hk => ?_⟩⟩
      simp only [SRo_length, SRo_found, SMo_finding, SMo_findings, SMo_wide, SMo_high, SMo_things, SMo_doors, SMo_outs, SMo_squares, SMo_undos, SMo_keptThings, SMo_keptDoors, SMo_keptOuts, SMo_keptSquares, SMo_ends, SMo_rowMany, SMo_rows, SMo_moving, SMo_holdX, SMo_holdY, SMo_way, SMo_bars, SMo_turnBars, SMo_grown, SMo_gone, SMo_pieceOf, SMo_todo, SMo_far, SMo_isIn, SMo_line, SMo_taken, SMo_takenMany, SMo_drafted, SMo_draftMany]
      exact z3 k hk
