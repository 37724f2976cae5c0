/-! fill on both sides -/
theorem s_sq_sq (mo : SMo) (a b : Nat → Int32) : SMo.s_squares (SMo.s_squares mo a) b = SMo.s_squares mo b := rfl
theorem s_sq_self (mo : SMo) : SMo.s_squares mo (SMo.f_squares mo) = mo := rfl
theorem cov_st {sq cv : Nat → Int32} {bitv : Int32} {x1 x2 y1 y2 W b j : Nat} (hcv : cv = cov sq bitv x1 x2 y1 y2) (hj : j < W) (hW : W ≤ 20) (hb : b < 20) : cov (stS sq cv W b j) bitv x1 x2 y1 y2 (20 * b + j) = cv (20 * b + j) := by
  have e : stS sq cv W b j (20 * b + j) = sq (20 * b + j) := by
    unfold stS; rw [if_neg (by rw [show visB W b j (20 * b + j) = false from decide_eq_false (by omega)]; decide)]
  subst hcv
  unfold cov at e ⊢
  rw [e]
theorem e8_fill_line {F : Nat} {mo : SMo} {p1 p2 p3 p4 p5 : Int32} {t x y w h W H : Nat} (hF : 20 < F) (h1 : p1.toInt = t) (h2 : p2.toInt = x) (h3 : p3.toInt = y) (h4 : p4.toInt = w) (h5 : p5.toInt = h) (hw : w ≤ 20) (hh : h ≤ 20) (ht : t < 32) (hx : x < 20) (hy : y < 20) (hW : mo.f_wide.toInt = W) (hW2 : W ≤ 20) (hH2 : H ≤ 20) (o : Int32 → Int32 → SMo → Option (Int32 × SMo)) (x7 : Int32) (sq cv : Nat → Int32) {b : Nat} (hb : x7.toInt = b) (hb2 : b < H)
    (hcv : cv = cov sq ((1 : Int32) <<< (p1 &&& 31)) x (min (x + w) W) y (min (y + h) H)) :
    x8_fill_L63 F p1 p2 p3 p4 p5 x7 o F (nI (cntP (fun z => visB W b 0 z && bt (cv z) t) 400)) 0 (SMo.s_squares mo (stS sq cv W b 0)) = o (nI (cntP (fun z => visB W (b + 1) 0 z && bt (cv z) t) 400)) (x7 + 1) (SMo.s_squares mo (stS sq cv W (b + 1) 0)) := by
  refine for_nat (fun k i (s : Int32 × (Nat → Int32)) => x8_fill_L63 F p1 p2 p3 p4 p5 x7 o k s.1 i (SMo.s_squares mo s.2)) W (by omega)
    (fun j s => s = (nI (cntP (fun z => visB W b j z && bt (cv z) t) 400), stS sq cv W b j)) (fun r => r = o (nI (cntP (fun z => visB W (b + 1) 0 z && bt (cv z) t) 400)) (x7 + 1) (SMo.s_squares mo (stS sq cv W (b + 1) 0))) ?_ ?_ F 0 0 (nI (cntP (fun z => visB W b 0 z && bt (cv z) t) 400), stS sq cv W b 0) rfl (by omega) (by omega) rfl
  · intro k i s hi hs
    subst hs
    show x8_fill_L63 _ _ _ _ _ _ _ _ _ _ _ _ = _
    have e1 : stS sq cv W b W = stS sq cv W (b + 1) 0 := by
      funext z; unfold stS; rw [visB_line]
    have e2 : (fun z => visB W b W z && bt (cv z) t) = (fun z => visB W (b + 1) 0 z && bt (cv z) t) := by
      funext z; rw [visB_line]
    rw [x8_fill_L63, if_pos (by simp only [SMo_squares]; rw [t_le]; omega)]
    show o (nI (cntP (fun z => visB W b W z && bt (cv z) t) 400)) (x7 + 1) (SMo.s_squares mo (stS sq cv W b W)) = _
    rw [e1, e2]
  · intro k i s j hi hj hs
    subst hs
    refine Or.inl ⟨(nI (cntP (fun z => visB W b (j + 1) z && bt (cv z) t) 400), stS sq cv W b (j + 1)), rfl, ?_⟩
    show x8_fill_L63 F p1 p2 p3 p4 p5 x7 o (k + 1) (nI (cntP (fun z => visB W b j z && bt (cv z) t) 400)) i (SMo.s_squares mo (stS sq cv W b j)) = x8_fill_L63 F p1 p2 p3 p4 p5 x7 o k (nI (cntP (fun z => visB W b (j + 1) z && bt (cv z) t) 400)) (i + 1) (SMo.s_squares mo (stS sq cv W b (j + 1)))
    have hle := cntP_le (fun z => visB W b j z && bt (cv z) t) 400
    rw [e8_fill_step (W := W) (H := H) h1 h2 h3 h4 h5 hw hh ht hx hy hW hW2 hH2 o k _ x7 i _ hb hi hb2 hj, cov_st hcv hj hW2 (by omega), stS_next hj hW2 (by omega), nI_bi (by omega), fill_cnt hj hW2 (by omega)]
theorem e8_fill_all {F : Nat} {mo : SMo} {p1 p2 p3 p4 p5 : Int32} {t x y w h W H : Nat} (hF : 20 < F) (h1 : p1.toInt = t) (h2 : p2.toInt = x) (h3 : p3.toInt = y) (h4 : p4.toInt = w) (h5 : p5.toInt = h) (hw : w ≤ 20) (hh : h ≤ 20) (ht : t < 32) (hx : x < 20) (hy : y < 20) (hW : mo.f_wide.toInt = W) (hH : mo.f_high.toInt = H) (hW2 : W ≤ 20) (hH2 : H ≤ 20) (sq cv : Nat → Int32)
    (hcv : cv = cov sq ((1 : Int32) <<< (p1 &&& 31)) x (min (x + w) W) y (min (y + h) H)) (hz : ∀ z, z < 400 → (W ≤ z % 20 ∨ H ≤ z / 20) → bt (sq z) t = false) :
    x8_fill_L51 F p1 p2 p3 p4 p5 F 0 0 (SMo.s_squares mo sq) = some (nI (cntP (fun z => bt (cv z) t) 400), SMo.s_squares mo cv) := by
  have e0 : sq = stS sq cv W 0 0 := by
    funext z; unfold stS; rw [if_neg (by rw [show visB W 0 0 z = false from decide_eq_false (by omega)]; decide)]
  have c0 : (0 : Int32) = nI (cntP (fun z => visB W 0 0 z && bt (cv z) t) 400) := by
    rw [cntP_zero 400 (fun z _ => by rw [show visB W 0 0 z = false from decide_eq_false (by omega), Bool.false_and])]; rfl
  have step := for_nat (fun k i (s : Int32 × (Nat → Int32)) => x8_fill_L51 F p1 p2 p3 p4 p5 k s.1 i (SMo.s_squares mo s.2)) H (by omega)
    (fun b s => s = (nI (cntP (fun z => visB W b 0 z && bt (cv z) t) 400), stS sq cv W b 0)) (fun r => r = some (nI (cntP (fun z => bt (cv z) t) 400), SMo.s_squares mo cv)) ?_ ?_ F 0 0 (nI (cntP (fun z => visB W 0 0 z && bt (cv z) t) 400), stS sq cv W 0 0) rfl (by omega) (by omega) rfl
  · have step : x8_fill_L51 F p1 p2 p3 p4 p5 F (nI (cntP (fun z => visB W 0 0 z && bt (cv z) t) 400)) 0 (SMo.s_squares mo (stS sq cv W 0 0)) = some (nI (cntP (fun z => bt (cv z) t) 400), SMo.s_squares mo cv) := step
    rw [← c0, ← e0] at step
    exact step
  · intro k i s hi hs
    subst hs
    show x8_fill_L51 F p1 p2 p3 p4 p5 (k + 1) (nI (cntP (fun z => visB W H 0 z && bt (cv z) t) 400)) i (SMo.s_squares mo (stS sq cv W H 0)) = _
    have e1 : stS sq cv W H 0 = cv := by
      funext z; unfold stS
      by_cases hv : visB W H 0 z = true
      · rw [if_pos hv]
      · rw [if_neg hv, hcv]; unfold cov; rw [if_neg (fun c => hv (decide_eq_true (by omega)))]
    have e2 : cntP (fun z => visB W H 0 z && bt (cv z) t) 400 = cntP (fun z => bt (cv z) t) 400 := by
      refine cntP_congr 400 (fun z hz4 => ?_)
      show (visB W H 0 z && bt (cv z) t) = bt (cv z) t
      by_cases hv : visB W H 0 z = true
      · rw [hv, Bool.true_and]
      · have hb : bt (cv z) t = false := by
          rw [hcv]; unfold cov; rw [if_neg (fun c => hv (decide_eq_true (by omega)))]
          refine hz z hz4 ?_
          unfold visB at hv
          rw [decide_eq_true_eq] at hv
          omega
        rw [hb, Bool.and_false]
    rw [x8_fill_L51, if_pos (by simp only [SMo_squares]; rw [t_le]; omega), e1, e2]
  · intro k i s b hi hb hs
    subst hs
    refine Or.inl ⟨(nI (cntP (fun z => visB W (b + 1) 0 z && bt (cv z) t) 400), stS sq cv W (b + 1) 0), rfl, ?_⟩
    show x8_fill_L51 F p1 p2 p3 p4 p5 (k + 1) (nI (cntP (fun z => visB W b 0 z && bt (cv z) t) 400)) i (SMo.s_squares mo (stS sq cv W b 0)) = x8_fill_L51 F p1 p2 p3 p4 p5 k (nI (cntP (fun z => visB W (b + 1) 0 z && bt (cv z) t) 400)) (i + 1) (SMo.s_squares mo (stS sq cv W (b + 1) 0))
    rw [x8_fill_L51, if_neg (by simp only [SMo_squares]; rw [t_le]; omega), e8_fill_line hF h1 h2 h3 h4 h5 hw hh ht hx hy hW hW2 hH2 _ i sq cv hi hb hcv]
