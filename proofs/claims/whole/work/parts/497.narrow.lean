/-! narrow: both sides -/
def O0 (bu : SBu) (a b : Int) : Prop := inH bu.f_w bu.f_h a b ∧ ∀ t, t < 32 → bt (bu.f_squares (20 * b + a).toNat &&& (bu.f_outBits ^^^ -1)) t = false
def BOXO (bu : SBu) (n : Nat) (X Y : Int) : Prop := ∀ a b : Int, X - n ≤ a → a ≤ X + n → Y - n ≤ b → b ≤ Y + n → O0 bu a b
theorem ON_box {bu : SBu} {n : Nat} {X Y : Int} : ONf (buT bu n) 0 X Y ↔ BOXO bu n X Y := by
  have no : ∀ t, bt 0 t = true → False := fun t c => by rw [b_0] at c; exact absurd c (by decide)
  constructor
  · intro h a b a1 a2 b1 b2
    have hXY : inH bu.f_w bu.f_h X Y := Classical.byContradiction (fun c => no 30 (h 30 (by omega) (Or.inr ⟨c, rfl⟩)))
    have hab : inH bu.f_w bu.f_h a b := Classical.byContradiction (fun c => no 30 (h 30 (by omega) (Or.inl ⟨hXY, a, b, ⟨a1, a2⟩, ⟨b1, b2⟩, Or.inr ⟨c, rfl⟩⟩)))
    refine ⟨hab, fun t ht => ?_⟩
    cases q : bt (bu.f_squares (20 * b + a).toNat &&& (bu.f_outBits ^^^ -1)) t
    · rfl
    · exact (no t (h t ht (Or.inl ⟨hXY, a, b, ⟨a1, a2⟩, ⟨b1, b2⟩, Or.inl ⟨hab, q⟩⟩))).elim
  · intro h t ht hT
    have hXY := (h X Y (by omega) (by omega) (by omega) (by omega)).1
    rcases hT with ⟨-, a, b, ⟨a1, a2⟩, ⟨b1, b2⟩, hB⟩ | ⟨c, -⟩
    · obtain ⟨h1, h2⟩ := h a b a1 a2 b1 b2
      rcases hB with ⟨-, c⟩ | ⟨c, -⟩
      · rw [h2 t ht] at c; exact absurd c (by decide)
      · exact absurd h1 c
    · exact absurd hXY c
theorem box_next {bu : SBu} {n : Nat} {X Y : Int} : BOXO bu (n + 1) X Y ↔ ∀ dx dy : Int, -1 ≤ dx → dx ≤ 1 → -1 ≤ dy → dy ≤ 1 → BOXO bu n (X + dx) (Y + dy) := by
  constructor
  · intro h dx dy x1 x2 y1 y2 a b a1 a2 b1 b2
    exact h a b (by omega) (by omega) (by omega) (by omega)
  · intro h a b a1 a2 b1 b2
    have ex : ∃ dx : Int, -1 ≤ dx ∧ dx ≤ 1 ∧ X + dx - n ≤ a ∧ a ≤ X + dx + n := by
      by_cases c : X + 1 ≤ a
      · exact ⟨1, by omega, by omega, by omega, by omega⟩
      · by_cases c2 : a ≤ X - 1
        · exact ⟨-1, by omega, by omega, by omega, by omega⟩
        · exact ⟨0, by omega, by omega, by omega, by omega⟩
    have ey : ∃ dy : Int, -1 ≤ dy ∧ dy ≤ 1 ∧ Y + dy - n ≤ b ∧ b ≤ Y + dy + n := by
      by_cases c : Y + 1 ≤ b
      · exact ⟨1, by omega, by omega, by omega, by omega⟩
      · by_cases c2 : b ≤ Y - 1
        · exact ⟨-1, by omega, by omega, by omega, by omega⟩
        · exact ⟨0, by omega, by omega, by omega, by omega⟩
    obtain ⟨dx, x1, x2, x3, x4⟩ := ex
    obtain ⟨dy, y1, y2, y3, y4⟩ := ey
    exact h dx dy x1 x2 y1 y2 a b x3 x4 y3 y4
theorem e1_grow {F : Nat} (hF : 20 < F) {bu : SBu} (hw : whOk bu.f_w bu.f_h) {fl : SFl} {n : Nat} (hG : FG fl (ONf (buT bu n) 0)) : ∃ fl', x1_grow F fl = some fl' ∧ (fl'.f_w = fl.f_w ∧ fl'.f_h = fl.f_h) ∧ FG fl' (ONf (buT bu (n + 1)) 0) := by
  obtain ⟨w1, w2⟩ := hw
  have inn : ∀ m X Y, ONf (buT bu m) 0 X Y → (0 ≤ X ∧ X < 20) ∧ 0 ≤ Y ∧ Y < 20 := fun m X Y h => by
    have := (ON_box.mp h X Y (by omega) (by omega) (by omega) (by omega)).1
    unfold inH at this; omega
  have l1 : (1 : Int32) = nI 1 := rfl
  rw [x1_grow]
  refine for_nat (fun k i q => x1_grow_L2 F fl fl.f_open k i q) 20 (by decide) (fun j q => ∀ y x : Nat, y < j → x < 32 → (bt (q y) x = true ↔ ONf (buT bu (n + 1)) 0 x y)) (fun res => ∃ fl', res = some fl' ∧ (fl'.f_w = fl.f_w ∧ fl'.f_h = fl.f_h) ∧ FG fl' (ONf (buT bu (n + 1)) 0)) ?_ ?_ F 0 0 fl.f_narrowed rfl (by omega) (by omega) (fun y x hy => absurd hy (Nat.not_lt_zero y))
  · intro k i q hi hq
    have cp : x1_grow_L65 F fl q F 0 fl.f_open = some (SFl.s_narrowed (SFl.s_open fl (frm 20 q fl.f_open)) q) := by
      refine for_nat (fun k i o => x1_grow_L65 F fl q k i o) 20 (by decide) (fun j o => o = frm j q fl.f_open) (fun r => r = some (SFl.s_narrowed (SFl.s_open fl (frm 20 q fl.f_open)) q)) ?_ ?_ F 0 0 fl.f_open rfl (by omega) (by omega) (frm_0 _ _).symm
      · intro k i o hi ho
        show x1_grow_L65 _ _ _ _ _ _ = _
        rw [x1_grow_L65, if_pos (by rw [t_le]; simp only [t_l]; omega), ho]
      · intro k i o j hi hj ho
        refine Or.inl ⟨_, frm_next (n := j), ?_⟩
        show x1_grow_L65 _ _ _ _ _ _ = _
        rw [x1_grow_L65, if_neg (by rw [t_le]; simp only [t_l]; omega), if_pos (ib_of (by omega) (by omega)), e7_put (by decide), Option.bind_some, gput_of hi hj, t_cl, hi, Int.toNat_natCast, ho]
    refine ⟨_, (by
      show x1_grow_L2 _ _ _ _ _ _ = _
      rw [x1_grow_L2, if_pos (by rw [t_le]; simp only [t_l]; omega), cp]), by simp only [SFl_w, SFl_h, SFl_open, SFl_narrowed, SFl_fitting, and_self], inn _, fun x y hy hx => ?_⟩
    simp only [SFl_w, SFl_h, SFl_open, SFl_narrowed, SFl_fitting]
    unfold frm
    rw [if_pos hy]
    exact hq y x hy hx
  · intro k i q j hi hj hq
    have am : (i - 1).toInt = (j : Int) + -1 := by rw [t_subI hi t_l.2.1 (by omega) (by omega)]; omega
    have ap : (i + 1).toInt = (j : Int) + 1 := t_addI hi t_l.2.1 (by omega) (by omega)
    have row : ∀ z, z < 32 → (bt (gat 20 fl.f_open (i - 1) &&& gat 20 fl.f_open i &&& gat 20 fl.f_open (i + 1)) z = true ↔ (ONf (buT bu n) 0 z ((j : Int) + -1) ∧ ONf (buT bu n) 0 z (j : Int)) ∧ ONf (buT bu n) 0 z ((j : Int) + 1)) := fun z hz => by
      rw [b_and, b_and, Bool.and_eq_true, Bool.and_eq_true, FG_row hG am hz, FG_row hG hi hz, FG_row hG ap hz]
    refine Or.inl ⟨_, ?_, (by
      show x1_grow_L2 _ _ _ _ _ _ = _
      rw [x1_grow_L2, if_neg (by rw [t_le]; simp only [t_l]; omega), e7_at (by decide), Option.bind_some, e7_at (by decide), Option.bind_some, e7_at (by decide), Option.bind_some, if_pos (ib_of (by omega) (by omega)), t_cl, hi, Int.toNat_natCast])⟩
    intro y x hy hx
    rw [upd_at]
    by_cases e : y = j
    · rw [if_pos e, e]
      generalize gat 20 fl.f_open (i - 1) &&& gat 20 fl.f_open i &&& gat 20 fl.f_open (i + 1) = bb at row
      rw [b_and, b_and, Bool.and_eq_true, Bool.and_eq_true, l1, b_shl 1 (by omega) _ hx, b_sshr 1 (by omega) _ hx, Bool.and_eq_true, decide_eq_true_eq, row x hx]
      have full : ONf (buT bu (n + 1)) 0 (x : Int) (j : Int) ↔ ∀ dx dy : Int, -1 ≤ dx → dx ≤ 1 → -1 ≤ dy → dy ≤ 1 → ONf (buT bu n) 0 ((x : Int) + dx) ((j : Int) + dy) := by
        rw [ON_box, box_next]
        exact ⟨fun h dx dy a b c d => ON_box.mpr (h dx dy a b c d), fun h dx dy a b c d => ON_box.mp (h dx dy a b c d)⟩
      rw [full]
      constructor
      · rintro ⟨⟨⟨⟨c1, c2⟩, c3⟩, c4, c5⟩, c6⟩ dx dy x1 x2 y1 y2
        rw [row (x - 1) (by omega), show ((x - 1 : Nat) : Int) = (x : Int) + -1 by omega] at c5
        have x20 := (inn _ _ _ c2).1
        rw [if_pos (by omega), row (1 + x) (by omega), show ((1 + x : Nat) : Int) = (x : Int) + 1 by omega] at c6
        rcases (show dx = -1 ∨ dx = 0 ∨ dx = 1 by omega) with rfl | rfl | rfl
        · rcases (show dy = -1 ∨ dy = 0 ∨ dy = 1 by omega) with rfl | rfl | rfl
          · exact c5.1.1
          · rw [Int.add_zero]; exact c5.1.2
          · exact c5.2
        · rw [Int.add_zero]
          rcases (show dy = -1 ∨ dy = 0 ∨ dy = 1 by omega) with rfl | rfl | rfl
          · exact c1
          · rw [Int.add_zero]; exact c2
          · exact c3
        · rcases (show dy = -1 ∨ dy = 0 ∨ dy = 1 by omega) with rfl | rfl | rfl
          · exact c6.1.1
          · rw [Int.add_zero]; exact c6.1.2
          · exact c6.2
      · intro h
        have g := fun dx dy => h dx dy
        have m0 := h (-1) 0 (by omega) (by omega) (by omega) (by omega)
        have p0 := h 1 0 (by omega) (by omega) (by omega) (by omega)
        have x1 := (inn _ _ _ m0).1
        have x2 := (inn _ _ _ p0).1
        refine ⟨⟨⟨⟨?_, ?_⟩, ?_⟩, by omega, ?_⟩, ?_⟩
        · have := h 0 (-1) (by omega) (by omega) (by omega) (by omega)
          rwa [Int.add_zero] at this
        · have := h 0 0 (by omega) (by omega) (by omega) (by omega)
          rwa [Int.add_zero, Int.add_zero] at this
        · have := h 0 1 (by omega) (by omega) (by omega) (by omega)
          rwa [Int.add_zero] at this
        · rw [row (x - 1) (by omega), show ((x - 1 : Nat) : Int) = (x : Int) + -1 by omega]
          have a2 := m0
          rw [Int.add_zero] at a2
          have a1 : ONf (buT bu n) 0 ((x : Int) + -1) ((j : Int) + -1) := h (-1) (-1) (by omega) (by omega) (by omega) (by omega)
          exact ⟨⟨a1, a2⟩, h (-1) 1 (by omega) (by omega) (by omega) (by omega)⟩
        · rw [if_pos (by omega), row (1 + x) (by omega), show ((1 + x : Nat) : Int) = (x : Int) + 1 by omega]
          have a2 := p0
          rw [Int.add_zero] at a2
          have a1 : ONf (buT bu n) 0 ((x : Int) + 1) ((j : Int) + -1) := h 1 (-1) (by omega) (by omega) (by omega) (by omega)
          exact ⟨⟨a1, a2⟩, h 1 1 (by omega) (by omega) (by omega) (by omega)⟩
    · rw [if_neg e]; exact hq y x (by omega) hx
