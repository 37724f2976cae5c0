/-! steps undo one another; what slides reach; the class's flood -/
def inv2 (k : Nat) : Nat := if k % 2 = 0 then k + 1 else k - 1
theorem goS_inv {w h s k t : Nat} (w20 : w ≤ 20) (h20 : h ≤ 20) (hs : okS w h s) (hk : k < 6) (e : goS w h s k = some t) : goS w h t (inv2 k) = some s := by
  obtain ⟨q, x, y, rfl, hq, hx, hy⟩ := st_split w20 h20 hs
  have x20 : x ≤ 20 := Nat.le_trans hx w20
  have y20 : y ≤ 20 := Nat.le_trans hy h20
  clear hs
  rcases (show k = 0 ∨ k = 1 ∨ k = 2 ∨ k = 3 ∨ k = 4 ∨ k = 5 by omega) with rfl | rfl | rfl | rfl | rfl | rfl
  · rw [goS_0 x20 y20] at e
    split at e
    · rename_i c
      injection e with e
      show goS w h t 1 = _
      rw [← e, goS_1 (by omega) y20, if_pos (by omega), Nat.add_sub_cancel]
    · exact absurd e (by simp)
  · rw [goS_1 x20 y20] at e
    split at e
    · rename_i c
      injection e with e
      show goS w h t 0 = _
      rw [← e, goS_0 (by omega) y20, if_pos (by omega), Nat.sub_add_cancel c]
    · exact absurd e (by simp)
  · rw [goS_2 x20 y20] at e
    split at e
    · rename_i c
      injection e with e
      show goS w h t 3 = _
      rw [← e, goS_3 x20 (by omega), if_pos (by omega), Nat.add_sub_cancel]
    · exact absurd e (by simp)
  · rw [goS_3 x20 y20] at e
    split at e
    · rename_i c
      injection e with e
      show goS w h t 2 = _
      rw [← e, goS_2 x20 (by omega), if_pos (by omega), Nat.sub_add_cancel c]
    · exact absurd e (by simp)
  · rw [goS_4 x20 y20] at e
    injection e with e
    show goS w h t 5 = _
    rw [← e, goS_5 x20 y20, show ((q + 1) % 4 + 3) % 4 = q by omega]
  · rw [goS_5 x20 y20] at e
    injection e with e
    show goS w h t 4 = _
    rw [← e, goS_4 x20 y20, show ((q + 3) % 4 + 1) % 4 = q by omega]
theorem goS_q {w h s k t : Nat} (w20 : w ≤ 20) (h20 : h ≤ 20) (hs : okS w h s) (hk : k < 4) (e : goS w h s k = some t) : t / 441 = s / 441 := by
  obtain ⟨q, x, y, rfl, hq, hx, hy⟩ := st_split w20 h20 hs
  have x20 : x ≤ 20 := Nat.le_trans hx w20
  have y20 : y ≤ 20 := Nat.le_trans hy h20
  clear hs
  rw [(st_d x20 y20).1]
  rcases (show k = 0 ∨ k = 1 ∨ k = 2 ∨ k = 3 by omega) with rfl | rfl | rfl | rfl
  · rw [goS_0 x20 y20] at e
    split at e
    · rename_i c; injection e with e; rw [← e]; exact (st_d (by omega) y20).1
    · exact absurd e (by simp)
  · rw [goS_1 x20 y20] at e
    split at e
    · rename_i c; injection e with e; rw [← e]; exact (st_d (by omega) y20).1
    · exact absurd e (by simp)
  · rw [goS_2 x20 y20] at e
    split at e
    · rename_i c; injection e with e; rw [← e]; exact (st_d x20 (by omega)).1
    · exact absurd e (by simp)
  · rw [goS_3 x20 y20] at e
    split at e
    · rename_i c; injection e with e; rw [← e]; exact (st_d x20 (by omega)).1
    · exact absurd e (by simp)
theorem goS_p {w h s k t : Nat} (w20 : w ≤ 20) (h20 : h ≤ 20) (hs : okS w h s) (hk : ¬ k < 4) (hk6 : k < 6) (e : goS w h s k = some t) : t / 21 % 21 = s / 21 % 21 ∧ t % 21 = s % 21 := by
  obtain ⟨q, x, y, rfl, hq, hx, hy⟩ := st_split w20 h20 hs
  have x20 : x ≤ 20 := Nat.le_trans hx w20
  have y20 : y ≤ 20 := Nat.le_trans hy h20
  clear hs
  rw [(st_d x20 y20).2.1, (st_d x20 y20).2.2.1]
  rcases (show k = 4 ∨ k = 5 by omega) with rfl | rfl
  · rw [goS_4 x20 y20] at e
    injection e with e; rw [← e]; exact ⟨(st_d x20 y20).2.1, (st_d x20 y20).2.2.1⟩
  · rw [goS_5 x20 y20] at e
    injection e with e; rw [← e]; exact ⟨(st_d x20 y20).2.1, (st_d x20 y20).2.2.1⟩
theorem inv2_lt {k : Nat} : (k < 4 → inv2 k < 4) ∧ (¬ k < 4 → k < 6 → ¬ inv2 k < 4 ∧ inv2 k < 6) := by unfold inv2; split <;> omega
theorem ldS_inv {fl : SFl} {w h s k t : Nat} (w20 : w ≤ 20) (h20 : h ≤ 20) (hs : okS w h s) (hf : frS fl s = true) (hk : k < 6) (e : ldS fl w h s k = some t) : ldS fl w h t (inv2 k) = some s := by
  obtain ⟨e1, e2, e3⟩ := ldS_some e
  refine ldS_of (goS_inv w20 h20 hs hk e1) hf ?_
  by_cases k4 : k < 4
  · exact Or.inl (inv2_lt.1 k4)
  · obtain ⟨p1, p2⟩ := goS_p w20 h20 hs k4 hk e1
    right
    rcases e3 with e3 | e3
    · exact absurd e3 k4
    · unfold tuS at e3 ⊢; rw [p1, p2]; exact e3
/-- slides lead from s to t -/
def Rch (fl : SFl) (w h s t : Nat) : Prop := ∀ P : Nat → Prop, P s → (∀ a b k, P a → k < 4 → ldS fl w h a k = some b → P b) → P t
theorem Rch_0 (fl : SFl) (w h s : Nat) : Rch fl w h s s := fun _ h0 _ => h0
theorem Rch_1 {fl : SFl} {w h s a b k : Nat} (h1 : Rch fl w h s a) (hk : k < 4) (e : ldS fl w h a k = some b) : Rch fl w h s b := fun P h0 hP => hP a b k (h1 P h0 hP) hk e
/-- what is reached is a free state of the same position -/
theorem Rch_ok {fl : SFl} {w h s t : Nat} (w20 : w ≤ 20) (h20 : h ≤ 20) (hs : okS w h s) (hf : frS fl s = true) (hr : Rch fl w h s t) : okS w h t ∧ frS fl t = true ∧ t / 441 = s / 441 :=
  hr (fun t => okS w h t ∧ frS fl t = true ∧ t / 441 = s / 441) ⟨hs, hf, rfl⟩ (fun a b k ha hk e => by
    obtain ⟨o1, o2⟩ := ldS_ok w20 h20 ha.1 e
    exact ⟨o1, o2, (goS_q w20 h20 ha.1 hk (ldS_some e).1).trans ha.2.2⟩)
def lab (num : Nat → Int32) (s : Nat) : Prop := ¬ num (s % 441) = -9
/-- what is labelled leads to nothing else -/
def ClB (fl : SFl) (w h q : Nat) (num : Nat → Int32) : Prop := ∀ a b k, okS w h a → frS fl a = true → a / 441 = q → k < 4 → ldS fl w h a k = some b → (lab num b ↔ lab num a)
/-- a flood from s has labelled what is reached, and nothing else -/
def FLD (fl : SFl) (w h q s : Nat) (c : Int32) (num num' : Nat → Int32) : Prop := ∀ p, p < 441 → (Rch fl w h s (441 * q + p) → num' p = c) ∧ (¬ Rch fl w h s (441 * q + p) → num' p = num p)
/-- a flood under way: vis what is labelled by it -/
def FLV (fl : SFl) (w h q s : Nat) (c : Int32) (num num' : Nat → Int32) (vis : Nat → Bool) : Prop :=
  (∀ p, p < 441 → num' p = if vis p = true then c else num p) ∧ (∀ p, p < 441 → vis p = true → Rch fl w h s (441 * q + p) ∧ num p = -9) ∧ vis (s % 441) = true
theorem FLV_end {fl : SFl} {w h q s : Nat} {c : Int32} {num num' : Nat → Int32} {vis : Nat → Bool} (w20 : w ≤ 20) (h20 : h ≤ 20) (hs : okS w h s) (hf : frS fl s = true) (hq : s / 441 = q) (hv : FLV fl w h q s c num num' vis) (hd : ∀ p, p < 441 → vis p = true → ∀ k b, k < 4 → ldS fl w h (441 * q + p) k = some b → vis (b % 441) = true) : FLD fl w h q s c num num' := by
  intro p hp
  have key : ∀ t, Rch fl w h s t → t / 441 = q ∧ vis (t % 441) = true := fun t hr =>
    (hr (fun t => (okS w h t ∧ t / 441 = q) ∧ vis (t % 441) = true) ⟨⟨hs, hq⟩, hv.2.2⟩ (fun a b k ha hk e => by
      obtain ⟨o1, o2⟩ := ldS_ok w20 h20 ha.1.1 e
      refine ⟨⟨o1, (goS_q w20 h20 ha.1.1 hk (ldS_some e).1).trans ha.1.2⟩, ?_⟩
      refine hd (a % 441) (Nat.mod_lt _ (by decide)) ha.2 k b hk ?_
      rw [show 441 * q + a % 441 = a by have := ha.1.2; omega]; exact e)) |> fun r => ⟨r.1.2, r.2⟩
  constructor
  · intro hr
    have h1 := (key _ hr).2
    rw [show (441 * q + p) % 441 = p by omega] at h1
    rw [hv.1 p hp, if_pos h1]
  · intro hr
    rw [hv.1 p hp, if_neg (fun c => hr (hv.2.1 p hp c).1)]
/-- one more labelled -/
theorem FLV_add {fl : SFl} {w h q s : Nat} {c : Int32} {num num' : Nat → Int32} {vis : Nat → Bool} (hc : ¬ c = -9) (w20 : w ≤ 20) (h20 : h ≤ 20) (hs : okS w h s) (hf : frS fl s = true) (hq : s / 441 = q) (hv : FLV fl w h q s c num num' vis) {a b k : Nat} (ha : Rch fl w h s a) (hk : k < 4) (e : ldS fl w h a k = some b) (hb : num' (b % 441) = -9) :
    FLV fl w h q s c num (upd num' (b % 441) c) (fun p => vis p || decide (p = b % 441)) ∧ cntP (fun p => vis p || decide (p = b % 441)) 441 = cntP vis 441 + 1 ∧ Rch fl w h s b ∧ b / 441 = q := by
  have hr := Rch_1 ha hk e
  obtain ⟨o1, o2, o3⟩ := Rch_ok w20 h20 hs hf hr
  have hlt : b % 441 < 441 := Nat.mod_lt _ (by decide)
  have hn := hv.1 (b % 441) hlt
  have hvb : vis (b % 441) = false := by
    cases hvb : vis (b % 441)
    · rfl
    · rw [hvb, if_pos rfl] at hn; exact absurd (hn.symm.trans hb) hc
  rw [hvb, if_neg (by decide)] at hn
  refine ⟨⟨fun p hp => ?_, fun p hp hvp => ?_, ?_⟩, ?_, hr, o3.trans hq⟩
  · rw [upd_at]
    show _ = if (vis p || decide (p = b % 441)) = true then c else num p
    by_cases hpb : p = b % 441
    · rw [if_pos hpb, decide_eq_true hpb, Bool.or_true, if_pos rfl]
    · rw [if_neg hpb, decide_eq_false hpb, Bool.or_false]; exact hv.1 p hp
  · have hvp : (vis p || decide (p = b % 441)) = true := hvp
    by_cases hpb : p = b % 441
    · rw [hpb]
      refine ⟨?_, hn.symm.trans hb⟩
      rw [show 441 * q + b % 441 = b by omega]; exact hr
    · rw [decide_eq_false hpb, Bool.or_false] at hvp; exact hv.2.1 p hp hvp
  · show (vis (s % 441) || decide (s % 441 = b % 441)) = true
    rw [hv.2.2]; rfl
  · rw [cntP_upd (z := b % 441) hvb (fun i hi => by rw [decide_eq_false hi, Bool.or_false]), if_pos ⟨hlt, by rw [decide_eq_true rfl, Bool.or_true]⟩]
/-- a neighbour that is labelled is labelled by this flood -/
theorem FLV_old {fl : SFl} {w h q s : Nat} {c : Int32} {num num' : Nat → Int32} {vis : Nat → Bool} (w20 : w ≤ 20) (h20 : h ≤ 20) (hs : okS w h s) (hf : frS fl s = true) (hq : s / 441 = q) (hcl : ClB fl w h q num) (hv : FLV fl w h q s c num num' vis) {a b k : Nat} (ha : Rch fl w h s a) (hva : vis (a % 441) = true) (hk : k < 4) (e : ldS fl w h a k = some b) (hb : ¬ num' (b % 441) = -9) : vis (b % 441) = true := by
  have hlt : b % 441 < 441 := Nat.mod_lt _ (by decide)
  have hla : a % 441 < 441 := Nat.mod_lt _ (by decide)
  obtain ⟨o1, o2, o3⟩ := Rch_ok w20 h20 hs hf ha
  cases hvb : vis (b % 441)
  · have hn := hv.1 (b % 441) hlt
    rw [hvb, if_neg (by decide)] at hn
    rw [hn] at hb
    have := (hcl a b k o1 o2 (o3.trans hq) hk e).mp hb
    exact absurd (hv.2.1 _ hla hva).2 this
  · rfl
/-- after a flood the labelled leads to nothing else again -/
theorem ClB_flood {fl : SFl} {w h q s : Nat} {c : Int32} {num num' : Nat → Int32} (hc : ¬ c = -9) (w20 : w ≤ 20) (h20 : h ≤ 20) (hs : okS w h s) (hf : frS fl s = true) (hcl : ClB fl w h q num) (hF : FLD fl w h q s c num num') : ClB fl w h q num' := by
  intro a b k ha hfa hqa hk e
  obtain ⟨o1, o2⟩ := ldS_ok w20 h20 ha e
  have hqb : b / 441 = q := (goS_q w20 h20 ha hk (ldS_some e).1).trans hqa
  have eA : 441 * q + a % 441 = a := by omega
  have eB : 441 * q + b % 441 = b := by omega
  have fa := hF (a % 441) (Nat.mod_lt _ (by decide))
  have fb := hF (b % 441) (Nat.mod_lt _ (by decide))
  rw [eA] at fa
  rw [eB] at fb
  unfold lab
  by_cases hra : Rch fl w h s a
  · have hrb := Rch_1 hra hk e
    rw [fa.1 hra, fb.1 hrb]
  · have hrb : ¬ Rch fl w h s b := fun hrb => hra (Rch_1 hrb (inv2_lt.1 hk) (ldS_inv w20 h20 ha hfa (by omega) e))
    rw [fa.2 hra, fb.2 hrb]
    exact hcl a b k ha hfa hqa hk e
