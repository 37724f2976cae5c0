/-! the reference's search: labels that fall, a queue without repeats -/
def wt (k : Nat) : Nat := if k < 4 then 1 else 100001
def sumN (f : Nat → Nat) : Nat → Nat
  | 0 => 0
  | n + 1 => sumN f n + f n
theorem sumN_upd {f f' : Nat → Nat} {z : Nat} (h : f' z < f z) (ho : ∀ a, ¬ a = z → f' a = f a) : ∀ n, sumN f' n ≤ sumN f n ∧ (z < n → sumN f' n + 1 ≤ sumN f n)
  | 0 => ⟨Nat.le_refl 0, fun c => absurd c (Nat.not_lt_zero z)⟩
  | n + 1 => by
    obtain ⟨h1, h2⟩ := sumN_upd h ho n
    show sumN f' n + f' n ≤ sumN f n + f n ∧ (z < n + 1 → sumN f' n + f' n + 1 ≤ sumN f n + f n)
    by_cases e : n = z
    · subst e
      exact ⟨by omega, fun _ => by omega⟩
    · rw [ho n e]
      exact ⟨by omega, fun c => by have := h2 (by omega); omega⟩
theorem sumN_le {f : Nat → Nat} {B : Nat} (h : ∀ a, f a ≤ B) : ∀ n, sumN f n ≤ B * n
  | 0 => Nat.le_refl 0
  | n + 1 => by
    have h1 := sumN_le h n
    have h2 := h n
    show sumN f n + f n ≤ B * (n + 1)
    rw [Nat.mul_add, Nat.mul_one]; omega
/-- a label's weight in the measure -/
def vlN (rs : Nat → Bool) (dn : Nat → Nat) (a : Nat) : Nat := if rs a = true then dn a else 1000000000
def QI (fl : SFl) (w h b : Nat) (far isIn line : Nat → Int32) (hd many : Nat) (rs : Nat → Bool) (dn : Nat → Nat) (inq : Nat → Bool) (E : Nat → Nat → Prop) : Prop :=
  ((∀ a, a < 1764 → far a = if rs a = true then nI (dn a) else -9) ∧ ∀ a, a < 1764 → isIn a = bi (inq a)) ∧
  ((hd < 1764 ∧ many = cntP inq 1764) ∧ (∀ j, j < many → ∃ a, line ((hd + j) % 1764) = nI a ∧ a < 1764 ∧ inq a = true) ∧ (∀ a, inq a = true → a < 1764 ∧ ∃ j, j < many ∧ line ((hd + j) % 1764) = nI a) ∧ ∀ i j, i < j → j < many → ¬ line ((hd + i) % 1764) = line ((hd + j) % 1764)) ∧
  (∀ a, rs a = true → (okS w h a ∧ frS fl a = true) ∧ dn a + 100001 ≤ 100001 * cntP rs 1764) ∧ (rs b = true ∧ dn b = 0) ∧ (∀ a, inq a = true → rs a = true) ∧
  (∀ u k v, rs u = true → inq u = false → k < 6 → ldS fl w h u k = some v → E u k ∨ (rs v = true ∧ dn v ≤ dn u + wt k)) ∧
  ∀ v, rs v = true → v = b ∨ ∃ u k, rs u = true ∧ k < 6 ∧ ldS fl w h u k = some v ∧ dn u + wt k ≤ dn v
theorem QI_lt {fl : SFl} {w h b : Nat} {far isIn line : Nat → Int32} {hd many : Nat} {rs : Nat → Bool} {dn : Nat → Nat} {inq : Nat → Bool} {E : Nat → Nat → Prop} (Q : QI fl w h b far isIn line hd many rs dn inq E) {a : Nat} (ha : rs a = true) : a < 1764 ∧ dn a + 100001 ≤ 176401764 := by
  obtain ⟨⟨o1, -⟩, o2⟩ := Q.2.2.1 a ha
  have := cntP_le rs 1764
  exact ⟨o1.1, by omega⟩
theorem QI_mono {fl : SFl} {w h b : Nat} {far isIn line : Nat → Int32} {hd many : Nat} {rs : Nat → Bool} {dn : Nat → Nat} {inq : Nat → Bool} {E E' : Nat → Nat → Prop} (Q : QI fl w h b far isIn line hd many rs dn inq E) (e : ∀ u k v, rs u = true → k < 6 → ldS fl w h u k = some v → E u k → E' u k ∨ (rs v = true ∧ dn v ≤ dn u + wt k)) : QI fl w h b far isIn line hd many rs dn inq E' := by
  obtain ⟨q1, q2, q3, q4, q5, q6, q7⟩ := Q
  exact ⟨q1, q2, q3, q4, q5, fun u k v h1 h2 h3 h4 => (q6 u k v h1 h2 h3 h4).elim (fun c => e u k v h1 h3 h4 c) Or.inr, q7⟩
/-- a label set anew: the graph's side -/
theorem lab_new {fl : SFl} {w h b : Nat} {far isIn line : Nat → Int32} {hd many : Nat} {rs : Nat → Bool} {dn : Nat → Nat} {inq : Nat → Bool} {E : Nat → Nat → Prop} (Q : QI fl w h b far isIn line hd many rs dn inq E) {a k v : Nat} (ha : rs a = true) (hk : k < 6) (e : ldS fl w h a k = some v) (ov : okS w h v) (fv : frS fl v = true) (hn : rs v = true → dn a + wt k < dn v) (inq' : Nat → Bool) (hq : ∀ x, inq' x = addB inq v x) :
    (∀ x, x < 1764 → upd far v (nI (dn a + wt k)) x = if addB rs v x = true then nI (setN dn v (dn a + wt k) x) else -9) ∧
    (∀ x, addB rs v x = true → (okS w h x ∧ frS fl x = true) ∧ setN dn v (dn a + wt k) x + 100001 ≤ 100001 * cntP (addB rs v) 1764) ∧ (addB rs v b = true ∧ setN dn v (dn a + wt k) b = 0) ∧ (∀ x, inq' x = true → addB rs v x = true) ∧
    (∀ u k' x, addB rs v u = true → inq' u = false → k' < 6 → ldS fl w h u k' = some x → (E u k' ∧ ¬ (u = a ∧ k' = k)) ∨ (addB rs v x = true ∧ setN dn v (dn a + wt k) x ≤ setN dn v (dn a + wt k) u + wt k')) ∧
    (∀ x, addB rs v x = true → x = b ∨ ∃ u k', addB rs v u = true ∧ k' < 6 ∧ ldS fl w h u k' = some x ∧ setN dn v (dn a + wt k) u + wt k' ≤ setN dn v (dn a + wt k) x) ∧
    (∀ x, setN dn v (dn a + wt k) x ≤ dn x ∨ (x = v ∧ rs v = false)) ∧ sumN (vlN (addB rs v) (setN dn v (dn a + wt k))) 1764 + 1 ≤ sumN (vlN rs dn) 1764 := by
  obtain ⟨⟨q1, q1'⟩, q2, q3, q4, q5, q6, q7⟩ := id Q
  have hla := QI_lt Q ha
  have hw : 1 ≤ wt k ∧ wt k ≤ 100001 := by unfold wt; split <;> omega
  have hcl := cntP_le (addB rs v) 1764
  have hmono : cntP rs 1764 ≤ cntP (addB rs v) 1764 ∧ (rs v = false → cntP (addB rs v) 1764 = cntP rs 1764 + 1) := by
    cases hr : rs v
    · have := cntP_upd (p := rs) (q := addB rs v) (z := v) hr (fun i hi => addB_o hi) 1764
      rw [if_pos ⟨ov.1, addB_v rs v⟩] at this
      exact ⟨by omega, fun _ => this⟩
    · have : cntP (addB rs v) 1764 = cntP rs 1764 := cntP_congr 1764 (fun i _ => by
        by_cases ei : i = v
        · rw [ei, addB_v, hr]
        · rw [addB_o ei])
      exact ⟨by omega, fun c => absurd c (by decide)⟩
  have hav : ¬ a = v := fun eav => by
    have := hn (by rw [← eav]; exact ha)
    rw [← eav] at this; omega
  have hbv : ¬ b = v := fun ebv => by
    have := hn (by rw [← ebv]; exact q4.1)
    rw [← ebv, q4.2] at this; omega
  have low : ∀ x, setN dn v (dn a + wt k) x ≤ dn x ∨ (x = v ∧ rs v = false) := fun x => by
    by_cases ex : x = v
    · cases hr : rs v
      · exact Or.inr ⟨ex, rfl⟩
      · left; rw [ex, setN_v]; have := hn hr; omega
    · left; rw [setN_o ex]; exact Nat.le_refl _
  have lowr : ∀ x, rs x = true → addB rs v x = true ∧ setN dn v (dn a + wt k) x ≤ dn x := fun x hx => by
    refine ⟨addB_m hx, ?_⟩
    rcases low x with c | ⟨c1, c2⟩
    · exact c
    · rw [c1, c2] at hx; exact absurd hx (by decide)
  refine ⟨fun x hx => ?_, fun x hx => ?_, ⟨addB_m q4.1, by rw [setN_o hbv]; exact q4.2⟩, fun x hx => ?_, fun u k' x hu hi hk' e' => ?_, fun x hx => ?_, low, ?_⟩
  · rw [upd_at]
    by_cases ex : x = v
    · rw [if_pos ex, ex, addB_v, if_pos rfl, setN_v]
    · rw [if_neg ex, addB_o ex, setN_o ex]; exact q1 x hx
  · by_cases ex : x = v
    · rw [ex, setN_v]
      refine ⟨⟨ov, fv⟩, ?_⟩
      have h1 := (q3 a ha).2
      cases hr : rs v
      · have := hmono.2 hr; omega
      · have h2 := hn hr
        have h3 := (q3 v hr).2
        omega
    · rw [addB_o ex] at hx
      rw [setN_o ex]
      have := q3 x hx
      exact ⟨this.1, by omega⟩
  · rw [hq] at hx
    rcases addB_i hx with c | c
    · exact addB_m (q5 x c)
    · rw [c]; exact addB_v rs v
  · rw [hq] at hi
    have huv : ¬ u = v := fun c => by rw [c, addB_v] at hi; exact absurd hi (by decide)
    rw [addB_o huv] at hu hi
    by_cases c : u = a ∧ k' = k
    · rw [c.1, c.2, e] at e'
      injection e' with e'
      right
      rw [← e', addB_v, setN_v, c.1, c.2, setN_o hav]
      exact ⟨rfl, Nat.le_refl _⟩
    · rcases q6 u k' x hu hi hk' e' with d | ⟨d1, d2⟩
      · exact Or.inl ⟨d, c⟩
      · obtain ⟨d3, d4⟩ := lowr x d1
        right
        rw [setN_o huv]
        exact ⟨d3, by omega⟩
  · by_cases ex : x = v
    · right
      refine ⟨a, k, addB_m ha, hk, by rw [ex]; exact e, ?_⟩
      rw [ex, setN_v, setN_o hav]; exact Nat.le_refl _
    · rw [addB_o ex] at hx
      rcases q7 x hx with c | ⟨u, k', c1, c2, c3, c4⟩
      · exact Or.inl c
      · obtain ⟨d1, d2⟩ := lowr u c1
        right
        refine ⟨u, k', d1, c2, c3, ?_⟩
        rw [setN_o ex]; omega
  · refine (sumN_upd (z := v) ?_ (fun x hx => ?_) 1764).2 ov.1
    · unfold vlN
      rw [addB_v, if_pos rfl, setN_v]
      cases hr : rs v
      · rw [if_neg (by decide)]; omega
      · rw [if_pos rfl]; exact hn hr
    · unfold vlN
      rw [addB_o hx, setN_o hx]
/-- and its queue: pushed where it isn't in it -/
theorem QI_push {fl : SFl} {w h b : Nat} {far isIn line : Nat → Int32} {hd many : Nat} {rs : Nat → Bool} {dn : Nat → Nat} {inq : Nat → Bool} {E : Nat → Nat → Prop} (Q : QI fl w h b far isIn line hd many rs dn inq E) {a k v : Nat} (ha : rs a = true) (hk : k < 6) (e : ldS fl w h a k = some v) (ov : okS w h v) (fv : frS fl v = true) (hn : rs v = true → dn a + wt k < dn v) (hv : inq v = false) :
    many < 1764 ∧ QI fl w h b (upd far v (nI (dn a + wt k))) (upd isIn v 1) (upd line ((hd + many) % 1764) (nI v)) hd (many + 1) (addB rs v) (setN dn v (dn a + wt k)) (addB inq v) (fun u k' => E u k' ∧ ¬ (u = a ∧ k' = k)) ∧ sumN (vlN (addB rs v) (setN dn v (dn a + wt k))) 1764 + 1 ≤ sumN (vlN rs dn) 1764 := by
  obtain ⟨n1, n3, n4, n5, n6, n7, n8, n9⟩ := lab_new Q ha hk e ov fv hn (addB inq v) (fun _ => rfl)
  obtain ⟨⟨q1, q1'⟩, ⟨⟨q2, q3⟩, q4, q5, q6⟩, -⟩ := id Q
  have hv1 : v < 1764 := ov.1
  have hc := cntP_upd (p := inq) (q := addB inq v) (z := v) hv (fun i hi => addB_o hi) 1764
  rw [if_pos ⟨hv1, addB_v inq v⟩] at hc
  have hcl := cntP_le (addB inq v) 1764
  have hm : many < 1764 := by omega
  have ne : ∀ j, j < many → ¬ (hd + j) % 1764 = (hd + many) % 1764 := fun j hj => by omega
  have lo : ∀ j, j < many → upd line ((hd + many) % 1764) (nI v) ((hd + j) % 1764) = line ((hd + j) % 1764) := fun j hj => by rw [upd_at, if_neg (ne j hj)]
  have lm : upd line ((hd + many) % 1764) (nI v) ((hd + many) % 1764) = nI v := by rw [upd_at, if_pos rfl]
  have nov : ∀ j, j < many → ¬ line ((hd + j) % 1764) = nI v := fun j hj c => by
    obtain ⟨x, x1, x2, x3⟩ := q4 j hj
    rw [x1] at c
    have := (nI_eq (by omega) (by omega)).mp c
    rw [this, hv] at x3; exact absurd x3 (by decide)
  refine ⟨hm, ⟨⟨n1, fun x hx => ?_⟩, ⟨⟨q2, by omega⟩, fun j hj => ?_, fun x hx => ?_, fun i j hij hj => ?_⟩, n3, n4, n5, n6, n7⟩, n9⟩
  · rw [upd_at]
    by_cases ex : x = v
    · rw [if_pos ex, ex, addB_v]; rfl
    · rw [if_neg ex, addB_o ex]; exact q1' x hx
  · by_cases ej : j = many
    · rw [ej, lm]; exact ⟨v, rfl, hv1, addB_v inq v⟩
    · rw [lo j (by omega)]
      obtain ⟨x, x1, x2, x3⟩ := q4 j (by omega)
      exact ⟨x, x1, x2, addB_m x3⟩
  · rcases addB_i hx with c | c
    · obtain ⟨c1, j, c2, c3⟩ := q5 x c
      exact ⟨c1, j, by omega, by rw [lo j c2]; exact c3⟩
    · rw [c]; exact ⟨hv1, many, by omega, lm⟩
  · rw [lo i (by omega)]
    by_cases ej : j = many
    · rw [ej, lm]; exact nov i (by omega)
    · rw [lo j (by omega)]; exact q6 i j hij (by omega)
theorem QI_in {fl : SFl} {w h b : Nat} {far isIn line : Nat → Int32} {hd many : Nat} {rs : Nat → Bool} {dn : Nat → Nat} {inq : Nat → Bool} {E : Nat → Nat → Prop} (Q : QI fl w h b far isIn line hd many rs dn inq E) {a k v : Nat} (ha : rs a = true) (hk : k < 6) (e : ldS fl w h a k = some v) (ov : okS w h v) (fv : frS fl v = true) (hn : rs v = true → dn a + wt k < dn v) (hv : inq v = true) :
    QI fl w h b (upd far v (nI (dn a + wt k))) isIn line hd many (addB rs v) (setN dn v (dn a + wt k)) inq (fun u k' => E u k' ∧ ¬ (u = a ∧ k' = k)) ∧ sumN (vlN (addB rs v) (setN dn v (dn a + wt k))) 1764 + 1 ≤ sumN (vlN rs dn) 1764 := by
  obtain ⟨n1, n3, n4, n5, n6, n7, n8, n9⟩ := lab_new Q ha hk e ov fv hn inq (fun x => by
    by_cases ex : x = v
    · rw [ex, addB_v, hv]
    · rw [addB_o ex])
  obtain ⟨⟨q1, q1'⟩, q2, -⟩ := id Q
  exact ⟨⟨⟨n1, q1'⟩, q2, n3, n4, n5, n6, n7⟩, n9⟩
