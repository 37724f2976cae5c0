/-! the class's search: what it holds, in whole numbers -/
def REP (fl : SFl) (w h : Nat) (se : SSe) (n : Nat) (rs : Nat → Bool) (ord tn ln : Nat → Nat) : Prop :=
  ((se.f_size = nI n ∧ n = cntP rs 1764) ∧ (∀ a, a < 1764 → se.f_turns a = if rs a = true then nI (tn a) else -9) ∧ (∀ a, a < 1764 → rs a = true → se.f_lengths a = nI (ln a)) ∧ ∀ j, j < n → se.f_order j = nI (ord j)) ∧
  (∀ j, j < n → rs (ord j) = true) ∧ (∀ a, rs a = true → ∃ j, j < n ∧ ord j = a) ∧ ∀ a, rs a = true → okS w h a ∧ frS fl a = true ∧ tn a < 1764
def addB (rs : Nat → Bool) (v : Nat) : Nat → Bool := fun a => rs a || decide (a = v)
def setN (f : Nat → Nat) (v x : Nat) : Nat → Nat := fun a => if a = v then x else f a
theorem addB_v (rs : Nat → Bool) (v : Nat) : addB rs v v = true := by unfold addB; rw [decide_eq_true rfl, Bool.or_true]
theorem addB_o {rs : Nat → Bool} {v a : Nat} (h : ¬ a = v) : addB rs v a = rs a := by unfold addB; rw [decide_eq_false h, Bool.or_false]
theorem addB_m {rs : Nat → Bool} {v a : Nat} (h : rs a = true) : addB rs v a = true := by unfold addB; rw [h]; rfl
theorem addB_i {rs : Nat → Bool} {v a : Nat} (h : addB rs v a = true) : rs a = true ∨ a = v := by
  by_cases e : a = v
  · exact Or.inr e
  · rw [addB_o e] at h; exact Or.inl h
theorem setN_v (f : Nat → Nat) (v x : Nat) : setN f v x v = x := by unfold setN; rw [if_pos rfl]
theorem setN_o {f : Nat → Nat} {v x a : Nat} (h : ¬ a = v) : setN f v x a = f a := by unfold setN; rw [if_neg h]
def SEED (se se' : SSe) : Prop := se'.f_seeded = se.f_seeded ∧ se'.f_seeds = se.f_seeds ∧ se'.f_seedLengths = se.f_seedLengths
theorem REP_n {fl : SFl} {w h : Nat} {se : SSe} {n : Nat} {rs : Nat → Bool} {ord tn ln : Nat → Nat} (R : REP fl w h se n rs ord tn ln) : n ≤ 1764 := by rw [R.1.1.2]; exact cntP_le rs 1764
theorem nI_9 {a : Nat} (h : a < 2147483648) : ¬ nI a = -9 := fun e => by
  have := congrArg Int32.toInt e
  rw [t_nI h] at this; simp only [t_l] at this; omega
theorem REP_at {fl : SFl} {w h : Nat} {se : SSe} {n : Nat} {rs : Nat → Bool} {ord tn ln : Nat → Nat} (R : REP fl w h se n rs ord tn ln) {v : Nat} (hv : v < 1764) : x7_at 1764 se.f_turns (nI v) = some (if rs v = true then nI (tn v) else -9) := by
  rw [e7_at (by decide), gat_of (t_nI (by omega)) hv, R.1.2.1 v hv]
theorem reach_old {fl : SFl} {w h : Nat} {se : SSe} {n : Nat} {rs : Nat → Bool} {ord tn ln : Nat → Nat} (R : REP fl w h se n rs ord tn ln) {v : Nat} (hr : rs v = true) (lev l : Int32) : x5_reach se (nI v) lev l = some se := by
  obtain ⟨o1, o2, o3⟩ := R.2.2.2 v hr
  rw [x5_reach, REP_at R o1.1, Option.bind_some, if_pos hr, if_neg (nI_9 (by omega))]
def reachS (se : SSe) (v n : Nat) (lev l : Int32) : SSe := SSe.s_lengths (SSe.s_turns (SSe.s_order (SSe.s_size se (nI (n + 1))) (upd se.f_order n (nI v))) (upd se.f_turns v lev)) (upd se.f_lengths v l)
theorem reachS_f (se : SSe) (v n : Nat) (lev l : Int32) : (reachS se v n lev l).f_size = nI (n + 1) ∧ (reachS se v n lev l).f_order = upd se.f_order n (nI v) ∧ (reachS se v n lev l).f_turns = upd se.f_turns v lev ∧ (reachS se v n lev l).f_lengths = upd se.f_lengths v l ∧ SEED se (reachS se v n lev l) := by
  simp only [reachS, SEED, SSe_size, SSe_order, SSe_turns, SSe_lengths, SSe_seeded, SSe_seeds, SSe_seedLengths, and_self]
theorem REP_add {fl : SFl} {w h : Nat} {se : SSe} {n : Nat} {rs : Nat → Bool} {ord tn ln : Nat → Nat} (R : REP fl w h se n rs ord tn ln) {v lev l : Nat} (hv : okS w h v) (hf : frS fl v = true) (hr : rs v = false) (hl : lev < 1764) :
    ∃ se', x5_reach se (nI v) (nI lev) (nI l) = some se' ∧ REP fl w h se' (n + 1) (addB rs v) (setN ord n v) (setN tn v lev) (setN ln v l) ∧ SEED se se' := by
  have hv1 : v < 1764 := hv.1
  have hc : cntP (addB rs v) 1764 = cntP rs 1764 + 1 := by
    rw [cntP_upd (z := v) hr (fun i hi => addB_o hi), if_pos ⟨hv1, addB_v rs v⟩]
  have hcl := cntP_le (addB rs v) 1764
  obtain ⟨⟨⟨r1, r2⟩, r3, r4, r5⟩, r6, r7, r8⟩ := id R
  have tv : (nI v).toInt = (v : Int) := t_nI (by omega)
  obtain ⟨f1, f2, f3, f4, f5⟩ := reachS_f se v n (nI lev) (nI l)
  refine ⟨reachS se v n (nI lev) (nI l), ?_, ⟨⟨⟨f1, by rw [hc, ← r2]⟩, fun a ha => ?_, fun a ha hra => ?_, fun j hj => ?_⟩, fun j hj => ?_, fun a hra => ?_, fun a hra => ?_⟩, f5⟩
  · rw [x5_reach, REP_at R hv1, Option.bind_some, hr, if_neg (by decide : ¬ false = true), if_pos rfl, e7_put (by decide), Option.bind_some, gput_of tv hv1, e7_put (by decide), Option.bind_some, gput_of tv hv1, e7_put (by decide), Option.bind_some, r1, gput_of (k := n) (t_nI (by omega)) (by omega), nI_1]
    rfl
  · rw [f3, upd_at]
    by_cases e : a = v
    · rw [if_pos e, e, addB_v, if_pos rfl, setN_v]
    · rw [if_neg e, addB_o e, setN_o e]; exact r3 a ha
  · rw [f4, upd_at]
    by_cases e : a = v
    · rw [if_pos e, e, setN_v]
    · rw [if_neg e, setN_o e]; rw [addB_o e] at hra; exact r4 a ha hra
  · rw [f2, upd_at]
    by_cases e : j = n
    · rw [if_pos e, e, setN_v]
    · rw [if_neg e, setN_o e]; exact r5 j (by omega)
  · by_cases e : j = n
    · rw [e, setN_v]; exact addB_v rs v
    · rw [setN_o e]; exact addB_m (r6 j (by omega))
  · rcases addB_i hra with e | e
    · obtain ⟨j, j1, j2⟩ := r7 a e
      exact ⟨j, by omega, by rw [setN_o (by omega)]; exact j2⟩
    · exact ⟨n, by omega, by rw [setN_v, e]⟩
  · by_cases e : a = v
    · rw [e, setN_v]; exact ⟨hv, hf, hl⟩
    · rw [addB_o e] at hra; rw [setN_o e]; exact r8 a hra
/-- fewer turns, then no more steps -/
def lxl (t l t' l' : Nat) : Prop := t < t' ∨ (t = t' ∧ l ≤ l')
/-- a best way comes from a state before -/
def PRD (fl : SFl) (w h b : Nat) (rs : Nat → Bool) (tn ln : Nat → Nat) (a t l : Nat) : Prop := (a = b ∧ t = 0 ∧ l = 0) ∨ ∃ u k, rs u = true ∧ k < 6 ∧ ldS fl w h u k = some a ∧ t = tn u + (if k < 4 then 0 else 1) ∧ l = ln u + 1
/-- the seeds of a level -/
def SDS (fl : SFl) (w h b : Nat) (rs : Nat → Bool) (tn ln : Nat → Nat) (lev first m : Nat) (sv sl : Nat → Nat) : Prop :=
  (∀ j, j < m → (okS w h (sv j) ∧ frS fl (sv j) = true) ∧ sl j ≤ first ∧ PRD fl w h b rs tn ln (sv j) lev (sl j)) ∧ ∀ i j, i ≤ j → j < m → sl i ≤ sl j
def LVI (fl : SFl) (w h b : Nat) (n : Nat) (rs : Nat → Bool) (ord tn ln : Nat → Nat) (lev first m : Nat) (sv sl : Nat → Nat) : Prop :=
  (∀ j, j < n → ln (ord j) ≤ j) ∧ (first ≤ n ∧ (∀ j, j < first → tn (ord j) < lev) ∧ ∀ j, first ≤ j → j < n → tn (ord j) = lev) ∧
  (∀ i j, first ≤ i → i ≤ j → j < n → ln (ord i) ≤ ln (ord j)) ∧ ((∀ a, rs a = true → PRD fl w h b rs tn ln a (tn a) (ln a)) ∧ (rs b = true → tn b = 0 ∧ ln b = 0)) ∧
  (∀ u k v, rs u = true → tn u < lev → ¬ k < 4 → k < 6 → ldS fl w h u k = some v → (rs v = true ∧ lxl (tn v) (ln v) (tn u + 1) (ln u + 1)) ∨ ∃ j, j < m ∧ sv j = v ∧ sl j = ln u + 1 ∧ tn u + 1 = lev) ∧
  SDS fl w h b rs tn ln lev first m sv sl
/-- labels that stand stay -/
def KEEP (rs : Nat → Bool) (tn ln : Nat → Nat) (rs' : Nat → Bool) (tn' ln' : Nat → Nat) : Prop := ∀ a, rs a = true → rs' a = true ∧ tn' a = tn a ∧ ln' a = ln a
theorem KEEP_rf (rs : Nat → Bool) (tn ln : Nat → Nat) : KEEP rs tn ln rs tn ln := fun _ h => ⟨h, rfl, rfl⟩
theorem KEEP_tr {r1 r2 r3 : Nat → Bool} {t1 t2 t3 l1 l2 l3 : Nat → Nat} (a : KEEP r1 t1 l1 r2 t2 l2) (b : KEEP r2 t2 l2 r3 t3 l3) : KEEP r1 t1 l1 r3 t3 l3 := fun x h => by
  obtain ⟨a1, a2, a3⟩ := a x h
  obtain ⟨b1, b2, b3⟩ := b x a1
  exact ⟨b1, b2.trans a2, b3.trans a3⟩
theorem KEEP_add {rs : Nat → Bool} {tn ln : Nat → Nat} {v : Nat} (hr : rs v = false) (x y : Nat) : KEEP rs tn ln (addB rs v) (setN tn v x) (setN ln v y) := fun a ha => by
  have e : ¬ a = v := fun e => by rw [e, hr] at ha; exact absurd ha (by decide)
  exact ⟨addB_m ha, setN_o e, setN_o e⟩
theorem PRD_keep {fl : SFl} {w h b : Nat} {rs rs' : Nat → Bool} {tn ln tn' ln' : Nat → Nat} (K : KEEP rs tn ln rs' tn' ln') {a t l : Nat} (p : PRD fl w h b rs tn ln a t l) : PRD fl w h b rs' tn' ln' a t l := by
  rcases p with p | ⟨u, k, p1, p2, p3, p4, p5⟩
  · exact Or.inl p
  · obtain ⟨k1, k2, k3⟩ := K u p1
    exact Or.inr ⟨u, k, k1, p2, p3, by rw [k2]; exact p4, by rw [k3]; exact p5⟩
theorem LVI_add {fl : SFl} {w h b : Nat} {se : SSe} {n : Nat} {rs : Nat → Bool} {ord tn ln : Nat → Nat} {lev first m : Nat} {sv sl : Nat → Nat} (R : REP fl w h se n rs ord tn ln) (I : LVI fl w h b n rs ord tn ln lev first m sv sl) {v l : Nat} (hr : rs v = false) (hl : l ≤ n) (hs : ∀ i, first ≤ i → i < n → ln (ord i) ≤ l) (hp : PRD fl w h b rs tn ln v lev l) (hb : v = b → lev = 0 ∧ l = 0) :
    LVI fl w h b (n + 1) (addB rs v) (setN ord n v) (setN tn v lev) (setN ln v l) lev first m sv sl := by
  obtain ⟨i1, ⟨i2, i3, i4⟩, i5, ⟨i6, i7⟩, i8, i9, i10⟩ := I
  have K := KEEP_add (tn := tn) (ln := ln) hr lev l
  have nv : ∀ j, j < n → ¬ ord j = v := fun j hj e => by have := R.2.1 j hj; rw [e, hr] at this; exact absurd this (by decide)
  have oj : ∀ j, j < n → setN ord n v j = ord j := fun j hj => setN_o (by omega)
  have tj : ∀ j, j < n → setN tn v lev (setN ord n v j) = tn (ord j) := fun j hj => by rw [oj j hj, setN_o (nv j hj)]
  have lj : ∀ j, j < n → setN ln v l (setN ord n v j) = ln (ord j) := fun j hj => by rw [oj j hj, setN_o (nv j hj)]
  have tnn : setN tn v lev (setN ord n v n) = lev := by rw [setN_v, setN_v]
  have lnn : setN ln v l (setN ord n v n) = l := by rw [setN_v, setN_v]
  refine ⟨fun j hj => ?_, ⟨by omega, fun j hj => ?_, fun j hj1 hj2 => ?_⟩, fun i j h1 h2 h3 => ?_, ⟨fun a ha => ?_, fun hb' => ?_⟩, fun u k x hu hlt hk hk6 e => ?_, fun j hj => ?_, i10⟩
  · by_cases e : j = n
    · rw [e, lnn]; exact hl
    · rw [lj j (by omega)]; exact i1 j (by omega)
  · rw [tj j (by omega)]; exact i3 j hj
  · by_cases e : j = n
    · rw [e, tnn]
    · rw [tj j (by omega)]; exact i4 j hj1 (by omega)
  · by_cases e : j = n
    · rw [e, lnn]
      by_cases e2 : i = n
      · rw [e2, lnn]; exact Nat.le_refl _
      · rw [lj i (by omega)]; exact hs i h1 (by omega)
    · rw [lj i (by omega), lj j (by omega)]; exact i5 i j h1 h2 (by omega)
  · by_cases e : a = v
    · rw [e, setN_v, setN_v]; exact PRD_keep K hp
    · rw [addB_o e] at ha
      rw [setN_o e, setN_o e]; exact PRD_keep K (i6 a ha)
  · by_cases e : b = v
    · rw [e, setN_v, setN_v]; exact hb e.symm
    · rw [addB_o e] at hb'
      rw [setN_o e, setN_o e]; exact i7 hb'
  · by_cases eu : u = v
    · rw [eu, setN_v] at hlt; exact absurd hlt (Nat.lt_irrefl _)
    · rw [addB_o eu] at hu
      rw [setN_o eu] at hlt ⊢
      rw [setN_o eu]
      rcases i8 u k x hu hlt hk hk6 e with ⟨c1, c2⟩ | c
      · obtain ⟨k1, k2, k3⟩ := K x c1
        exact Or.inl ⟨k1, by rw [k2, k3]; exact c2⟩
      · exact Or.inr c
  · obtain ⟨j1, j2, j3⟩ := i9 j hj
    exact ⟨j1, j2, PRD_keep K j3⟩
