/-! base: what every contract carries; calls in one row -/
def gNest : List (String × Nat × MethodName × String) := [(RX7, 11, yX0_init, RX7), (RX7, 18, yX2_init, RX7), (RX7, 25, yX6_init, RX7), (RX7, 32, yX1_init, RX7), (RX7, 39, yX5_init, RX7), (RX7, 46, yX3_init, RX7), (RX7, 53, yX4_init, RX7), (RX0, 43, yX7_fillWith, RX7), (RX0, 70, yX7_put, RX7), (RX0, 53, yX7_isWithin, RX7), (RX0, 66, yX7_at, RX7), (RX2, 22, yX7_fillWith, RX7), (RX2, 26, yX7_isWithin, RX7), (RX2, 34, yX7_put, RX7), (RX2, 30, yX7_at, RX7), (RX6, 25, yX7_fillWith, RX7), (RX6, 21, yX7_at, RX7), (RX6, 68, yX7_put, RX7), (RX1, 32, yX7_fillWith, RX7), (RX1, 40, yX7_put, RX7), (RX1, 44, yX7_at, RX7), (RX1, 77, yX7_stateOf, RX7), (RX1, 67, yX7_xOf, RX7), (RX1, 70, yX7_yOf, RX7), (RX1, 64, yX7_qOf, RX7), (RX3, 22, yX7_fillWith, RX7), (RX3, 42, yX7_stateOf, RX7), (RX3, 50, yX7_at, RX7), (RX3, 64, yX7_put, RX7), (RX3, 72, yX7_xOf, RX7), (RX3, 76, yX7_yOf, RX7), (RX5, 34, yX7_fillWith, RX7), (RX5, 59, yX7_put, RX7), (RX5, 55, yX7_at, RX7), (RX4, 28, yX7_at, RX7), (RX4, 36, yX7_put, RX7), (RX4, 46, yX7_isWithin, RX7)]
/-- index within: in bounds -/
def ib (i : Int32) (n : Nat) : Bool := decide (0 ≤ i.toInt) && decide (i.toNatClampNeg < n)
theorem ib_in {i : Int32} {n : Nat} (h : ib i n = true) : vp_in i n := by
  simp only [ib, Bool.and_eq_true, decide_eq_true_eq] at h
  intro q
  rcases q with q | q
  · have := Int32.lt_iff_toInt_lt.mp q
    simp at this
    omega
  · omega
def bo (r : Int32) : Bool := decide (r = 0) || decide (r = 1)
theorem bo_nar {r : Int32} (h : bo r = true) : narrow .boolean (.int r) = .int r := by
  simp only [bo, Bool.or_eq_true, decide_eq_true_eq] at h
  rcases h with h | h <;> subst h <;> rfl
theorem bnd {α β : Type} {o : Option α} {f : α → Option β} {b : β} (h : o.bind f = some b) : ∃ a, o = some a ∧ f a = some b := Option.bind_eq_some_iff.mp h
theorem ite_t {α : Type} {c : Prop} {inst : Decidable c} {a b r : α} (hc : c) (h : @ite α c inst a b = r) : a = r := (if_pos hc).symm.trans h
theorem ite_f {α : Type} {c : Prop} {inst : Decidable c} {a b r : α} (hc : ¬ c) (h : @ite α c inst a b = r) : b = r := (if_neg hc).symm.trans h
theorem no_some {α : Type} {x : α} {p : Prop} (h : (none : Option α) = some x) : p := nomatch h
theorem ci_m1 {x : Int32} : x + Int32.ofInt (-1) = x + (-1) := congrArg (x + ·) (by decide : Int32.ofInt (-1) = -1)
/-- a table switch: out of its range -/
theorem ts_out {x : Int32} {lo hi : Int} (n : Nat) (hhi : hi < lo + n) (h : ∀ k : Nat, k < n → x ≠ Int32.ofInt (lo + k)) : x.toInt < lo ∨ hi < x.toInt := by
  rcases (show x.toInt < lo ∨ lo ≤ x.toInt by omega) with q | q
  · exact Or.inl q
  · rcases (show hi < x.toInt ∨ x.toInt ≤ hi by omega) with q2 | q2
    · exact Or.inr q2
    · exfalso
      refine h (x.toInt - lo).toNat (by omega) ?_
      rw [show lo + ((x.toInt - lo).toNat : Int) = x.toInt by omega]
      exact (Int32.ofInt_toInt x).symm
def mmax (x y : Int32) : Int32 := if x < y then y else x
def mmin (x y : Int32) : Int32 := if y < x then y else x
def mabs (x : Int32) : Int32 := if 0 ≤ x then x else 0 - x
def fAL : Nat → Int32 := fun k => if k = 0 then 1 else if k = 1 then -1 else 0
def fUP : Nat → Int32 := fun k => if k = 2 then 1 else if k = 3 then -1 else 0
/-- links across the nest, and the two static tables (of addresses tA, tU) -/
def gE (tA tU : Nat) (A : Nat → Prop) (U : State) (H : Heap) : Prop :=
  (∀ q ∈ gNest, va_Nw (.methodLinkNest q.1 q.2.1 q.2.2.1 q.2.2.2) U) ∧ (va_Nw (.fieldLinkNest RX1 81 RX7 "ALONG" "[I" RX7) U ∧ va_Nw (.fieldLinkNest RX1 84 RX7 "UP" "[I" RX7) U) ∧
  (va_Z RX7 "ALONG" "[I" (.ref tA) A U H ∧ va_Z RX7 "UP" "[I" (.ref tU) A U H) ∧ va_T .int tA 4 (fun k => .int (fAL k)) A U H ∧ va_T .int tU 4 (fun k => .int (fUP k)) A U H
theorem gE.narrow {tA tU : Nat} {A B : Nat → Prop} {U : State} {H : Heap} (h : gE tA tU A U H) (hB : ∀ q, B q → A q) : gE tA tU B U H :=
  ⟨h.1, h.2.1, ⟨h.2.2.1.1.narrow hB, h.2.2.1.2.narrow hB⟩, h.2.2.2.1.narrow hB, h.2.2.2.2.narrow hB⟩
theorem gE.call {tA tU : Nat} {A B : Nat → Prop} {s U : State} {H : Heap} {locs : List Loc} (h : gE tA tU A s s.heap) (hS : va_S A s.heap H locs) (hB : ∀ q, B q → A q) (hU : U.heap = H) (hW : s.WarmedH U.vm) : gE tA tU B U U.heap := by
  subst hU
  have hv := hW.alike
  refine gE.narrow ?_ hB
  exact ⟨fun q hq => (h.1 q hq).warmM hW, ⟨h.2.1.1.warmF hW, h.2.1.2.warmF hW⟩, ⟨(h.2.2.1.1.kept hS.2.1).moved hv, (h.2.2.1.2.kept hS.2.1).moved hv⟩, (h.2.2.2.1.kept hS.2.1).moved hv, (h.2.2.2.2.kept hS.2.1).moved hv⟩
theorem gE.calling {tA tU : Nat} {A : Nat → Prop} {U : State} {H : Heap} {g : JFrame} {mk : MethodId} {a : Array Value} (h : gE tA tU A U H) : gE tA tU A (U.calling g mk a) H :=
  have hv : U.vm.Alike (U.calling g mk a).vm := Vm.Alike.refl U.vm
  ⟨fun q hq => (h.1 q hq).same rfl rfl, ⟨h.2.1.1.same rfl rfl, h.2.1.2.same rfl rfl⟩, ⟨h.2.2.1.1.moved hv, h.2.2.1.2.moved hv⟩, h.2.2.2.1.moved hv, h.2.2.2.2.moved hv⟩
theorem gN_RX7_11 {tA tU : Nat} {A : Nat → Prop} {U : State} {H : Heap} (h : gE tA tU A U H) : va_Nw (.methodLinkNest RX7 11 yX0_init RX7) U := h.1 (RX7, 11, yX0_init, RX7) (List.mem_of_getElem? (i := 0) rfl)
theorem gN_RX7_18 {tA tU : Nat} {A : Nat → Prop} {U : State} {H : Heap} (h : gE tA tU A U H) : va_Nw (.methodLinkNest RX7 18 yX2_init RX7) U := h.1 (RX7, 18, yX2_init, RX7) (List.mem_of_getElem? (i := 1) rfl)
theorem gN_RX7_25 {tA tU : Nat} {A : Nat → Prop} {U : State} {H : Heap} (h : gE tA tU A U H) : va_Nw (.methodLinkNest RX7 25 yX6_init RX7) U := h.1 (RX7, 25, yX6_init, RX7) (List.mem_of_getElem? (i := 2) rfl)
theorem gN_RX7_32 {tA tU : Nat} {A : Nat → Prop} {U : State} {H : Heap} (h : gE tA tU A U H) : va_Nw (.methodLinkNest RX7 32 yX1_init RX7) U := h.1 (RX7, 32, yX1_init, RX7) (List.mem_of_getElem? (i := 3) rfl)
theorem gN_RX7_39 {tA tU : Nat} {A : Nat → Prop} {U : State} {H : Heap} (h : gE tA tU A U H) : va_Nw (.methodLinkNest RX7 39 yX5_init RX7) U := h.1 (RX7, 39, yX5_init, RX7) (List.mem_of_getElem? (i := 4) rfl)
theorem gN_RX7_46 {tA tU : Nat} {A : Nat → Prop} {U : State} {H : Heap} (h : gE tA tU A U H) : va_Nw (.methodLinkNest RX7 46 yX3_init RX7) U := h.1 (RX7, 46, yX3_init, RX7) (List.mem_of_getElem? (i := 5) rfl)
theorem gN_RX7_53 {tA tU : Nat} {A : Nat → Prop} {U : State} {H : Heap} (h : gE tA tU A U H) : va_Nw (.methodLinkNest RX7 53 yX4_init RX7) U := h.1 (RX7, 53, yX4_init, RX7) (List.mem_of_getElem? (i := 6) rfl)
theorem gN_RX0_43 {tA tU : Nat} {A : Nat → Prop} {U : State} {H : Heap} (h : gE tA tU A U H) : va_Nw (.methodLinkNest RX0 43 yX7_fillWith RX7) U := h.1 (RX0, 43, yX7_fillWith, RX7) (List.mem_of_getElem? (i := 7) rfl)
theorem gN_RX0_70 {tA tU : Nat} {A : Nat → Prop} {U : State} {H : Heap} (h : gE tA tU A U H) : va_Nw (.methodLinkNest RX0 70 yX7_put RX7) U := h.1 (RX0, 70, yX7_put, RX7) (List.mem_of_getElem? (i := 8) rfl)
theorem gN_RX0_53 {tA tU : Nat} {A : Nat → Prop} {U : State} {H : Heap} (h : gE tA tU A U H) : va_Nw (.methodLinkNest RX0 53 yX7_isWithin RX7) U := h.1 (RX0, 53, yX7_isWithin, RX7) (List.mem_of_getElem? (i := 9) rfl)
theorem gN_RX0_66 {tA tU : Nat} {A : Nat → Prop} {U : State} {H : Heap} (h : gE tA tU A U H) : va_Nw (.methodLinkNest RX0 66 yX7_at RX7) U := h.1 (RX0, 66, yX7_at, RX7) (List.mem_of_getElem? (i := 10) rfl)
theorem gN_RX2_22 {tA tU : Nat} {A : Nat → Prop} {U : State} {H : Heap} (h : gE tA tU A U H) : va_Nw (.methodLinkNest RX2 22 yX7_fillWith RX7) U := h.1 (RX2, 22, yX7_fillWith, RX7) (List.mem_of_getElem? (i := 11) rfl)
theorem gN_RX2_26 {tA tU : Nat} {A : Nat → Prop} {U : State} {H : Heap} (h : gE tA tU A U H) : va_Nw (.methodLinkNest RX2 26 yX7_isWithin RX7) U := h.1 (RX2, 26, yX7_isWithin, RX7) (List.mem_of_getElem? (i := 12) rfl)
theorem gN_RX2_34 {tA tU : Nat} {A : Nat → Prop} {U : State} {H : Heap} (h : gE tA tU A U H) : va_Nw (.methodLinkNest RX2 34 yX7_put RX7) U := h.1 (RX2, 34, yX7_put, RX7) (List.mem_of_getElem? (i := 13) rfl)
theorem gN_RX2_30 {tA tU : Nat} {A : Nat → Prop} {U : State} {H : Heap} (h : gE tA tU A U H) : va_Nw (.methodLinkNest RX2 30 yX7_at RX7) U := h.1 (RX2, 30, yX7_at, RX7) (List.mem_of_getElem? (i := 14) rfl)
theorem gN_RX6_25 {tA tU : Nat} {A : Nat → Prop} {U : State} {H : Heap} (h : gE tA tU A U H) : va_Nw (.methodLinkNest RX6 25 yX7_fillWith RX7) U := h.1 (RX6, 25, yX7_fillWith, RX7) (List.mem_of_getElem? (i := 15) rfl)
theorem gN_RX6_21 {tA tU : Nat} {A : Nat → Prop} {U : State} {H : Heap} (h : gE tA tU A U H) : va_Nw (.methodLinkNest RX6 21 yX7_at RX7) U := h.1 (RX6, 21, yX7_at, RX7) (List.mem_of_getElem? (i := 16) rfl)
theorem gN_RX6_68 {tA tU : Nat} {A : Nat → Prop} {U : State} {H : Heap} (h : gE tA tU A U H) : va_Nw (.methodLinkNest RX6 68 yX7_put RX7) U := h.1 (RX6, 68, yX7_put, RX7) (List.mem_of_getElem? (i := 17) rfl)
theorem gN_RX1_32 {tA tU : Nat} {A : Nat → Prop} {U : State} {H : Heap} (h : gE tA tU A U H) : va_Nw (.methodLinkNest RX1 32 yX7_fillWith RX7) U := h.1 (RX1, 32, yX7_fillWith, RX7) (List.mem_of_getElem? (i := 18) rfl)
theorem gN_RX1_40 {tA tU : Nat} {A : Nat → Prop} {U : State} {H : Heap} (h : gE tA tU A U H) : va_Nw (.methodLinkNest RX1 40 yX7_put RX7) U := h.1 (RX1, 40, yX7_put, RX7) (List.mem_of_getElem? (i := 19) rfl)
theorem gN_RX1_44 {tA tU : Nat} {A : Nat → Prop} {U : State} {H : Heap} (h : gE tA tU A U H) : va_Nw (.methodLinkNest RX1 44 yX7_at RX7) U := h.1 (RX1, 44, yX7_at, RX7) (List.mem_of_getElem? (i := 20) rfl)
theorem gN_RX1_77 {tA tU : Nat} {A : Nat → Prop} {U : State} {H : Heap} (h : gE tA tU A U H) : va_Nw (.methodLinkNest RX1 77 yX7_stateOf RX7) U := h.1 (RX1, 77, yX7_stateOf, RX7) (List.mem_of_getElem? (i := 21) rfl)
theorem gN_RX1_67 {tA tU : Nat} {A : Nat → Prop} {U : State} {H : Heap} (h : gE tA tU A U H) : va_Nw (.methodLinkNest RX1 67 yX7_xOf RX7) U := h.1 (RX1, 67, yX7_xOf, RX7) (List.mem_of_getElem? (i := 22) rfl)
theorem gN_RX1_70 {tA tU : Nat} {A : Nat → Prop} {U : State} {H : Heap} (h : gE tA tU A U H) : va_Nw (.methodLinkNest RX1 70 yX7_yOf RX7) U := h.1 (RX1, 70, yX7_yOf, RX7) (List.mem_of_getElem? (i := 23) rfl)
theorem gN_RX1_64 {tA tU : Nat} {A : Nat → Prop} {U : State} {H : Heap} (h : gE tA tU A U H) : va_Nw (.methodLinkNest RX1 64 yX7_qOf RX7) U := h.1 (RX1, 64, yX7_qOf, RX7) (List.mem_of_getElem? (i := 24) rfl)
theorem gN_RX3_22 {tA tU : Nat} {A : Nat → Prop} {U : State} {H : Heap} (h : gE tA tU A U H) : va_Nw (.methodLinkNest RX3 22 yX7_fillWith RX7) U := h.1 (RX3, 22, yX7_fillWith, RX7) (List.mem_of_getElem? (i := 25) rfl)
theorem gN_RX3_42 {tA tU : Nat} {A : Nat → Prop} {U : State} {H : Heap} (h : gE tA tU A U H) : va_Nw (.methodLinkNest RX3 42 yX7_stateOf RX7) U := h.1 (RX3, 42, yX7_stateOf, RX7) (List.mem_of_getElem? (i := 26) rfl)
theorem gN_RX3_50 {tA tU : Nat} {A : Nat → Prop} {U : State} {H : Heap} (h : gE tA tU A U H) : va_Nw (.methodLinkNest RX3 50 yX7_at RX7) U := h.1 (RX3, 50, yX7_at, RX7) (List.mem_of_getElem? (i := 27) rfl)
theorem gN_RX3_64 {tA tU : Nat} {A : Nat → Prop} {U : State} {H : Heap} (h : gE tA tU A U H) : va_Nw (.methodLinkNest RX3 64 yX7_put RX7) U := h.1 (RX3, 64, yX7_put, RX7) (List.mem_of_getElem? (i := 28) rfl)
theorem gN_RX3_72 {tA tU : Nat} {A : Nat → Prop} {U : State} {H : Heap} (h : gE tA tU A U H) : va_Nw (.methodLinkNest RX3 72 yX7_xOf RX7) U := h.1 (RX3, 72, yX7_xOf, RX7) (List.mem_of_getElem? (i := 29) rfl)
theorem gN_RX3_76 {tA tU : Nat} {A : Nat → Prop} {U : State} {H : Heap} (h : gE tA tU A U H) : va_Nw (.methodLinkNest RX3 76 yX7_yOf RX7) U := h.1 (RX3, 76, yX7_yOf, RX7) (List.mem_of_getElem? (i := 30) rfl)
theorem gN_RX5_34 {tA tU : Nat} {A : Nat → Prop} {U : State} {H : Heap} (h : gE tA tU A U H) : va_Nw (.methodLinkNest RX5 34 yX7_fillWith RX7) U := h.1 (RX5, 34, yX7_fillWith, RX7) (List.mem_of_getElem? (i := 31) rfl)
theorem gN_RX5_59 {tA tU : Nat} {A : Nat → Prop} {U : State} {H : Heap} (h : gE tA tU A U H) : va_Nw (.methodLinkNest RX5 59 yX7_put RX7) U := h.1 (RX5, 59, yX7_put, RX7) (List.mem_of_getElem? (i := 32) rfl)
theorem gN_RX5_55 {tA tU : Nat} {A : Nat → Prop} {U : State} {H : Heap} (h : gE tA tU A U H) : va_Nw (.methodLinkNest RX5 55 yX7_at RX7) U := h.1 (RX5, 55, yX7_at, RX7) (List.mem_of_getElem? (i := 33) rfl)
theorem gN_RX4_28 {tA tU : Nat} {A : Nat → Prop} {U : State} {H : Heap} (h : gE tA tU A U H) : va_Nw (.methodLinkNest RX4 28 yX7_at RX7) U := h.1 (RX4, 28, yX7_at, RX7) (List.mem_of_getElem? (i := 34) rfl)
theorem gN_RX4_36 {tA tU : Nat} {A : Nat → Prop} {U : State} {H : Heap} (h : gE tA tU A U H) : va_Nw (.methodLinkNest RX4 36 yX7_put RX7) U := h.1 (RX4, 36, yX7_put, RX7) (List.mem_of_getElem? (i := 35) rfl)
theorem gN_RX4_46 {tA tU : Nat} {A : Nat → Prop} {U : State} {H : Heap} (h : gE tA tU A U H) : va_Nw (.methodLinkNest RX4 46 yX7_isWithin RX7) U := h.1 (RX4, 46, yX7_isWithin, RX7) (List.mem_of_getElem? (i := 36) rfl)
/-- a method that only reads: its start -/
def pR (av : List Value) (D : va_G) (cyI cyZ : ClassId) (tA tU : Nat) (ws : va_W) : Array Value → State → Prop := va_Pc av (fun U => va_P D vwCl ws U.heap ∧ va_K D vwCl [(cyI, .int), (cyZ, .boolean)] U ∧ gE tA tU (fun _ => False) U U.heap)
/-- a method that writes: its start -/
def pM (av : List Value) (D : va_G) (cyI cyZ : ClassId) (tA tU : Nat) (ws : va_W) (sz : Nat) : Array Value → State → Prop := va_Pc av (fun U => U.heap.size = sz ∧ va_P D vwCl ws U.heap ∧ va_K D vwCl [(cyI, .int), (cyZ, .boolean)] U ∧ va_D (fun _ => True) ws ∧ gE tA tU (va_A ws sz) U U.heap)
def qMi (D : va_G) (r0 : Int32) (w1 : va_W) (A : Nat → Prop) := va_Qi (S := Unit) (fun r _ => r = r0) (fun _ t => va_P D vwCl w1 t.heap ∧ va_D A w1) A
def qMv (D : va_G) (w1 : va_W) (A : Nat → Prop) := va_Qv (S := Unit) (fun _ => True) (fun _ t => va_P D vwCl w1 t.heap ∧ va_D A w1) A
theorem pR_blind {av : List Value} {D : va_G} {cyI cyZ : ClassId} {tA tU : Nat} {ws : va_W} : FrameBlind (pR av D cyI cyZ tA tU ws) := fun a U g mk q => ⟨q.1, q.2.1, va_K.moved (u := U) (U := U.calling g mk a) (Vm.Alike.refl U.vm) q.2.2.1, q.2.2.2.calling⟩
theorem pM_blind {av : List Value} {D : va_G} {cyI cyZ : ClassId} {tA tU : Nat} {ws : va_W} {sz : Nat} : FrameBlind (pM av D cyI cyZ tA tU ws sz) := fun a U g mk q => ⟨q.1, q.2.1, q.2.2.1, va_K.moved (u := U) (U := U.calling g mk a) (Vm.Alike.refl U.vm) q.2.2.2.1, q.2.2.2.2.1, q.2.2.2.2.2.calling⟩
section GCALL
variable {p : Program} {l : Launch} {e : Env} {R : Room} {s : State} {m : MethodId} {args : Array Value} {below : List Frame} {meth : Method} {c : Code} {H : Heap} {locs : List Loc} {cells slots : Nat} {Q : State → Prop}
variable {pc : Nat} {ls : Array Slot} {rest st0 : List Value} {a : Array Value} {A0 : Nat → Prop} {H0 : Heap} {D : va_G} {cyI cyZ : ClassId} {tA tU : Nat} {ws wc wr w1 : va_W} {As : List Value} {b : Addr} {C : String}
theorem hpRS (hE : gE tA tU A0 s s.heap) (hS : va_S A0 s.heap H locs) (hK : va_K D vwCl [(cyI, .int), (cyZ, .boolean)] s) (hP : va_P D vwCl wc H) : PreS s H (pR As D cyI cyZ tA tU wc) As :=
  ⟨pR_blind, fun U hU hW => ⟨rfl, by rw [hU]; exact hP, va_K.moved hW.alike hK, hE.call hS (fun _ h => h.elim) hU hW⟩⟩
theorem hpRV (hE : gE tA tU A0 s s.heap) (hS : va_S A0 s.heap H locs) (hK : va_K D vwCl [(cyI, .int), (cyZ, .boolean)] s) (hP : va_P D vwCl wc H) (hr : ∃ cellB : Cell, H[b]? = some cellB ∧ cellB.vm.isStatics = false ∧ s.vm.findClass C = some cellB.cls) : PreV s H C b (pR (.ref b :: As) D cyI cyZ tA tU wc) As :=
  ⟨pR_blind, hr, fun U hU hW => ⟨rfl, by rw [hU]; exact hP, va_K.moved hW.alike hK, hE.call hS (fun _ h => h.elim) hU hW⟩⟩
theorem hpMS (hE : gE tA tU A0 s s.heap) (hS : va_S A0 s.heap H locs) (hK : va_K D vwCl [(cyI, .int), (cyZ, .boolean)] s) (hP : va_P D vwCl wc H) (hD : va_D A0 wc) (hF : ∀ q, va_A wc H.size q → A0 q) : PreS s H (pM As D cyI cyZ tA tU wc H.size) As :=
  ⟨pM_blind, fun U hU hW => ⟨rfl, by rw [hU], by rw [hU]; exact hP, va_K.moved hW.alike hK, hD.weaken (fun _ _ _ _ => trivial), hE.call hS hF hU hW⟩⟩
theorem hpMV (hE : gE tA tU A0 s s.heap) (hS : va_S A0 s.heap H locs) (hK : va_K D vwCl [(cyI, .int), (cyZ, .boolean)] s) (hP : va_P D vwCl wc H) (hD : va_D A0 wc) (hF : ∀ q, va_A wc H.size q → A0 q) (hr : ∃ cellB : Cell, H[b]? = some cellB ∧ cellB.vm.isStatics = false ∧ s.vm.findClass C = some cellB.cls) : PreV s H C b (pM (.ref b :: As) D cyI cyZ tA tU wc H.size) As :=
  ⟨pM_blind, hr, fun U hU hW => ⟨rfl, by rw [hU], by rw [hU]; exact hP, va_K.moved hW.alike hK, hD.weaken (fun _ _ _ _ => trivial), hE.call hS hF hU hW⟩⟩
theorem kR_i {r0 : Int32} (hr : va_Run p l e R s m args below meth c H locs cells slots 0 0 (F0 m pc ls st0) rest (vp_Si (fun r => r = r0) a) (fun _ => False))
    (kk : W p l e R s m args below meth c H locs cells slots Q (F0 m (pc + 3) ls (.int r0 :: rest))) : W p l e R s m args below meth c H locs cells slots Q (F0 m pc ls st0) := vp_callSi hr.run (fun r h => by subst h; exact kk)
theorem kR_l {r0 : Int64} (hr : va_Run p l e R s m args below meth c H locs cells slots 0 0 (F0 m pc ls st0) rest (vp_Sl (fun r => r = r0) a) (fun _ => False))
    (kk : W p l e R s m args below meth c H locs cells slots Q (F0 m (pc + 3) ls (.long r0 :: rest))) : W p l e R s m args below meth c H locs cells slots Q (F0 m pc ls st0) := vp_callSl hr.run (fun r h => by subst h; exact kk)
theorem kM_i {r0 : Int32} (hr : va_Run p l e R s m args below meth c H locs cells slots 0 0 (F0 m pc ls st0) rest (qMi D r0 w1 (va_A wc H.size) a) (va_A wc H.size)) (hP : va_P D vwCl ws H) (hD : va_D A0 ws) (hS : va_S A0 H0 H locs) (hF : ∀ q, va_A wc H.size q → A0 q) (isC isR : List Nat) (hC : isC.map (fun i => ws[i]?) = wc.map some) (hR : isR.map (fun i => ws[i]?) = wr.map some) (hn : va_nd isR = true) (hdis : ∀ i ∈ isR, i ∉ isC)
    (kk : ∀ (H1 : Heap) (locs1 : List Loc), va_P D vwCl (wr ++ w1) H1 → va_D A0 (wr ++ w1) → va_S A0 H0 H1 locs1 → W p l e R s m args below meth c H1 locs1 cells slots Q (F0 m (pc + 3) ls (.int r0 :: rest))) : W p l e R s m args below meth c H locs cells slots Q (F0 m pc ls st0) :=
  va_calli hr hS (fun q _ h => hF q h) hF (fun r u t H1 locs1 ht hvm hp hb hz hk hS => by
    obtain ⟨hP1, hD1⟩ := hb
    have hp : r = r0 := hp
    subst hp
    rw [ht] at hP1
    obtain ⟨x, y⟩ := va_join hP hD isC isR hC hR hn hdis hk hF hP1 hD1
    exact kk H1 locs1 x y hS)
theorem kM_v (hr : va_Run p l e R s m args below meth c H locs cells slots 0 0 (F0 m pc ls st0) rest (qMv D w1 (va_A wc H.size) a) (va_A wc H.size)) (hP : va_P D vwCl ws H) (hD : va_D A0 ws) (hS : va_S A0 H0 H locs) (hF : ∀ q, va_A wc H.size q → A0 q) (isC isR : List Nat) (hC : isC.map (fun i => ws[i]?) = wc.map some) (hR : isR.map (fun i => ws[i]?) = wr.map some) (hn : va_nd isR = true) (hdis : ∀ i ∈ isR, i ∉ isC)
    (kk : ∀ (H1 : Heap) (locs1 : List Loc), va_P D vwCl (wr ++ w1) H1 → va_D A0 (wr ++ w1) → va_S A0 H0 H1 locs1 → W p l e R s m args below meth c H1 locs1 cells slots Q (F0 m (pc + 3) ls rest)) : W p l e R s m args below meth c H locs cells slots Q (F0 m pc ls st0) :=
  va_callv hr hS (fun q _ h => hF q h) hF (fun u t H1 locs1 ht hvm hp hb hz hk hS => by
    obtain ⟨hP1, hD1⟩ := hb
    rw [ht] at hP1
    obtain ⟨x, y⟩ := va_join hP hD isC isR hC hR hn hdis hk hF hP1 hD1
    exact kk H1 locs1 x y hS)
/-- a static table: reading it needs no world -/
def pT (av : List Value) (t : Nat) (f : Nat → Int32) : Array Value → State → Prop := va_Pc av (fun U => va_T .int t 4 (fun k => .int (f k)) (fun _ => False) U U.heap)
theorem pT_blind {av : List Value} {t : Nat} {f : Nat → Int32} : FrameBlind (pT av t f) := fun a U g mk q => ⟨q.1, va_T.moved (u := U) (U := U.calling g mk a) (Vm.Alike.refl U.vm) q.2⟩
theorem hpTS {t : Nat} {f : Nat → Int32} (hT : va_T .int t 4 (fun k => .int (f k)) A0 s s.heap) (hS : va_S A0 s.heap H locs) : PreS s H (pT As t f) As :=
  ⟨pT_blind, fun U hU hW => ⟨rfl, by subst hU; exact ((hT.kept hS.2.1).narrow (fun _ h => h.elim)).moved hW.alike⟩⟩
theorem g_mmax {cc : ByteArray} (hexec : p.tables.exec = Jvm.exec) (hb : c.code = cc) (hml : c.maxLocals = ls.size) {own : String} {index : Nat} (hown : s.vm.findClass own = some m.cls) (hlink : (Cond.methodLink own index Lib.Math.max.name).before args s = true) (hstat : (Cond.static Lib.Math.max.name).before args s = true) (hini : (Cond.initialized "java/lang/Math").before args s = true) (hcode : (Cond.code Lib.Math.max.name Lib.Math.max.code 2 (some .int)).before args s = true) (hframes : 1 ≤ R.frames) (hlocals : (rest.map fun v => v.category).sum + 13 ≤ R.locals) (hc : cells ≤ R.cells) (hs : slots ≤ R.slots) {x y : Int32} (hdg : decode cc pc = .ok (.invokestatic index, 3)) (kk : W p l e R s m args below meth c H locs cells slots Q (F0 m (pc + 3) ls (.int (mmax x y) :: rest))) : W p l e R s m args below meth c H locs cells slots Q (F0 m pc ls (.int y :: .int x :: rest)) := va_mmax hexec hb hml hown hlink hstat hini hcode hframes hlocals hc hs hdg kk
theorem g_mmin {cc : ByteArray} (hexec : p.tables.exec = Jvm.exec) (hb : c.code = cc) (hml : c.maxLocals = ls.size) {own : String} {index : Nat} (hown : s.vm.findClass own = some m.cls) (hlink : (Cond.methodLink own index Lib.Math.min.name).before args s = true) (hstat : (Cond.static Lib.Math.min.name).before args s = true) (hini : (Cond.initialized "java/lang/Math").before args s = true) (hcode : (Cond.code Lib.Math.min.name Lib.Math.min.code 2 (some .int)).before args s = true) (hframes : 1 ≤ R.frames) (hlocals : (rest.map fun v => v.category).sum + 13 ≤ R.locals) (hc : cells ≤ R.cells) (hs : slots ≤ R.slots) {x y : Int32} (hdg : decode cc pc = .ok (.invokestatic index, 3)) (kk : W p l e R s m args below meth c H locs cells slots Q (F0 m (pc + 3) ls (.int (mmin x y) :: rest))) : W p l e R s m args below meth c H locs cells slots Q (F0 m pc ls (.int y :: .int x :: rest)) := va_mmin hexec hb hml hown hlink hstat hini hcode hframes hlocals hc hs hdg kk
theorem g_mabs {cc : ByteArray} (hexec : p.tables.exec = Jvm.exec) (hb : c.code = cc) (hml : c.maxLocals = ls.size) {own : String} {index : Nat} (hown : s.vm.findClass own = some m.cls) (hlink : (Cond.methodLink own index Lib.Math.abs.name).before args s = true) (hstat : (Cond.static Lib.Math.abs.name).before args s = true) (hini : (Cond.initialized "java/lang/Math").before args s = true) (hcode : (Cond.code Lib.Math.abs.name Lib.Math.abs.code 1 (some .int)).before args s = true) (hframes : 1 ≤ R.frames) (hlocals : (rest.map fun v => v.category).sum + 13 ≤ R.locals) (hc : cells ≤ R.cells) (hs : slots ≤ R.slots) {x : Int32} (hdg : decode cc pc = .ok (.invokestatic index, 3)) (kk : W p l e R s m args below meth c H locs cells slots Q (F0 m (pc + 3) ls (.int (mabs x) :: rest))) : W p l e R s m args below meth c H locs cells slots Q (F0 m pc ls (.int x :: rest)) := va_mabs hexec hb hml hown hlink hstat hini hcode hframes hlocals hc hs hdg kk
end GCALL
