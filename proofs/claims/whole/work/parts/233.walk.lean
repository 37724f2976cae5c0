abbrev rX8_digest : Room := { frames := 1, cells := 0, slots := 0, locals := 23 }
set_option maxHeartbeats 4000000 in
set_option maxRecDepth 100000 in
theorem m8_digest (l : Launch) (D : va_G) (cyI cyZ : ClassId) (tA tU : Nat) (mo0 mo1 mo2 mo3 mo4 mo5 mo6 mo7 mo8 mo9 mo10 mo11 mo12 mo13 mo14 mo15 mo16 mo17 mo18 mo19 : Nat) (mo : SMo)  (F : Nat) (R : Int64) (h : x8_digest F mo = some R) : Met l yX8_digest wsX8_digest rX8_digest (pR [.ref mo0] D cyI cyZ tA tU [(mo0, .inr (8, [.int (SMo.f_finding mo), .ref mo1, .int (SMo.f_wide mo), .int (SMo.f_high mo), .int (SMo.f_things mo), .int (SMo.f_doors mo), .int (SMo.f_outs mo), .ref mo2, .int (SMo.f_undos mo), .ref mo3, .ref mo4, .ref mo5, .ref mo6, .ref mo7, .int (SMo.f_rowMany mo), .ref mo8, .ref mo9, .int (SMo.f_holdX mo), .int (SMo.f_holdY mo), .ref mo10, .ref mo11, .ref mo12, .int (SMo.f_grown mo), .int (SMo.f_gone mo), .ref mo13, .ref mo14, .ref mo15, .ref mo16, .ref mo17, .ref mo18, .int (SMo.f_takenMany mo), .ref mo19, .int (SMo.f_draftMany mo)])), (mo1, .inl (cyI, 5, .inl (SMo.f_findings mo))), (mo2, .inl (cyI, 400, .inl (SMo.f_squares mo))), (mo3, .inl (cyI, 20, .inl (SMo.f_keptThings mo))), (mo4, .inl (cyI, 20, .inl (SMo.f_keptDoors mo))), (mo5, .inl (cyI, 20, .inl (SMo.f_keptOuts mo))), (mo6, .inl (cyI, 8000, .inl (SMo.f_keptSquares mo))), (mo7, .inl (cyI, 6, .inl (SMo.f_ends mo))), (mo8, .inl (cyI, 6, .inl (SMo.f_rows mo))), (mo9, .inl (cyI, 6, .inl (SMo.f_moving mo))), (mo10, .inl (cyI, 400, .inl (SMo.f_way mo))), (mo11, .inl (cyI, 1764, .inl (SMo.f_bars mo))), (mo12, .inl (cyI, 441, .inl (SMo.f_turnBars mo))), (mo13, .inl (cyI, 441, .inl (SMo.f_pieceOf mo))), (mo14, .inl (cyI, 1764, .inl (SMo.f_todo mo))), (mo15, .inl (cyI, 1764, .inl (SMo.f_far mo))), (mo16, .inl (cyZ, 1764, .inl (SMo.f_isIn mo))), (mo17, .inl (cyI, 1764, .inl (SMo.f_line mo))), (mo18, .inl (cyI, 1800, .inl (SMo.f_taken mo))), (mo19, .inl (cyI, 200, .inl (SMo.f_drafted mo)))]) (vp_Sl (fun r => r = R)) 0 0 (fun _ => False) := by
  refine Met.ofW (cc := cX8_digest) (maxL := 5) (ret := (some .long)) (by decide) rfl ?_
  intro p e s m args below meth c s₁ B hml hv
  obtain ⟨rfl, hP, hK, hE⟩ := hv
  have hx := B.exec
  have hb := B.bytes
  have hr := B.returns
  have hts := atoms_spec (ws := wsX8_digest) B.pre
  have hown : s.vm.findClass RX8 = some m.cls := findClass_of_methodNamed B.named
  have hlocks := B.notSynchronized
  have k1 := hts (.constantLong RX8 242 (31)) (List.mem_of_getElem? (i := 1) (by decide +kernel))
  have k12 := hts (.fieldLink RX8 35 "PianoHouseModel" "ends" "[I") (List.mem_of_getElem? (i := 12) (by decide +kernel))
  have inX8 : ∀ w ∈ wsX80, w ∈ wsX8_digest := by decide +kernel
  have k8 := hts (.fieldLink RX8 119 "PianoHouseModel" "rowMany" "I") (List.mem_of_getElem? (i := 8) (by decide +kernel))
  have k10 := hts (.fieldLink RX8 125 "PianoHouseModel" "holdX" "I") (List.mem_of_getElem? (i := 10) (by decide +kernel))
  have k11 := hts (.fieldLink RX8 128 "PianoHouseModel" "holdY" "I") (List.mem_of_getElem? (i := 11) (by decide +kernel))
  have k9 := hts (.fieldLink RX8 38 "PianoHouseModel" "rows" "[I") (List.mem_of_getElem? (i := 9) (by decide +kernel))
  have k5 := hts (.fieldLink RX8 85 "PianoHouseModel" "things" "I") (List.mem_of_getElem? (i := 5) (by decide +kernel))
  have k6 := hts (.fieldLink RX8 88 "PianoHouseModel" "doors" "I") (List.mem_of_getElem? (i := 6) (by decide +kernel))
  have k7 := hts (.fieldLink RX8 91 "PianoHouseModel" "outs" "I") (List.mem_of_getElem? (i := 7) (by decide +kernel))
  have k3 := hts (.fieldLink RX8 13 "PianoHouseModel" "wide" "I") (List.mem_of_getElem? (i := 3) (by decide +kernel))
  have k4 := hts (.fieldLink RX8 17 "PianoHouseModel" "high" "I") (List.mem_of_getElem? (i := 4) (by decide +kernel))
  have k2 := hts (.constantLong RX8 244 (527)) (List.mem_of_getElem? (i := 2) (by decide +kernel))
  have hS : va_S (fun _ => False) s.heap s.heap [] := va_S.rf
  have hl := lv_entry ([.ref mo0]) (n := 5) (Nat.le_of_ble_eq_true rfl)
  rw [lg_entry_eq]
  generalize (lg_sl ([.ref mo0]) ++ List.replicate (5 - (lg_sl ([.ref mo0])).length) Slot.unset).toArray = ls at hl ⊢
  have hl : lv_has ls 5 [(0, .ref mo0)] := hl
  generalize hQQ : MQ below _ _ s 0 0 _ = QQ
  rw [x8_digest] at h
  have L169 : ∀  (n169 : Nat) (x1 : Int64) (x3 : Int32) (ls : Array Slot), x8_digest_L169 F mo n169 x1 x3 = some R → lv_has ls 5 [(0, .ref mo0), (1, .long x1), (3, .int x3)] → W p l e (headSpec wsX8_digest rX8_digest).room s m ([.ref mo0] : List Value).toArray below meth c s.heap [] 0 0 QQ (F0 m 169 ls []) := by
    intro n169
    induction n169 with
    | zero =>
      intro x1 x3 ls h hl
      rw [x8_digest_L169] at h; exact no_some h
    | succ n169 ih169 =>
      intro x1 x3 ls h hl
      rw [x8_digest_L169] at h
      refine lv_iload_n hx hb dX8_digest_169 rfl (lv_at hl 2 rfl) ?_
      refine lv_bipush (v := (6 : Int32)) hx hb dX8_digest_170 (by decide) ?_
      refine lv_icmp_ge (tgt := 195) hx hb dX8_digest_172 (by decide) (fun c1 => ?_) (fun c1 => ?_)
      · replace h := ite_t c1 h
        refine lv_lload_n hx hb dX8_digest_195 rfl (lv_at hl 1 rfl) ?_
        rw [← hQQ]
        exact W.lret (v := x1) hx hb hr (fun t ht hW => ⟨x1, rfl, Option.some.inj h, ht⟩) (fun q hq => absurd hq List.not_mem_nil) dX8_digest_196
      · replace h := ite_f c1 h
        refine lv_ldc2 (v := (31 : Int64)) hx hb hown k1 dX8_digest_175 ?_
        refine lv_lload_n hx hb dX8_digest_178 rfl (lv_at hl 1 rfl) ?_
        refine lv_lmul hx hb dX8_digest_179 ?_
        refine lv_aload_n hx hb dX8_digest_180 rfl (lv_at hl 0 rfl) ?_
        refine va_get (D := D) (ci := 8) (v := .ref mo7) (C := RX8) (T := TX8) (N := 33) hx hb hts inX8 hown hK hP 0 rfl rfl 13 (by decide) k12 (fun _ h9 => h9) rfl dX8_digest_181 ?_
        refine lv_iload_n hx hb dX8_digest_184 rfl (lv_at hl 2 rfl) ?_
        by_cases b2 : ib x3 6 = true
        case neg => exact no_some (ite_f b2 h)
        replace h := ite_t b2 h
        refine va_iald hx hb hK hP 7 0 rfl rfl (ib_in b2) dX8_digest_185 ?_
        refine lv_i2l (v := (Int32.toInt64 ((SMo.f_ends mo) (Int32.toNatClampNeg x3)))) hx hb dX8_digest_186 rfl ?_
        refine lv_ladd hx hb dX8_digest_187 ?_
        refine lv_lstore_n (lv' := [(1, .long (((31 : Int64) * x1) + (Int32.toInt64 ((SMo.f_ends mo) (Int32.toNatClampNeg x3))))), (0, .ref mo0), (3, .int x3)]) hx hb dX8_digest_188 rfl hl (by decide) rfl (fun ls hl => ?_)
        refine lv_iinc (v := (x3 + 1)) (lv' := [(3, .int (x3 + 1)), (1, .long (((31 : Int64) * x1) + (Int32.toInt64 ((SMo.f_ends mo) (Int32.toNatClampNeg x3))))), (0, .ref mo0)]) hx hb dX8_digest_189 hl (k := 2) rfl rfl (by decide) rfl (fun ls hl => ?_)
        refine lv_goto (tgt := 169) hx hb dX8_digest_192 (by decide) ?_
        exact ih169 (((31 : Int64) * x1) + (Int32.toInt64 ((SMo.f_ends mo) (Int32.toNatClampNeg x3)))) (x3 + 1) _ h (lv_sub hl [2, 1, 0] rfl)
  have L117 : ∀  (n117 : Nat) (x1 : Int64) (x3 : Int32) (ls : Array Slot), x8_digest_L117 F mo n117 x1 x3 = some R → lv_has ls 5 [(0, .ref mo0), (1, .long x1), (3, .int x3)] → W p l e (headSpec wsX8_digest rX8_digest).room s m ([.ref mo0] : List Value).toArray below meth c s.heap [] 0 0 QQ (F0 m 117 ls []) := by
    intro n117
    induction n117 with
    | zero =>
      intro x1 x3 ls h hl
      rw [x8_digest_L117] at h; exact no_some h
    | succ n117 ih117 =>
      intro x1 x3 ls h hl
      rw [x8_digest_L117] at h
      refine lv_iload_n hx hb dX8_digest_117 rfl (lv_at hl 2 rfl) ?_
      refine lv_aload_n hx hb dX8_digest_118 rfl (lv_at hl 0 rfl) ?_
      refine va_get (D := D) (ci := 8) (v := .int (SMo.f_rowMany mo)) (C := RX8) (T := TX8) (N := 33) hx hb hts inX8 hown hK hP 0 rfl rfl 14 (by decide) k8 (fun _ h9 => h9) rfl dX8_digest_119 ?_
      refine lv_icmp_ge (tgt := 145) hx hb dX8_digest_122 (by decide) (fun c3 => ?_) (fun c3 => ?_)
      · replace h := ite_t c3 h
        refine lv_ldc2 (v := (31 : Int64)) hx hb hown k1 dX8_digest_145 ?_
        refine lv_ldc2 (v := (31 : Int64)) hx hb hown k1 dX8_digest_148 ?_
        refine lv_lload_n hx hb dX8_digest_151 rfl (lv_at hl 1 rfl) ?_
        refine lv_lmul hx hb dX8_digest_152 ?_
        refine lv_aload_n hx hb dX8_digest_153 rfl (lv_at hl 0 rfl) ?_
        refine va_get (D := D) (ci := 8) (v := .int (SMo.f_holdX mo)) (C := RX8) (T := TX8) (N := 33) hx hb hts inX8 hown hK hP 0 rfl rfl 17 (by decide) k10 (fun _ h9 => h9) rfl dX8_digest_154 ?_
        refine lv_i2l (v := (Int32.toInt64 (SMo.f_holdX mo))) hx hb dX8_digest_157 rfl ?_
        refine lv_ladd hx hb dX8_digest_158 ?_
        refine lv_lmul hx hb dX8_digest_159 ?_
        refine lv_aload_n hx hb dX8_digest_160 rfl (lv_at hl 0 rfl) ?_
        refine va_get (D := D) (ci := 8) (v := .int (SMo.f_holdY mo)) (C := RX8) (T := TX8) (N := 33) hx hb hts inX8 hown hK hP 0 rfl rfl 18 (by decide) k11 (fun _ h9 => h9) rfl dX8_digest_161 ?_
        refine lv_i2l (v := (Int32.toInt64 (SMo.f_holdY mo))) hx hb dX8_digest_164 rfl ?_
        refine lv_ladd hx hb dX8_digest_165 ?_
        refine lv_lstore_n (lv' := [(1, .long (((31 : Int64) * (((31 : Int64) * x1) + (Int32.toInt64 (SMo.f_holdX mo)))) + (Int32.toInt64 (SMo.f_holdY mo)))), (0, .ref mo0), (3, .int x3)]) hx hb dX8_digest_166 rfl hl (by decide) rfl (fun ls hl => ?_)
        refine lv_iconst (v := (0 : Int32)) hx hb dX8_digest_167 (by decide) ?_
        refine lv_istore_n (lv' := [(3, .int (0 : Int32)), (1, .long (((31 : Int64) * (((31 : Int64) * x1) + (Int32.toInt64 (SMo.f_holdX mo)))) + (Int32.toInt64 (SMo.f_holdY mo)))), (0, .ref mo0)]) hx hb dX8_digest_168 rfl hl (by decide) rfl (fun ls hl => ?_)
        exact L169 F (((31 : Int64) * (((31 : Int64) * x1) + (Int32.toInt64 (SMo.f_holdX mo)))) + (Int32.toInt64 (SMo.f_holdY mo))) (0 : Int32) _ h (lv_sub hl [2, 1, 0] rfl)
      · replace h := ite_f c3 h
        refine lv_ldc2 (v := (31 : Int64)) hx hb hown k1 dX8_digest_125 ?_
        refine lv_lload_n hx hb dX8_digest_128 rfl (lv_at hl 1 rfl) ?_
        refine lv_lmul hx hb dX8_digest_129 ?_
        refine lv_aload_n hx hb dX8_digest_130 rfl (lv_at hl 0 rfl) ?_
        refine va_get (D := D) (ci := 8) (v := .ref mo8) (C := RX8) (T := TX8) (N := 33) hx hb hts inX8 hown hK hP 0 rfl rfl 15 (by decide) k9 (fun _ h9 => h9) rfl dX8_digest_131 ?_
        refine lv_iload_n hx hb dX8_digest_134 rfl (lv_at hl 2 rfl) ?_
        by_cases b4 : ib x3 6 = true
        case neg => exact no_some (ite_f b4 h)
        replace h := ite_t b4 h
        refine va_iald hx hb hK hP 8 0 rfl rfl (ib_in b4) dX8_digest_135 ?_
        refine lv_i2l (v := (Int32.toInt64 ((SMo.f_rows mo) (Int32.toNatClampNeg x3)))) hx hb dX8_digest_136 rfl ?_
        refine lv_ladd hx hb dX8_digest_137 ?_
        refine lv_lstore_n (lv' := [(1, .long (((31 : Int64) * x1) + (Int32.toInt64 ((SMo.f_rows mo) (Int32.toNatClampNeg x3))))), (0, .ref mo0), (3, .int x3)]) hx hb dX8_digest_138 rfl hl (by decide) rfl (fun ls hl => ?_)
        refine lv_iinc (v := (x3 + 1)) (lv' := [(3, .int (x3 + 1)), (1, .long (((31 : Int64) * x1) + (Int32.toInt64 ((SMo.f_rows mo) (Int32.toNatClampNeg x3))))), (0, .ref mo0)]) hx hb dX8_digest_139 hl (k := 2) rfl rfl (by decide) rfl (fun ls hl => ?_)
        refine lv_goto (tgt := 117) hx hb dX8_digest_142 (by decide) ?_
        exact ih117 (((31 : Int64) * x1) + (Int32.toInt64 ((SMo.f_rows mo) (Int32.toNatClampNeg x3)))) (x3 + 1) _ h (lv_sub hl [2, 1, 0] rfl)
  have L71 : ∀  (n71 : Nat) (x1 : Int64) (x3 : Int32) (ls : Array Slot), x8_digest_L71 F mo n71 x1 x3 = some R → lv_has ls 5 [(0, .ref mo0), (1, .long x1), (3, .int x3)] → W p l e (headSpec wsX8_digest rX8_digest).room s m ([.ref mo0] : List Value).toArray below meth c s.heap [] 0 0 QQ (F0 m 71 ls []) := by
    intro n71
    induction n71 with
    | zero =>
      intro x1 x3 ls h hl
      rw [x8_digest_L71] at h; exact no_some h
    | succ n71 ih71 =>
      intro x1 x3 ls h hl
      rw [x8_digest_L71] at h
      refine lv_iload_n hx hb dX8_digest_71 rfl (lv_at hl 2 rfl) ?_
      refine lv_aload_n hx hb dX8_digest_72 rfl (lv_at hl 0 rfl) ?_
      refine va_get (D := D) (ci := 8) (v := .int (SMo.f_things mo)) (C := RX8) (T := TX8) (N := 33) hx hb hts inX8 hown hK hP 0 rfl rfl 4 (by decide) k5 (fun _ h9 => h9) rfl dX8_digest_73 ?_
      refine lv_icmp_ge (tgt := 115) hx hb dX8_digest_76 (by decide) (fun c5 => ?_) (fun c5 => ?_)
      · replace h := ite_t c5 h
        refine lv_iconst (v := (0 : Int32)) hx hb dX8_digest_115 (by decide) ?_
        refine lv_istore_n (lv' := [(3, .int (0 : Int32)), (0, .ref mo0), (1, .long x1)]) hx hb dX8_digest_116 rfl hl (by decide) rfl (fun ls hl => ?_)
        exact L117 F x1 (0 : Int32) _ h (lv_sub hl [1, 2, 0] rfl)
      · replace h := ite_f c5 h
        refine lv_ldc2 (v := (31 : Int64)) hx hb hown k1 dX8_digest_79 ?_
        refine lv_ldc2 (v := (31 : Int64)) hx hb hown k1 dX8_digest_82 ?_
        refine lv_lload_n hx hb dX8_digest_85 rfl (lv_at hl 1 rfl) ?_
        refine lv_lmul hx hb dX8_digest_86 ?_
        refine lv_aload_n hx hb dX8_digest_87 rfl (lv_at hl 0 rfl) ?_
        refine va_get (D := D) (ci := 8) (v := .int (SMo.f_doors mo)) (C := RX8) (T := TX8) (N := 33) hx hb hts inX8 hown hK hP 0 rfl rfl 5 (by decide) k6 (fun _ h9 => h9) rfl dX8_digest_88 ?_
        refine lv_iload_n hx hb dX8_digest_91 rfl (lv_at hl 2 rfl) ?_
        refine lv_ishr hx hb dX8_digest_92 ?_
        refine lv_iconst (v := (1 : Int32)) hx hb dX8_digest_93 (by decide) ?_
        refine lv_iand hx hb dX8_digest_94 ?_
        refine lv_i2l (v := (Int32.toInt64 (((SMo.f_doors mo) >>> (x3 &&& 31)) &&& (1 : Int32)))) hx hb dX8_digest_95 rfl ?_
        refine lv_ladd hx hb dX8_digest_96 ?_
        refine lv_lmul hx hb dX8_digest_97 ?_
        refine lv_aload_n hx hb dX8_digest_98 rfl (lv_at hl 0 rfl) ?_
        refine va_get (D := D) (ci := 8) (v := .int (SMo.f_outs mo)) (C := RX8) (T := TX8) (N := 33) hx hb hts inX8 hown hK hP 0 rfl rfl 6 (by decide) k7 (fun _ h9 => h9) rfl dX8_digest_99 ?_
        refine lv_iload_n hx hb dX8_digest_102 rfl (lv_at hl 2 rfl) ?_
        refine lv_ishr hx hb dX8_digest_103 ?_
        refine lv_iconst (v := (1 : Int32)) hx hb dX8_digest_104 (by decide) ?_
        refine lv_iand hx hb dX8_digest_105 ?_
        refine lv_i2l (v := (Int32.toInt64 (((SMo.f_outs mo) >>> (x3 &&& 31)) &&& (1 : Int32)))) hx hb dX8_digest_106 rfl ?_
        refine lv_ladd hx hb dX8_digest_107 ?_
        refine lv_lstore_n (lv' := [(1, .long (((31 : Int64) * (((31 : Int64) * x1) + (Int32.toInt64 (((SMo.f_doors mo) >>> (x3 &&& 31)) &&& (1 : Int32))))) + (Int32.toInt64 (((SMo.f_outs mo) >>> (x3 &&& 31)) &&& (1 : Int32))))), (0, .ref mo0), (3, .int x3)]) hx hb dX8_digest_108 rfl hl (by decide) rfl (fun ls hl => ?_)
        refine lv_iinc (v := (x3 + 1)) (lv' := [(3, .int (x3 + 1)), (1, .long (((31 : Int64) * (((31 : Int64) * x1) + (Int32.toInt64 (((SMo.f_doors mo) >>> (x3 &&& 31)) &&& (1 : Int32))))) + (Int32.toInt64 (((SMo.f_outs mo) >>> (x3 &&& 31)) &&& (1 : Int32))))), (0, .ref mo0)]) hx hb dX8_digest_109 hl (k := 2) rfl rfl (by decide) rfl (fun ls hl => ?_)
        refine lv_goto (tgt := 71) hx hb dX8_digest_112 (by decide) ?_
        exact ih71 (((31 : Int64) * (((31 : Int64) * x1) + (Int32.toInt64 (((SMo.f_doors mo) >>> (x3 &&& 31)) &&& (1 : Int32))))) + (Int32.toInt64 (((SMo.f_outs mo) >>> (x3 &&& 31)) &&& (1 : Int32)))) (x3 + 1) _ h (lv_sub hl [2, 1, 0] rfl)
  have L22 : ∀  (n22 : Nat) (x1 : Int64) (x3 : Int32) (ls : Array Slot), x8_digest_L22 F mo n22 x1 x3 = some R → lv_has ls 5 [(0, .ref mo0), (1, .long x1), (3, .int x3)] → W p l e (headSpec wsX8_digest rX8_digest).room s m ([.ref mo0] : List Value).toArray below meth c s.heap [] 0 0 QQ (F0 m 22 ls []) := by
    intro n22
    induction n22 with
    | zero =>
      intro x1 x3 ls h hl
      rw [x8_digest_L22] at h; exact no_some h
    | succ n22 ih22 =>
      have L33 : ∀ (x3 : Int32) (n33 : Nat) (x1 : Int64) (x4 : Int32) (ls : Array Slot), x8_digest_L33 F mo x3 (x8_digest_L22 F mo n22) n33 x1 x4 = some R → lv_has ls 5 [(0, .ref mo0), (1, .long x1), (3, .int x3), (4, .int x4)] → W p l e (headSpec wsX8_digest rX8_digest).room s m ([.ref mo0] : List Value).toArray below meth c s.heap [] 0 0 QQ (F0 m 33 ls []) := by
        intro x3 n33
        induction n33 with
        | zero =>
          intro x1 x4 ls h hl
          rw [x8_digest_L33] at h; exact no_some h
        | succ n33 ih33 =>
          intro x1 x4 ls h hl
          rw [x8_digest_L33] at h
          refine lv_iload hx hb dX8_digest_33 (lv_at hl 3 rfl) ?_
          refine lv_aload_n hx hb dX8_digest_35 rfl (lv_at hl 0 rfl) ?_
          refine va_get (D := D) (ci := 8) (v := .int (SMo.f_wide mo)) (C := RX8) (T := TX8) (N := 33) hx hb hts inX8 hown hK hP 0 rfl rfl 2 (by decide) k3 (fun _ h9 => h9) rfl dX8_digest_36 ?_
          refine lv_icmp_ge (tgt := 63) hx hb dX8_digest_39 (by decide) (fun c6 => ?_) (fun c6 => ?_)
          · replace h := ite_t c6 h
            refine lv_iinc (v := (x3 + 1)) (lv' := [(3, .int (x3 + 1)), (0, .ref mo0), (1, .long x1), (4, .int x4)]) hx hb dX8_digest_63 hl (k := 2) rfl rfl (by decide) rfl (fun ls hl => ?_)
            refine lv_goto (tgt := 22) hx hb dX8_digest_66 (by decide) ?_
            exact ih22 x1 (x3 + 1) _ h (lv_sub hl [1, 2, 0] rfl)
          · replace h := ite_f c6 h
            refine lv_ldc2 (v := (31 : Int64)) hx hb hown k1 dX8_digest_42 ?_
            refine lv_lload_n hx hb dX8_digest_45 rfl (lv_at hl 1 rfl) ?_
            refine lv_lmul hx hb dX8_digest_46 ?_
            refine lv_aload_n hx hb dX8_digest_47 rfl (lv_at hl 0 rfl) ?_
            refine lv_iload hx hb dX8_digest_48 (lv_at hl 3 rfl) ?_
            refine lv_iload_n hx hb dX8_digest_50 rfl (lv_at hl 2 rfl) ?_
            obtain ⟨R7, e7, h⟩ := bnd h
            refine kR_i (va_runV (As := [.int x4, .int x3]) (rest := [.long ((31 : Int64) * x1)]) ⟨hx, hb, hml, hown, hts⟩ (m8_leastOn l D cyI cyZ tA tU mo0 mo1 mo2 mo3 mo4 mo5 mo6 mo7 mo8 mo9 mo10 mo11 mo12 mo13 mo14 mo15 mo16 mo17 mo18 mo19 mo x4 x3 F R7 e7) (cwV 2 hts gX8_digest_X8_leastOn rfl rfl rfl (by decide +kernel) ⟨Nat.le_of_ble_eq_true rfl, Nat.le_of_ble_eq_true rfl⟩) (hpRV hE hS hK hP (va_recv hK hP (ci := 8) (q0 := 0) rfl rfl)) rfl rfl hl.1 rfl (lv_room (Nat.le_of_ble_eq_true rfl)) dX8_digest_51 ⟨Nat.zero_le _, Nat.zero_le _⟩) ?_
            refine lv_i2l (v := (Int32.toInt64 R7)) hx hb dX8_digest_54 rfl ?_
            refine lv_ladd hx hb dX8_digest_55 ?_
            refine lv_lstore_n (lv' := [(1, .long (((31 : Int64) * x1) + (Int32.toInt64 R7))), (0, .ref mo0), (3, .int x3), (4, .int x4)]) hx hb dX8_digest_56 rfl hl (by decide) rfl (fun ls hl => ?_)
            refine lv_iinc (v := (x4 + 1)) (lv' := [(4, .int (x4 + 1)), (1, .long (((31 : Int64) * x1) + (Int32.toInt64 R7))), (0, .ref mo0), (3, .int x3)]) hx hb dX8_digest_57 hl (k := 3) rfl rfl (by decide) rfl (fun ls hl => ?_)
            refine lv_goto (tgt := 33) hx hb dX8_digest_60 (by decide) ?_
            exact ih33 (((31 : Int64) * x1) + (Int32.toInt64 R7)) (x4 + 1) _ h (lv_sub hl [2, 1, 3, 0] rfl)
      intro x1 x3 ls h hl
      rw [x8_digest_L22] at h
      refine lv_iload_n hx hb dX8_digest_22 rfl (lv_at hl 2 rfl) ?_
      refine lv_aload_n hx hb dX8_digest_23 rfl (lv_at hl 0 rfl) ?_
      refine va_get (D := D) (ci := 8) (v := .int (SMo.f_high mo)) (C := RX8) (T := TX8) (N := 33) hx hb hts inX8 hown hK hP 0 rfl rfl 3 (by decide) k4 (fun _ h9 => h9) rfl dX8_digest_24 ?_
      refine lv_icmp_ge (tgt := 69) hx hb dX8_digest_27 (by decide) (fun c8 => ?_) (fun c8 => ?_)
      · replace h := ite_t c8 h
        refine lv_iconst (v := (0 : Int32)) hx hb dX8_digest_69 (by decide) ?_
        refine lv_istore_n (lv' := [(3, .int (0 : Int32)), (0, .ref mo0), (1, .long x1)]) hx hb dX8_digest_70 rfl hl (by decide) rfl (fun ls hl => ?_)
        exact L71 F x1 (0 : Int32) _ h (lv_sub hl [1, 2, 0] rfl)
      · replace h := ite_f c8 h
        refine lv_iconst (v := (0 : Int32)) hx hb dX8_digest_30 (by decide) ?_
        refine lv_istore (lv' := [(4, .int (0 : Int32)), (0, .ref mo0), (1, .long x1), (3, .int x3)]) hx hb dX8_digest_31 hl (by decide) rfl (fun ls hl => ?_)
        exact L33 x3 F x1 (0 : Int32) _ h (lv_sub hl [1, 2, 3, 0] rfl)
  refine lv_ldc2 (v := (31 : Int64)) hx hb hown k1 dX8_digest_0 ?_
  refine lv_ldc2 (v := (527 : Int64)) hx hb hown k2 dX8_digest_3 ?_
  refine lv_aload_n hx hb dX8_digest_6 rfl (lv_at hl 0 rfl) ?_
  refine va_get (D := D) (ci := 8) (v := .int (SMo.f_wide mo)) (C := RX8) (T := TX8) (N := 33) hx hb hts inX8 hown hK hP 0 rfl rfl 2 (by decide) k3 (fun _ h9 => h9) rfl dX8_digest_7 ?_
  refine lv_i2l (v := (Int32.toInt64 (SMo.f_wide mo))) hx hb dX8_digest_10 rfl ?_
  refine lv_ladd hx hb dX8_digest_11 ?_
  refine lv_lmul hx hb dX8_digest_12 ?_
  refine lv_aload_n hx hb dX8_digest_13 rfl (lv_at hl 0 rfl) ?_
  refine va_get (D := D) (ci := 8) (v := .int (SMo.f_high mo)) (C := RX8) (T := TX8) (N := 33) hx hb hts inX8 hown hK hP 0 rfl rfl 3 (by decide) k4 (fun _ h9 => h9) rfl dX8_digest_14 ?_
  refine lv_i2l (v := (Int32.toInt64 (SMo.f_high mo))) hx hb dX8_digest_17 rfl ?_
  refine lv_ladd hx hb dX8_digest_18 ?_
  refine lv_lstore_n (lv' := [(1, .long (((31 : Int64) * ((527 : Int64) + (Int32.toInt64 (SMo.f_wide mo)))) + (Int32.toInt64 (SMo.f_high mo)))), (0, .ref mo0)]) hx hb dX8_digest_19 rfl hl (by decide) rfl (fun ls hl => ?_)
  refine lv_iconst (v := (0 : Int32)) hx hb dX8_digest_20 (by decide) ?_
  refine lv_istore_n (lv' := [(3, .int (0 : Int32)), (1, .long (((31 : Int64) * ((527 : Int64) + (Int32.toInt64 (SMo.f_wide mo)))) + (Int32.toInt64 (SMo.f_high mo)))), (0, .ref mo0)]) hx hb dX8_digest_21 rfl hl (by decide) rfl (fun ls hl => ?_)
  exact L22 F (((31 : Int64) * ((527 : Int64) + (Int32.toInt64 (SMo.f_wide mo)))) + (Int32.toInt64 (SMo.f_high mo))) (0 : Int32) _ h (lv_sub hl [2, 1, 0] rfl)
