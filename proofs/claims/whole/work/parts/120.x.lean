/-! the methods as functions: Option: none where the machine would throw, or the fuel F ends -/
def j6_bitCount (p0 : Int32) : Option (Int32) :=
  some ((((((((p0 - (((Int32.toUInt32 p0 >>> (Int32.toUInt32 (1 : Int32) &&& Int32.toUInt32 31)).toInt32) &&& (1431655765 : Int32))) &&& (858993459 : Int32)) + (((Int32.toUInt32 (p0 - (((Int32.toUInt32 p0 >>> (Int32.toUInt32 (1 : Int32) &&& Int32.toUInt32 31)).toInt32) &&& (1431655765 : Int32))) >>> (Int32.toUInt32 (2 : Int32) &&& Int32.toUInt32 31)).toInt32) &&& (858993459 : Int32))) + ((Int32.toUInt32 (((p0 - (((Int32.toUInt32 p0 >>> (Int32.toUInt32 (1 : Int32) &&& Int32.toUInt32 31)).toInt32) &&& (1431655765 : Int32))) &&& (858993459 : Int32)) + (((Int32.toUInt32 (p0 - (((Int32.toUInt32 p0 >>> (Int32.toUInt32 (1 : Int32) &&& Int32.toUInt32 31)).toInt32) &&& (1431655765 : Int32))) >>> (Int32.toUInt32 (2 : Int32) &&& Int32.toUInt32 31)).toInt32) &&& (858993459 : Int32))) >>> (Int32.toUInt32 (4 : Int32) &&& Int32.toUInt32 31)).toInt32)) &&& (252645135 : Int32)) + ((Int32.toUInt32 (((((p0 - (((Int32.toUInt32 p0 >>> (Int32.toUInt32 (1 : Int32) &&& Int32.toUInt32 31)).toInt32) &&& (1431655765 : Int32))) &&& (858993459 : Int32)) + (((Int32.toUInt32 (p0 - (((Int32.toUInt32 p0 >>> (Int32.toUInt32 (1 : Int32) &&& Int32.toUInt32 31)).toInt32) &&& (1431655765 : Int32))) >>> (Int32.toUInt32 (2 : Int32) &&& Int32.toUInt32 31)).toInt32) &&& (858993459 : Int32))) + ((Int32.toUInt32 (((p0 - (((Int32.toUInt32 p0 >>> (Int32.toUInt32 (1 : Int32) &&& Int32.toUInt32 31)).toInt32) &&& (1431655765 : Int32))) &&& (858993459 : Int32)) + (((Int32.toUInt32 (p0 - (((Int32.toUInt32 p0 >>> (Int32.toUInt32 (1 : Int32) &&& Int32.toUInt32 31)).toInt32) &&& (1431655765 : Int32))) >>> (Int32.toUInt32 (2 : Int32) &&& Int32.toUInt32 31)).toInt32) &&& (858993459 : Int32))) >>> (Int32.toUInt32 (4 : Int32) &&& Int32.toUInt32 31)).toInt32)) &&& (252645135 : Int32)) >>> (Int32.toUInt32 (8 : Int32) &&& Int32.toUInt32 31)).toInt32)) + ((Int32.toUInt32 ((((((p0 - (((Int32.toUInt32 p0 >>> (Int32.toUInt32 (1 : Int32) &&& Int32.toUInt32 31)).toInt32) &&& (1431655765 : Int32))) &&& (858993459 : Int32)) + (((Int32.toUInt32 (p0 - (((Int32.toUInt32 p0 >>> (Int32.toUInt32 (1 : Int32) &&& Int32.toUInt32 31)).toInt32) &&& (1431655765 : Int32))) >>> (Int32.toUInt32 (2 : Int32) &&& Int32.toUInt32 31)).toInt32) &&& (858993459 : Int32))) + ((Int32.toUInt32 (((p0 - (((Int32.toUInt32 p0 >>> (Int32.toUInt32 (1 : Int32) &&& Int32.toUInt32 31)).toInt32) &&& (1431655765 : Int32))) &&& (858993459 : Int32)) + (((Int32.toUInt32 (p0 - (((Int32.toUInt32 p0 >>> (Int32.toUInt32 (1 : Int32) &&& Int32.toUInt32 31)).toInt32) &&& (1431655765 : Int32))) >>> (Int32.toUInt32 (2 : Int32) &&& Int32.toUInt32 31)).toInt32) &&& (858993459 : Int32))) >>> (Int32.toUInt32 (4 : Int32) &&& Int32.toUInt32 31)).toInt32)) &&& (252645135 : Int32)) + ((Int32.toUInt32 (((((p0 - (((Int32.toUInt32 p0 >>> (Int32.toUInt32 (1 : Int32) &&& Int32.toUInt32 31)).toInt32) &&& (1431655765 : Int32))) &&& (858993459 : Int32)) + (((Int32.toUInt32 (p0 - (((Int32.toUInt32 p0 >>> (Int32.toUInt32 (1 : Int32) &&& Int32.toUInt32 31)).toInt32) &&& (1431655765 : Int32))) >>> (Int32.toUInt32 (2 : Int32) &&& Int32.toUInt32 31)).toInt32) &&& (858993459 : Int32))) + ((Int32.toUInt32 (((p0 - (((Int32.toUInt32 p0 >>> (Int32.toUInt32 (1 : Int32) &&& Int32.toUInt32 31)).toInt32) &&& (1431655765 : Int32))) &&& (858993459 : Int32)) + (((Int32.toUInt32 (p0 - (((Int32.toUInt32 p0 >>> (Int32.toUInt32 (1 : Int32) &&& Int32.toUInt32 31)).toInt32) &&& (1431655765 : Int32))) >>> (Int32.toUInt32 (2 : Int32) &&& Int32.toUInt32 31)).toInt32) &&& (858993459 : Int32))) >>> (Int32.toUInt32 (4 : Int32) &&& Int32.toUInt32 31)).toInt32)) &&& (252645135 : Int32)) >>> (Int32.toUInt32 (8 : Int32) &&& Int32.toUInt32 31)).toInt32)) >>> (Int32.toUInt32 (16 : Int32) &&& Int32.toUInt32 31)).toInt32)) &&& (63 : Int32))
def x7_isWithin (p0 : Int32) (p1 : Int32) (p2 : Int32) : Option (Int32) :=
  if p0 < p1 then (
    some (0 : Int32)
  ) else (
    if p2 < p0 then (
      some (0 : Int32)
    ) else (
      some (1 : Int32)
    )
  )
def x7_fillWith_L2 (F : Nat) (n : Nat) (p1 : Int32) : Nat → Int32 → (Nat → Int32) → Option ((Nat → Int32))
  | 0, _, _ => none
  | k + 1, x2, ar =>
    if (Int32.ofNat n) ≤ x2 then (
      some ar
    ) else (
      if ib x2 n = true then (
        x7_fillWith_L2 F n p1 k (x2 + 1) (upd ar (Int32.toNatClampNeg x2) p1)
      ) else none
    )
def x7_fillWith (F : Nat) (n : Nat) (ar : Nat → Int32) (p1 : Int32) : Option ((Nat → Int32)) :=
  x7_fillWith_L2 F n p1 F (0 : Int32) ar
def x0_raise (F : Nat) (bu : SBu) (p1 : Int32) (p2 : Int32) : Option (SBu) :=
  (x7_fillWith F 400 (SBu.f_squares bu) (0 : Int32)).bind fun R1 =>
  some (SBu.s_slot (SBu.s_kept (SBu.s_squares (SBu.s_outBits (SBu.s_doorBits (SBu.s_things (SBu.s_h (SBu.s_w bu p1) p2) (0 : Int32)) (0 : Int32)) (0 : Int32)) R1) (0 : Int32)) (0 : Int32))
def x7_house (F : Nat) (bu : SBu) (ph : SPh) (p1 : Int32) (p2 : Int32) : Option (Int32 × SBu × SPh) :=
  (x7_isWithin p1 (1 : Int32) (20 : Int32)).bind fun R1 =>
  if R1 = 0 then (
    some ((-1 : Int32), bu, ph)
  ) else (
    (x7_isWithin p2 (1 : Int32) (20 : Int32)).bind fun R3 =>
    if R3 = 0 then (
      some ((-1 : Int32), bu, ph)
    ) else (
      (x0_raise F bu p1 p2).bind fun R5 =>
      some ((p1 * p2), R5, (SPh.s_goalState (SPh.s_beginning ph (0 : Int32)) (0 : Int32)))
    )
  )
def x8_in (p0 : Int32) (p1 : Int32) (p2 : Int32) : Option (Int32) :=
  if p0 < p1 then (
    some (0 : Int32)
  ) else (
    if p2 < p0 then (
      some (0 : Int32)
    ) else (
      some (1 : Int32)
    )
  )
def x8_house_L76 (F : Nat) (mo : SMo) (p1 : Int32) (p2 : Int32) (mo_wide : Int32) (mo_high : Int32) (mo_things : Int32) (mo_doors : Int32) (mo_outs : Int32) (mo_squares : Nat → Int32) (mo_undos : Int32) : Nat → Int32 → (Nat → Int32) → Option (Int32 × SMo)
  | 0, _, _ => none
  | k + 1, x3, mo_ends =>
    if (6 : Int32) ≤ x3 then (
      some ((p1 * p2), (SMo.s_ends (SMo.s_undos (SMo.s_squares (SMo.s_outs (SMo.s_doors (SMo.s_things (SMo.s_high (SMo.s_wide mo mo_wide) mo_high) mo_things) mo_doors) mo_outs) mo_squares) mo_undos) mo_ends))
    ) else (
      if ib x3 6 = true then (
        x8_house_L76 F mo p1 p2 mo_wide mo_high mo_things mo_doors mo_outs mo_squares mo_undos k (x3 + 1) (upd mo_ends (Int32.toNatClampNeg x3) (0 : Int32))
      ) else none
    )
def x8_house_L54 (F : Nat) (mo : SMo) (p1 : Int32) (p2 : Int32) (mo_wide : Int32) (mo_high : Int32) (mo_things : Int32) (mo_doors : Int32) (mo_outs : Int32) (mo_undos : Int32) (mo_ends : Nat → Int32) : Nat → Int32 → (Nat → Int32) → Option (Int32 × SMo)
  | 0, _, _ => none
  | k + 1, x3, mo_squares =>
    if (400 : Int32) ≤ x3 then (
      x8_house_L76 F mo p1 p2 mo_wide mo_high mo_things mo_doors mo_outs mo_squares mo_undos F (0 : Int32) mo_ends
    ) else (
      if ib x3 400 = true then (
        x8_house_L54 F mo p1 p2 mo_wide mo_high mo_things mo_doors mo_outs mo_undos mo_ends k (x3 + 1) (upd mo_squares (Int32.toNatClampNeg x3) (0 : Int32))
      ) else none
    )
def x8_house (F : Nat) (mo : SMo) (p1 : Int32) (p2 : Int32) : Option (Int32 × SMo) :=
  (x8_in p1 (1 : Int32) (20 : Int32)).bind fun R5 =>
  if R5 = 0 then (
    some ((-1 : Int32), mo)
  ) else (
    (x8_in p2 (1 : Int32) (20 : Int32)).bind fun R7 =>
    if R7 = 0 then (
      some ((-1 : Int32), mo)
    ) else (
      x8_house_L54 F mo p1 p2 p1 p2 (0 : Int32) (0 : Int32) (0 : Int32) (0 : Int32) (SMo.f_ends mo) F (0 : Int32) (SMo.f_squares mo)
    )
  )
def x7_put (n : Nat) (ar : Nat → Int32) (p1 : Int32) (p2 : Int32) : Option ((Nat → Int32)) :=
  if p1 < 0 then (
    some ar
  ) else (
    if (Int32.ofNat n) ≤ p1 then (
      some ar
    ) else (
      if ib p1 n = true then (
        some (upd ar (Int32.toNatClampNeg p1) p2)
      ) else none
    )
  )
def x0_keep_L11 (F : Nat) (bu : SBu) (x1 : Int32) (bu_kept : Int32) (bu_slot : Int32) (bu_oldThings : Nat → Int32) (bu_oldDoorBits : Nat → Int32) (bu_oldOutBits : Nat → Int32) : Nat → Int32 → (Nat → Int32) → Option (SBu)
  | 0, _, _ => none
  | k + 1, x2, bu_oldSquares =>
    if (400 : Int32) ≤ x2 then (
      (x7_put 20 bu_oldThings bu_slot (SBu.f_things bu)).bind fun R2 =>
      (x7_put 20 bu_oldDoorBits bu_slot (SBu.f_doorBits bu)).bind fun R3 =>
      (x7_put 20 bu_oldOutBits bu_slot (SBu.f_outBits bu)).bind fun R4 =>
      some (SBu.s_oldOutBits (SBu.s_oldDoorBits (SBu.s_oldThings (SBu.s_oldSquares (SBu.s_slot (SBu.s_kept bu (mmin (bu_kept + (1 : Int32)) (20 : Int32))) ((bu_slot + (1 : Int32)) - (bu_slot + (1 : Int32)) / (20 : Int32) * (20 : Int32))) bu_oldSquares) R2) R3) R4)
    ) else (
      if ib x2 400 = true then (
        (x7_put 8000 bu_oldSquares (x1 + x2) ((SBu.f_squares bu) (Int32.toNatClampNeg x2))).bind fun R7 =>
        x0_keep_L11 F bu x1 bu_kept bu_slot bu_oldThings bu_oldDoorBits bu_oldOutBits k (x2 + 1) R7
      ) else none
    )
def x0_keep (F : Nat) (bu : SBu) : Option (SBu) :=
  x0_keep_L11 F bu ((SBu.f_slot bu) * (400 : Int32)) (SBu.f_kept bu) (SBu.f_slot bu) (SBu.f_oldThings bu) (SBu.f_oldDoorBits bu) (SBu.f_oldOutBits bu) F (0 : Int32) (SBu.f_oldSquares bu)
def x0_addThing (bu : SBu) (p1 : Int32) : Option (Int32 × SBu) :=
  if p1 = 0 then (
    some ((((SBu.f_things bu) + (1 : Int32)) - (1 : Int32)), (SBu.s_things bu ((SBu.f_things bu) + (1 : Int32))))
  ) else (
    some ((((SBu.f_things bu) + (1 : Int32)) - (1 : Int32)), (SBu.s_doorBits (SBu.s_things bu ((SBu.f_things bu) + (1 : Int32))) ((SBu.f_doorBits bu) ||| ((1 : Int32) <<< ((SBu.f_things bu) &&& 31)))))
  )
def x7_thing (F : Nat) (bu : SBu) (ph : SPh) (p1 : Int32) : Option (Int32 × SBu) :=
  if (SBu.f_things bu) < (12 : Int32) then (
    if p1 = 0 then (
      (x0_keep F bu).bind fun R3 =>
      (x0_addThing R3 p1).bind fun R4 =>
      some ((R4.1), (R4.2))
    ) else (
      (j6_bitCount (SBu.f_doorBits bu)).bind fun R5 =>
      if R5 < (6 : Int32) then (
        (x0_keep F bu).bind fun R7 =>
        (x0_addThing R7 p1).bind fun R8 =>
        some ((R8.1), (R8.2))
      ) else (
        some ((-2 : Int32), bu)
      )
    )
  ) else (
    some ((-2 : Int32), bu)
  )
def x8_bitsIn_L4 (F : Nat) (p0 : Int32) : Nat → Int32 → Int32 → Option (Int32)
  | 0, _, _ => none
  | k + 1, x1, x2 =>
    if (12 : Int32) ≤ x2 then (
      some x1
    ) else (
      x8_bitsIn_L4 F p0 k (x1 + ((p0 >>> (x2 &&& 31)) &&& (1 : Int32))) (x2 + 1)
    )
def x8_bitsIn (F : Nat) (p0 : Int32) : Option (Int32) :=
  x8_bitsIn_L4 F p0 F (0 : Int32) (0 : Int32)
def x8_keep_L149 (F : Nat) (mo : SMo) (mo_undos : Int32) (mo_keptThings : Nat → Int32) (mo_keptDoors : Nat → Int32) (mo_keptOuts : Nat → Int32) : Nat → Int32 → (Nat → Int32) → Option (SMo)
  | 0, _, _ => none
  | k + 1, x1, mo_keptSquares =>
    if (400 : Int32) ≤ x1 then (
      some (SMo.s_keptSquares (SMo.s_keptOuts (SMo.s_keptDoors (SMo.s_keptThings (SMo.s_undos mo (mo_undos + (1 : Int32))) mo_keptThings) mo_keptDoors) mo_keptOuts) mo_keptSquares)
    ) else (
      if ib x1 400 = true then (
        if ib (((400 : Int32) * mo_undos) + x1) 8000 = true then (
          x8_keep_L149 F mo mo_undos mo_keptThings mo_keptDoors mo_keptOuts k (x1 + 1) (upd mo_keptSquares (Int32.toNatClampNeg (((400 : Int32) * mo_undos) + x1)) ((SMo.f_squares mo) (Int32.toNatClampNeg x1)))
        ) else none
      ) else none
    )
def x8_keep_L69 (F : Nat) (mo : SMo) (mo_undos : Int32) (mo_keptThings : Nat → Int32) (mo_keptDoors : Nat → Int32) (mo_keptOuts : Nat → Int32) : Nat → Int32 → (Nat → Int32) → Option (SMo)
  | 0, _, _ => none
  | k + 1, x1, mo_keptSquares =>
    if (8000 : Int32) ≤ x1 then (
      if ib (mo_undos - (1 : Int32)) 20 = true then (
        if ib (mo_undos - (1 : Int32)) 20 = true then (
          if ib (mo_undos - (1 : Int32)) 20 = true then (
            x8_keep_L149 F mo (mo_undos - (1 : Int32)) (upd mo_keptThings (Int32.toNatClampNeg (mo_undos - (1 : Int32))) (SMo.f_things mo)) (upd mo_keptDoors (Int32.toNatClampNeg (mo_undos - (1 : Int32))) (SMo.f_doors mo)) (upd mo_keptOuts (Int32.toNatClampNeg (mo_undos - (1 : Int32))) (SMo.f_outs mo)) F (0 : Int32) mo_keptSquares
          ) else none
        ) else none
      ) else none
    ) else (
      if ib x1 8000 = true then (
        if ib (x1 - (400 : Int32)) 8000 = true then (
          x8_keep_L69 F mo mo_undos mo_keptThings mo_keptDoors mo_keptOuts k (x1 + 1) (upd mo_keptSquares (Int32.toNatClampNeg (x1 - (400 : Int32))) (mo_keptSquares (Int32.toNatClampNeg x1)))
        ) else none
      ) else none
    )
def x8_keep_L11 (F : Nat) (mo : SMo) (mo_undos : Int32) (mo_keptSquares : Nat → Int32) : Nat → Int32 → (Nat → Int32) → (Nat → Int32) → (Nat → Int32) → Option (SMo)
  | 0, _, _, _, _ => none
  | k + 1, x1, mo_keptThings, mo_keptDoors, mo_keptOuts =>
    if (20 : Int32) ≤ x1 then (
      x8_keep_L69 F mo mo_undos mo_keptThings mo_keptDoors mo_keptOuts F (400 : Int32) mo_keptSquares
    ) else (
      if ib x1 20 = true then (
        if ib (x1 - (1 : Int32)) 20 = true then (
          if ib x1 20 = true then (
            if ib (x1 - (1 : Int32)) 20 = true then (
              if ib x1 20 = true then (
                if ib (x1 - (1 : Int32)) 20 = true then (
                  x8_keep_L11 F mo mo_undos mo_keptSquares k (x1 + 1) (upd mo_keptThings (Int32.toNatClampNeg (x1 - (1 : Int32))) (mo_keptThings (Int32.toNatClampNeg x1))) (upd mo_keptDoors (Int32.toNatClampNeg (x1 - (1 : Int32))) (mo_keptDoors (Int32.toNatClampNeg x1))) (upd mo_keptOuts (Int32.toNatClampNeg (x1 - (1 : Int32))) (mo_keptOuts (Int32.toNatClampNeg x1)))
                ) else none
              ) else none
            ) else none
          ) else none
        ) else none
      ) else none
    )
def x8_keep (F : Nat) (mo : SMo) : Option (SMo) :=
  if (SMo.f_undos mo) = (20 : Int32) then (
    x8_keep_L11 F mo (SMo.f_undos mo) (SMo.f_keptSquares mo) F (1 : Int32) (SMo.f_keptThings mo) (SMo.f_keptDoors mo) (SMo.f_keptOuts mo)
  ) else (
    if ib (SMo.f_undos mo) 20 = true then (
      if ib (SMo.f_undos mo) 20 = true then (
        if ib (SMo.f_undos mo) 20 = true then (
          x8_keep_L149 F mo (SMo.f_undos mo) (upd (SMo.f_keptThings mo) (Int32.toNatClampNeg (SMo.f_undos mo)) (SMo.f_things mo)) (upd (SMo.f_keptDoors mo) (Int32.toNatClampNeg (SMo.f_undos mo)) (SMo.f_doors mo)) (upd (SMo.f_keptOuts mo) (Int32.toNatClampNeg (SMo.f_undos mo)) (SMo.f_outs mo)) F (0 : Int32) (SMo.f_keptSquares mo)
        ) else none
      ) else none
    ) else none
  )
def x8_thing (F : Nat) (mo : SMo) (p1 : Int32) : Option (Int32 × SMo) :=
  if (SMo.f_things mo) = (12 : Int32) then (
    some ((-2 : Int32), mo)
  ) else (
    if p1 = 0 then (
      (x8_keep F mo).bind fun R3 =>
      if p1 = 0 then (
        some ((((SMo.f_things R3) + (1 : Int32)) - (1 : Int32)), (SMo.s_doors (SMo.s_things R3 ((SMo.f_things R3) + (1 : Int32))) ((SMo.f_doors R3) ||| (0 : Int32))))
      ) else (
        some ((((SMo.f_things R3) + (1 : Int32)) - (1 : Int32)), (SMo.s_doors (SMo.s_things R3 ((SMo.f_things R3) + (1 : Int32))) ((SMo.f_doors R3) ||| ((1 : Int32) <<< ((SMo.f_things R3) &&& 31)))))
      )
    ) else (
      (x8_bitsIn F (SMo.f_doors mo)).bind fun R5 =>
      if R5 = (6 : Int32) then (
        some ((-2 : Int32), mo)
      ) else (
        (x8_keep F mo).bind fun R7 =>
        if p1 = 0 then (
          some ((((SMo.f_things R7) + (1 : Int32)) - (1 : Int32)), (SMo.s_doors (SMo.s_things R7 ((SMo.f_things R7) + (1 : Int32))) ((SMo.f_doors R7) ||| (0 : Int32))))
        ) else (
          some ((((SMo.f_things R7) + (1 : Int32)) - (1 : Int32)), (SMo.s_doors (SMo.s_things R7 ((SMo.f_things R7) + (1 : Int32))) ((SMo.f_doors R7) ||| ((1 : Int32) <<< ((SMo.f_things R7) &&& 31)))))
        )
      )
    )
  )
def x0_isThing (bu : SBu) (p1 : Int32) : Option (Int32) :=
  (x7_isWithin p1 (0 : Int32) ((SBu.f_things bu) - (1 : Int32))).bind fun R1 =>
  if bo R1 = true then some R1 else none
def x0_isSquare (bu : SBu) (p1 : Int32) (p2 : Int32) : Option (Int32) :=
  (x7_isWithin p1 (0 : Int32) ((SBu.f_w bu) - (1 : Int32))).bind fun R1 =>
  if R1 = 0 then (
    some (0 : Int32)
  ) else (
    (x7_isWithin p2 (0 : Int32) ((SBu.f_h bu) - (1 : Int32))).bind fun R3 =>
    if R3 = 0 then (
      some (0 : Int32)
    ) else (
      some (1 : Int32)
    )
  )
def x0_squareIndex (p0 : Int32) (p1 : Int32) : Option (Int32) :=
  some ((p1 * (20 : Int32)) + p0)
def x7_at (n : Nat) (ar : Nat → Int32) (p1 : Int32) : Option (Int32) :=
  if p1 < 0 then (
    some (0 : Int32)
  ) else (
    if (Int32.ofNat n) ≤ p1 then (
      some (0 : Int32)
    ) else (
      if ib p1 n = true then (
        some (ar (Int32.toNatClampNeg p1))
      ) else none
    )
  )
def x0_cover_L39 (F : Nat) (bu : SBu) (p1 : Int32) (p2 : Int32) (x6 : Int32) (x7 : Int32) (x8 : Int32) (o29 : Int32 → (Nat → Int32) → Option (SBu)) : Nat → Int32 → (Nat → Int32) → Option (SBu)
  | 0, _, _ => none
  | k + 1, x9, bu_squares =>
    if x6 ≤ x9 then (
      o29 (x8 + 1) bu_squares
    ) else (
      (x0_squareIndex x9 x8).bind fun R2 =>
      (x7_at 400 bu_squares R2).bind fun R3 =>
      (x7_put 400 bu_squares R2 (R3 ||| ((1 : Int32) <<< (p1 &&& 31)))).bind fun R4 =>
      x0_cover_L39 F bu p1 p2 x6 x7 x8 o29 k (x9 + 1) R4
    )
def x0_cover_L29 (F : Nat) (bu : SBu) (p1 : Int32) (p2 : Int32) (x6 : Int32) (x7 : Int32) : Nat → Int32 → (Nat → Int32) → Option (SBu)
  | 0, _, _ => none
  | k + 1, x8, bu_squares =>
    if x7 ≤ x8 then (
      some (SBu.s_squares bu bu_squares)
    ) else (
      x0_cover_L39 F bu p1 p2 x6 x7 x8 (x0_cover_L29 F bu p1 p2 x6 x7 k) F p2 bu_squares
    )
def x0_cover (F : Nat) (bu : SBu) (p1 : Int32) (p2 : Int32) (p3 : Int32) (p4 : Int32) (p5 : Int32) : Option (SBu) :=
  x0_cover_L29 F bu p1 p2 (mmin (p2 + p4) (SBu.f_w bu)) (mmin (p3 + p5) (SBu.f_h bu)) F p3 (SBu.f_squares bu)
def x0_squaresOf_L4 (F : Nat) (bu : SBu) (p1 : Int32) : Nat → Int32 → Int32 → Option (Int32)
  | 0, _, _ => none
  | k + 1, x2, x3 =>
    if (400 : Int32) ≤ x3 then (
      some x2
    ) else (
      if ib x3 400 = true then (
        x0_squaresOf_L4 F bu p1 k (x2 + ((((SBu.f_squares bu) (Int32.toNatClampNeg x3)) >>> (p1 &&& 31)) &&& (1 : Int32))) (x3 + 1)
      ) else none
    )
def x0_squaresOf (F : Nat) (bu : SBu) (p1 : Int32) : Option (Int32) :=
  x0_squaresOf_L4 F bu p1 F (0 : Int32) (0 : Int32)
def x7_fill (F : Nat) (bu : SBu) (ph : SPh) (p1 : Int32) (p2 : Int32) (p3 : Int32) (p4 : Int32) (p5 : Int32) : Option (Int32 × SBu) :=
  (x0_isThing bu p1).bind fun R1 =>
  if R1 = 0 then (
    some ((-1 : Int32), bu)
  ) else (
    (x0_isSquare bu p2 p3).bind fun R3 =>
    if R3 = 0 then (
      some ((-1 : Int32), bu)
    ) else (
      (x7_isWithin p4 (1 : Int32) (20 : Int32)).bind fun R5 =>
      if R5 = 0 then (
        some ((-1 : Int32), bu)
      ) else (
        (x7_isWithin p5 (1 : Int32) (20 : Int32)).bind fun R7 =>
        if R7 = 0 then (
          some ((-1 : Int32), bu)
        ) else (
          (x0_keep F bu).bind fun R9 =>
          (x0_cover F R9 p1 p2 p3 p4 p5).bind fun R10 =>
          (x0_squaresOf F R10 p1).bind fun R11 =>
          some (R11, R10)
        )
      )
    )
  )
def x8_isThing (mo : SMo) (p1 : Int32) : Option (Int32) :=
  (x8_in p1 (0 : Int32) ((SMo.f_things mo) - (1 : Int32))).bind fun R1 =>
  if bo R1 = true then some R1 else none
def x8_isSquare (mo : SMo) (p1 : Int32) (p2 : Int32) : Option (Int32) :=
  (x8_in p1 (0 : Int32) ((SMo.f_wide mo) - (1 : Int32))).bind fun R1 =>
  if R1 = 0 then (
    some (0 : Int32)
  ) else (
    (x8_in p2 (0 : Int32) ((SMo.f_high mo) - (1 : Int32))).bind fun R3 =>
    if R3 = 0 then (
      some (0 : Int32)
    ) else (
      some (1 : Int32)
    )
  )
def x8_fill_L63 (F : Nat) (p1 : Int32) (p2 : Int32) (p3 : Int32) (p4 : Int32) (p5 : Int32) (x7 : Int32) (o51 : Int32 → Int32 → SMo → Option (Int32 × SMo)) : Nat → Int32 → Int32 → SMo → Option (Int32 × SMo)
  | 0, _, _, _ => none
  | k + 1, x6, x8, mo =>
    if (SMo.f_wide mo) ≤ x8 then (
      o51 x6 (x7 + 1) mo
    ) else (
      if x8 < p2 then (
        if ib (((20 : Int32) * x7) + x8) 400 = true then (
          if ib (((20 : Int32) * x7) + x8) 400 = true then (
            if ib (((20 : Int32) * x7) + x8) 400 = true then (
              x8_fill_L63 F p1 p2 p3 p4 p5 x7 o51 k (x6 + ((((upd (SMo.f_squares mo) (Int32.toNatClampNeg (((20 : Int32) * x7) + x8)) (((SMo.f_squares mo) (Int32.toNatClampNeg (((20 : Int32) * x7) + x8))) ||| (0 : Int32))) (Int32.toNatClampNeg (((20 : Int32) * x7) + x8))) >>> (p1 &&& 31)) &&& (1 : Int32))) (x8 + 1) (SMo.s_squares mo (upd (SMo.f_squares mo) (Int32.toNatClampNeg (((20 : Int32) * x7) + x8)) (((SMo.f_squares mo) (Int32.toNatClampNeg (((20 : Int32) * x7) + x8))) ||| (0 : Int32))))
            ) else none
          ) else none
        ) else none
      ) else (
        if (p2 + p4) ≤ x8 then (
          if ib (((20 : Int32) * x7) + x8) 400 = true then (
            if ib (((20 : Int32) * x7) + x8) 400 = true then (
              if ib (((20 : Int32) * x7) + x8) 400 = true then (
                x8_fill_L63 F p1 p2 p3 p4 p5 x7 o51 k (x6 + ((((upd (SMo.f_squares mo) (Int32.toNatClampNeg (((20 : Int32) * x7) + x8)) (((SMo.f_squares mo) (Int32.toNatClampNeg (((20 : Int32) * x7) + x8))) ||| (0 : Int32))) (Int32.toNatClampNeg (((20 : Int32) * x7) + x8))) >>> (p1 &&& 31)) &&& (1 : Int32))) (x8 + 1) (SMo.s_squares mo (upd (SMo.f_squares mo) (Int32.toNatClampNeg (((20 : Int32) * x7) + x8)) (((SMo.f_squares mo) (Int32.toNatClampNeg (((20 : Int32) * x7) + x8))) ||| (0 : Int32))))
              ) else none
            ) else none
          ) else none
        ) else (
          if x7 < p3 then (
            if ib (((20 : Int32) * x7) + x8) 400 = true then (
              if ib (((20 : Int32) * x7) + x8) 400 = true then (
                if ib (((20 : Int32) * x7) + x8) 400 = true then (
                  x8_fill_L63 F p1 p2 p3 p4 p5 x7 o51 k (x6 + ((((upd (SMo.f_squares mo) (Int32.toNatClampNeg (((20 : Int32) * x7) + x8)) (((SMo.f_squares mo) (Int32.toNatClampNeg (((20 : Int32) * x7) + x8))) ||| (0 : Int32))) (Int32.toNatClampNeg (((20 : Int32) * x7) + x8))) >>> (p1 &&& 31)) &&& (1 : Int32))) (x8 + 1) (SMo.s_squares mo (upd (SMo.f_squares mo) (Int32.toNatClampNeg (((20 : Int32) * x7) + x8)) (((SMo.f_squares mo) (Int32.toNatClampNeg (((20 : Int32) * x7) + x8))) ||| (0 : Int32))))
                ) else none
              ) else none
            ) else none
          ) else (
            if (p3 + p5) ≤ x7 then (
              if ib (((20 : Int32) * x7) + x8) 400 = true then (
                if ib (((20 : Int32) * x7) + x8) 400 = true then (
                  if ib (((20 : Int32) * x7) + x8) 400 = true then (
                    x8_fill_L63 F p1 p2 p3 p4 p5 x7 o51 k (x6 + ((((upd (SMo.f_squares mo) (Int32.toNatClampNeg (((20 : Int32) * x7) + x8)) (((SMo.f_squares mo) (Int32.toNatClampNeg (((20 : Int32) * x7) + x8))) ||| (0 : Int32))) (Int32.toNatClampNeg (((20 : Int32) * x7) + x8))) >>> (p1 &&& 31)) &&& (1 : Int32))) (x8 + 1) (SMo.s_squares mo (upd (SMo.f_squares mo) (Int32.toNatClampNeg (((20 : Int32) * x7) + x8)) (((SMo.f_squares mo) (Int32.toNatClampNeg (((20 : Int32) * x7) + x8))) ||| (0 : Int32))))
                  ) else none
                ) else none
              ) else none
            ) else (
              if ib (((20 : Int32) * x7) + x8) 400 = true then (
                if ib (((20 : Int32) * x7) + x8) 400 = true then (
                  if ib (((20 : Int32) * x7) + x8) 400 = true then (
                    x8_fill_L63 F p1 p2 p3 p4 p5 x7 o51 k (x6 + ((((upd (SMo.f_squares mo) (Int32.toNatClampNeg (((20 : Int32) * x7) + x8)) (((SMo.f_squares mo) (Int32.toNatClampNeg (((20 : Int32) * x7) + x8))) ||| ((1 : Int32) <<< (p1 &&& 31)))) (Int32.toNatClampNeg (((20 : Int32) * x7) + x8))) >>> (p1 &&& 31)) &&& (1 : Int32))) (x8 + 1) (SMo.s_squares mo (upd (SMo.f_squares mo) (Int32.toNatClampNeg (((20 : Int32) * x7) + x8)) (((SMo.f_squares mo) (Int32.toNatClampNeg (((20 : Int32) * x7) + x8))) ||| ((1 : Int32) <<< (p1 &&& 31)))))
                  ) else none
                ) else none
              ) else none
            )
          )
        )
      )
    )
def x8_fill_L51 (F : Nat) (p1 : Int32) (p2 : Int32) (p3 : Int32) (p4 : Int32) (p5 : Int32) : Nat → Int32 → Int32 → SMo → Option (Int32 × SMo)
  | 0, _, _, _ => none
  | k + 1, x6, x7, mo =>
    if (SMo.f_high mo) ≤ x7 then (
      some (x6, mo)
    ) else (
      x8_fill_L63 F p1 p2 p3 p4 p5 x7 (x8_fill_L51 F p1 p2 p3 p4 p5 k) F x6 (0 : Int32) mo
    )
def x8_fill (F : Nat) (mo : SMo) (p1 : Int32) (p2 : Int32) (p3 : Int32) (p4 : Int32) (p5 : Int32) : Option (Int32 × SMo) :=
  (x8_isThing mo p1).bind fun R27 =>
  if R27 = 0 then (
    some ((-1 : Int32), mo)
  ) else (
    (x8_isSquare mo p2 p3).bind fun R29 =>
    if R29 = 0 then (
      some ((-1 : Int32), mo)
    ) else (
      (x8_in p4 (1 : Int32) (20 : Int32)).bind fun R31 =>
      if R31 = 0 then (
        some ((-1 : Int32), mo)
      ) else (
        (x8_in p5 (1 : Int32) (20 : Int32)).bind fun R33 =>
        if R33 = 0 then (
          some ((-1 : Int32), mo)
        ) else (
          (x8_keep F mo).bind fun R35 =>
          x8_fill_L51 F p1 p2 p3 p4 p5 F (0 : Int32) (0 : Int32) R35
        )
      )
    )
  )
def x0_bare (bu : SBu) (p1 : Int32) (p2 : Int32) (p3 : Int32) : Option (Int32 × SBu) :=
  (x0_squareIndex p2 p3).bind fun R1 =>
  (x7_at 400 (SBu.f_squares bu) R1).bind fun R2 =>
  (x7_put 400 (SBu.f_squares bu) R1 (R2 &&& (((1 : Int32) <<< (p1 &&& 31)) ^^^ (-1 : Int32)))).bind fun R3 =>
  if ((R2 >>> (p1 &&& 31)) &&& (1 : Int32)) = (1 : Int32) then (
    some ((1 : Int32), (SBu.s_squares bu R3))
  ) else (
    some ((0 : Int32), (SBu.s_squares bu R3))
  )
def x7_clear (F : Nat) (bu : SBu) (ph : SPh) (p1 : Int32) (p2 : Int32) (p3 : Int32) : Option (Int32 × SBu) :=
  (x0_isThing bu p1).bind fun R1 =>
  if R1 = 0 then (
    some ((-1 : Int32), bu)
  ) else (
    (x0_isSquare bu p2 p3).bind fun R3 =>
    if R3 = 0 then (
      some ((-1 : Int32), bu)
    ) else (
      (x0_keep F bu).bind fun R5 =>
      (x0_bare R5 p1 p2 p3).bind fun R6 =>
      if (R6.1) = 0 then (
        some ((0 : Int32), (R6.2))
      ) else (
        some ((1 : Int32), (R6.2))
      )
    )
  )
def x8_clear (F : Nat) (mo : SMo) (p1 : Int32) (p2 : Int32) (p3 : Int32) : Option (Int32 × SMo) :=
  (x8_isThing mo p1).bind fun R1 =>
  if R1 = 0 then (
    some ((-1 : Int32), mo)
  ) else (
    (x8_isSquare mo p2 p3).bind fun R3 =>
    if R3 = 0 then (
      some ((-1 : Int32), mo)
    ) else (
      (x8_keep F mo).bind fun R5 =>
      if ib (((20 : Int32) * p3) + p2) 400 = true then (
        if ib (((20 : Int32) * p3) + p2) 400 = true then (
          if ib (((20 : Int32) * p3) + p2) 400 = true then (
            some (((((SMo.f_squares R5) (Int32.toNatClampNeg (((20 : Int32) * p3) + p2))) >>> (p1 &&& 31)) &&& (1 : Int32)), (SMo.s_squares R5 (upd (SMo.f_squares R5) (Int32.toNatClampNeg (((20 : Int32) * p3) + p2)) (((SMo.f_squares R5) (Int32.toNatClampNeg (((20 : Int32) * p3) + p2))) &&& (((1 : Int32) <<< (p1 &&& 31)) ^^^ (-1 : Int32))))))
          ) else none
        ) else none
      ) else none
    )
  )
def x0_isDoor (bu : SBu) (p1 : Int32) : Option (Int32) :=
  if (((SBu.f_doorBits bu) >>> (p1 &&& 31)) &&& (1 : Int32)) = (1 : Int32) then (
    some (1 : Int32)
  ) else (
    some (0 : Int32)
  )
def x0_putOut (bu : SBu) (p1 : Int32) (p2 : Int32) : Option (Int32 × SBu) :=
  if (((SBu.f_outBits bu) >>> (p1 &&& 31)) &&& (1 : Int32)) = (1 : Int32) then (
    if p2 = 0 then (
      some ((1 : Int32), (SBu.s_outBits bu ((SBu.f_outBits bu) &&& (((1 : Int32) <<< (p1 &&& 31)) ^^^ (-1 : Int32)))))
    ) else (
      some ((1 : Int32), (SBu.s_outBits bu ((SBu.f_outBits bu) ||| ((1 : Int32) <<< (p1 &&& 31)))))
    )
  ) else (
    if p2 = 0 then (
      some ((0 : Int32), (SBu.s_outBits bu ((SBu.f_outBits bu) &&& (((1 : Int32) <<< (p1 &&& 31)) ^^^ (-1 : Int32)))))
    ) else (
      some ((0 : Int32), (SBu.s_outBits bu ((SBu.f_outBits bu) ||| ((1 : Int32) <<< (p1 &&& 31)))))
    )
  )
def x7_out (F : Nat) (bu : SBu) (ph : SPh) (p1 : Int32) (p2 : Int32) : Option (Int32 × SBu) :=
  (x0_isThing bu p1).bind fun R1 =>
  if R1 = 0 then (
    some ((-1 : Int32), bu)
  ) else (
    (x0_isDoor bu p1).bind fun R3 =>
    if R3 = 0 then (
      some ((-4 : Int32), bu)
    ) else (
      (x0_keep F bu).bind fun R5 =>
      (x0_putOut R5 p1 p2).bind fun R6 =>
      if (R6.1) = 0 then (
        some ((0 : Int32), (R6.2))
      ) else (
        some ((1 : Int32), (R6.2))
      )
    )
  )
def x8_out (F : Nat) (mo : SMo) (p1 : Int32) (p2 : Int32) : Option (Int32 × SMo) :=
  (x8_isThing mo p1).bind fun R1 =>
  if R1 = 0 then (
    some ((-1 : Int32), mo)
  ) else (
    if (((SMo.f_doors mo) >>> (p1 &&& 31)) &&& (1 : Int32)) = 0 then (
      some ((-4 : Int32), mo)
    ) else (
      (x8_keep F mo).bind fun R4 =>
      if p2 = 0 then (
        some ((((SMo.f_outs R4) >>> (p1 &&& 31)) &&& (1 : Int32)), (SMo.s_outs R4 ((SMo.f_outs R4) &&& (((1 : Int32) <<< (p1 &&& 31)) ^^^ (-1 : Int32)))))
      ) else (
        some ((((SMo.f_outs R4) >>> (p1 &&& 31)) &&& (1 : Int32)), (SMo.s_outs R4 ((SMo.f_outs R4) ||| ((1 : Int32) <<< (p1 &&& 31)))))
      )
    )
  )
def x0_goBack_L37 (F : Nat) (bu : SBu) (x1 : Int32) (bu_things : Int32) (bu_doorBits : Int32) (bu_outBits : Int32) (bu_kept : Int32) (bu_slot : Int32) : Nat → Int32 → (Nat → Int32) → Option (SBu)
  | 0, _, _ => none
  | k + 1, x2, bu_squares =>
    if (400 : Int32) ≤ x2 then (
      (x7_at 20 (SBu.f_oldThings bu) bu_slot).bind fun R2 =>
      (x7_at 20 (SBu.f_oldDoorBits bu) bu_slot).bind fun R3 =>
      (x7_at 20 (SBu.f_oldOutBits bu) bu_slot).bind fun R4 =>
      some (SBu.s_slot (SBu.s_kept (SBu.s_squares (SBu.s_outBits (SBu.s_doorBits (SBu.s_things bu R2) R3) R4) bu_squares) bu_kept) bu_slot)
    ) else (
      (x7_at 8000 (SBu.f_oldSquares bu) (x1 + x2)).bind fun R5 =>
      if ib x2 400 = true then (
        x0_goBack_L37 F bu x1 bu_things bu_doorBits bu_outBits bu_kept bu_slot k (x2 + 1) (upd bu_squares (Int32.toNatClampNeg x2) R5)
      ) else none
    )
def x0_goBack (F : Nat) (bu : SBu) : Option (SBu) :=
  x0_goBack_L37 F bu (((((SBu.f_slot bu) + (20 : Int32)) - (1 : Int32)) - (((SBu.f_slot bu) + (20 : Int32)) - (1 : Int32)) / (20 : Int32) * (20 : Int32)) * (400 : Int32)) (SBu.f_things bu) (SBu.f_doorBits bu) (SBu.f_outBits bu) ((SBu.f_kept bu) - (1 : Int32)) ((((SBu.f_slot bu) + (20 : Int32)) - (1 : Int32)) - (((SBu.f_slot bu) + (20 : Int32)) - (1 : Int32)) / (20 : Int32) * (20 : Int32)) F (0 : Int32) (SBu.f_squares bu)
def x7_undo (F : Nat) (bu : SBu) (ph : SPh) : Option (Int32 × SBu) :=
  if 0 < (SBu.f_kept bu) then (
    (x0_goBack F bu).bind fun R2 =>
    some ((SBu.f_kept R2), R2)
  ) else (
    some ((-4 : Int32), bu)
  )
def x8_undo_L61 (F : Nat) (mo : SMo) (mo_things : Int32) (mo_doors : Int32) (mo_outs : Int32) (mo_undos : Int32) : Nat → Int32 → (Nat → Int32) → Option (Int32 × SMo)
  | 0, _, _ => none
  | k + 1, x1, mo_squares =>
    if (400 : Int32) ≤ x1 then (
      some (mo_undos, (SMo.s_undos (SMo.s_squares (SMo.s_outs (SMo.s_doors (SMo.s_things mo mo_things) mo_doors) mo_outs) mo_squares) mo_undos))
    ) else (
      if ib (((400 : Int32) * mo_undos) + x1) 8000 = true then (
        if ib x1 400 = true then (
          x8_undo_L61 F mo mo_things mo_doors mo_outs mo_undos k (x1 + 1) (upd mo_squares (Int32.toNatClampNeg x1) ((SMo.f_keptSquares mo) (Int32.toNatClampNeg (((400 : Int32) * mo_undos) + x1))))
        ) else none
      ) else none
    )
def x8_undo (F : Nat) (mo : SMo) : Option (Int32 × SMo) :=
  if (SMo.f_undos mo) = 0 then (
    some ((-4 : Int32), mo)
  ) else (
    if ib ((SMo.f_undos mo) - (1 : Int32)) 20 = true then (
      if ib ((SMo.f_undos mo) - (1 : Int32)) 20 = true then (
        if ib ((SMo.f_undos mo) - (1 : Int32)) 20 = true then (
          x8_undo_L61 F mo ((SMo.f_keptThings mo) (Int32.toNatClampNeg ((SMo.f_undos mo) - (1 : Int32)))) ((SMo.f_keptDoors mo) (Int32.toNatClampNeg ((SMo.f_undos mo) - (1 : Int32)))) ((SMo.f_keptOuts mo) (Int32.toNatClampNeg ((SMo.f_undos mo) - (1 : Int32)))) ((SMo.f_undos mo) - (1 : Int32)) F (0 : Int32) (SMo.f_squares mo)
        ) else none
      ) else none
    ) else none
  )
def x0_thingsOn (bu : SBu) (p1 : Int32) (p2 : Int32) : Option (Int32) :=
  (x0_isSquare bu p1 p2).bind fun R1 =>
  if R1 = 0 then (
    some (0 : Int32)
  ) else (
    (x0_squareIndex p1 p2).bind fun R3 =>
    (x7_at 400 (SBu.f_squares bu) R3).bind fun R4 =>
    some (R4 &&& ((SBu.f_outBits bu) ^^^ (-1 : Int32)))
  )
def x7_open (bu : SBu) (ph : SPh) (p1 : Int32) (p2 : Int32) : Option (Int32) :=
  (x0_isSquare bu p1 p2).bind fun R1 =>
  if R1 = 0 then (
    some (-1 : Int32)
  ) else (
    (x0_thingsOn bu p1 p2).bind fun R3 =>
    if R3 = 0 then (
      some (1 : Int32)
    ) else (
      some (0 : Int32)
    )
  )
def x8_open (mo : SMo) (p1 : Int32) (p2 : Int32) : Option (Int32) :=
  (x8_isSquare mo p1 p2).bind fun R1 =>
  if R1 = 0 then (
    some (-1 : Int32)
  ) else (
    if ib (((20 : Int32) * p2) + p1) 400 = true then (
      if (((SMo.f_squares mo) (Int32.toNatClampNeg (((20 : Int32) * p2) + p1))) &&& ((SMo.f_outs mo) ^^^ (-1 : Int32))) = 0 then (
        some (1 : Int32)
      ) else (
        some (0 : Int32)
      )
    ) else none
  )
def x7_leastOf_L2 (F : Nat) (p0 : Int32) : Nat → Int32 → Option (Int32)
  | 0, _ => none
  | k + 1, x1 =>
    if (12 : Int32) ≤ x1 then (
      some (-9 : Int32)
    ) else (
      if ((p0 >>> (x1 &&& 31)) &&& (1 : Int32)) = (1 : Int32) then (
        some x1
      ) else (
        x7_leastOf_L2 F p0 k (x1 + 1)
      )
    )
def x7_leastOf (F : Nat) (p0 : Int32) : Option (Int32) :=
  x7_leastOf_L2 F p0 F (0 : Int32)
def x7_on (F : Nat) (bu : SBu) (ph : SPh) (p1 : Int32) (p2 : Int32) : Option (Int32) :=
  (x0_isSquare bu p1 p2).bind fun R1 =>
  if R1 = 0 then (
    some (-1 : Int32)
  ) else (
    (x0_thingsOn bu p1 p2).bind fun R3 =>
    (x7_leastOf F R3).bind fun R4 =>
    some R4
  )
def x8_leastOn_L2 (F : Nat) (mo : SMo) (p1 : Int32) (p2 : Int32) : Nat → Int32 → Option (Int32)
  | 0, _ => none
  | k + 1, x3 =>
    if (SMo.f_things mo) ≤ x3 then (
      some (-9 : Int32)
    ) else (
      if ib (((20 : Int32) * p2) + p1) 400 = true then (
        if (((((SMo.f_squares mo) (Int32.toNatClampNeg (((20 : Int32) * p2) + p1))) &&& ((SMo.f_outs mo) ^^^ (-1 : Int32))) >>> (x3 &&& 31)) &&& (1 : Int32)) = (1 : Int32) then (
          some x3
        ) else (
          x8_leastOn_L2 F mo p1 p2 k (x3 + 1)
        )
      ) else none
    )
def x8_leastOn (F : Nat) (mo : SMo) (p1 : Int32) (p2 : Int32) : Option (Int32) :=
  x8_leastOn_L2 F mo p1 p2 F (0 : Int32)
def x8_on (F : Nat) (mo : SMo) (p1 : Int32) (p2 : Int32) : Option (Int32) :=
  (x8_isSquare mo p1 p2).bind fun R1 =>
  if R1 = 0 then (
    some (-1 : Int32)
  ) else (
    (x8_leastOn F mo p1 p2).bind fun R3 =>
    some R3
  )
def x7_find (ph : SPh) (p1 : Int32) : Option (Int32 × SPh) :=
  (x7_at 5 (SPh.f_findingCounts ph) p1).bind fun R1 =>
  (x7_put 5 (SPh.f_findingCounts ph) p1 (R1 + (1 : Int32))).bind fun R2 =>
  some ((-3 : Int32), (SPh.s_findingCounts (SPh.s_latestFinding ph p1) R2))
def x2_startOver (F : Nat) (lo : SLo) (p1 : Int32) : Option (SLo) :=
  (x7_fillWith F 6 (SLo.f_bits lo) (-9 : Int32)).bind fun R1 =>
  some (SLo.s_bits (SLo.s_count lo p1) R1)
def x7_rows (F : Nat) (lo : SLo) (ph : SPh) (p1 : Int32) : Option (Int32 × SLo × SPh) :=
  if p1 ≤ (6 : Int32) then (
    if 0 ≤ p1 then (
      (x2_startOver F lo p1).bind fun R3 =>
      some (p1, R3, ph)
    ) else (
      (x7_find ph (4 : Int32)).bind fun R4 =>
      some ((R4.1), lo, (R4.2))
    )
  ) else (
    some ((-1 : Int32), lo, ph)
  )
def x8_meets (mo : SMo) (p1 : Int32) : Option (Int32 × SMo) :=
  if ib p1 5 = true then (
    if ib p1 5 = true then (
      some ((-3 : Int32), (SMo.s_findings (SMo.s_finding mo p1) (upd (SMo.f_findings mo) (Int32.toNatClampNeg p1) (((SMo.f_findings mo) (Int32.toNatClampNeg p1)) + (1 : Int32)))))
    ) else none
  ) else none
def x8_rows_L25 (F : Nat) (p1 : Int32) : Nat → Int32 → SMo → Option (Int32 × SMo)
  | 0, _, _ => none
  | k + 1, x2, mo =>
    if (6 : Int32) ≤ x2 then (
      some (p1, mo)
    ) else (
      if ib x2 6 = true then (
        x8_rows_L25 F p1 k (x2 + 1) (SMo.s_rows mo (upd (SMo.f_rows mo) (Int32.toNatClampNeg x2) (-9 : Int32)))
      ) else none
    )
def x8_rows (F : Nat) (mo : SMo) (p1 : Int32) : Option (Int32 × SMo) :=
  if p1 ≤ (6 : Int32) then (
    if 0 ≤ p1 then (
      x8_rows_L25 F p1 F (0 : Int32) (SMo.s_rowMany mo p1)
    ) else (
      (x8_meets mo (4 : Int32)).bind fun R5 =>
      some ((R5.1), (R5.2))
    )
  ) else (
    some ((-1 : Int32), mo)
  )
def x2_isRow (lo : SLo) (p1 : Int32) : Option (Int32) :=
  (x7_isWithin p1 (0 : Int32) ((SLo.f_count lo) - (1 : Int32))).bind fun R1 =>
  if bo R1 = true then some R1 else none
def x2_setBits (lo : SLo) (p1 : Int32) (p2 : Int32) : Option (SLo) :=
  (x7_put 6 (SLo.f_bits lo) p1 p2).bind fun R1 =>
  some (SLo.s_bits lo R1)
def x7_row (lo : SLo) (ph : SPh) (p1 : Int32) (p2 : Int32) : Option (Int32 × SLo × SPh) :=
  (x7_isWithin p2 (0 : Int32) (63 : Int32)).bind fun R1 =>
  if R1 = 0 then (
    some ((-1 : Int32), lo, ph)
  ) else (
    (x2_isRow lo p1).bind fun R3 =>
    if R3 = 0 then (
      (x7_find ph (2 : Int32)).bind fun R6 =>
      some ((R6.1), lo, (R6.2))
    ) else (
      (x2_setBits lo p1 p2).bind fun R5 =>
      some ((1 : Int32), R5, ph)
    )
  )
def x8_isRow (mo : SMo) (p1 : Int32) : Option (Int32) :=
  (x8_in p1 (0 : Int32) ((SMo.f_rowMany mo) - (1 : Int32))).bind fun R1 =>
  if bo R1 = true then some R1 else none
def x8_row (mo : SMo) (p1 : Int32) (p2 : Int32) : Option (Int32 × SMo) :=
  (x8_in p2 (0 : Int32) (63 : Int32)).bind fun R1 =>
  if R1 = 0 then (
    some ((-1 : Int32), mo)
  ) else (
    (x8_isRow mo p1).bind fun R3 =>
    if R3 = 0 then (
      (x8_meets mo (2 : Int32)).bind fun R6 =>
      some ((R6.1), (R6.2))
    ) else (
      if ib p1 6 = true then (
        some ((1 : Int32), (SMo.s_rows mo (upd (SMo.f_rows mo) (Int32.toNatClampNeg p1) p2)))
      ) else none
    )
  )
def x2_bitsOf (lo : SLo) (p1 : Int32) : Option (Int32) :=
  (x7_at 6 (SLo.f_bits lo) p1).bind fun R1 =>
  some R1
def x7_tear (lo : SLo) (ph : SPh) (p1 : Int32) : Option (Int32 × SLo × SPh) :=
  (x2_isRow lo p1).bind fun R1 =>
  if R1 = 0 then (
    (x7_find ph (2 : Int32)).bind fun R7 =>
    some ((R7.1), lo, (R7.2))
  ) else (
    (x2_bitsOf lo p1).bind fun R3 =>
    if R3 = (-9 : Int32) then (
      (x7_find ph (1 : Int32)).bind fun R6 =>
      some ((R6.1), lo, (R6.2))
    ) else (
      (x2_setBits lo p1 (-9 : Int32)).bind fun R5 =>
      some ((1 : Int32), R5, ph)
    )
  )
def x8_tear (mo : SMo) (p1 : Int32) : Option (Int32 × SMo) :=
  (x8_isRow mo p1).bind fun R1 =>
  if R1 = 0 then (
    (x8_meets mo (2 : Int32)).bind fun R7 =>
    some ((R7.1), (R7.2))
  ) else (
    if ib p1 6 = true then (
      if 0 ≤ ((SMo.f_rows mo) (Int32.toNatClampNeg p1)) then (
        if ib p1 6 = true then (
          some ((1 : Int32), (SMo.s_rows mo (upd (SMo.f_rows mo) (Int32.toNatClampNeg p1) (-9 : Int32))))
        ) else none
      ) else (
        (x8_meets mo (1 : Int32)).bind fun R6 =>
        some ((R6.1), (R6.2))
      )
    ) else none
  )
def x2_hasRun (lo : SLo) (p1 : Int32) (p2 : Int32) : Option (Int32) :=
  (x7_isWithin p2 (0 : Int32) (SLo.f_count lo)).bind fun R1 =>
  if R1 = 0 then (
    some (0 : Int32)
  ) else (
    (x7_isWithin p1 (0 : Int32) ((SLo.f_count lo) - p2)).bind fun R3 =>
    if R3 = 0 then (
      some (0 : Int32)
    ) else (
      some (1 : Int32)
    )
  )
def x2_copyRun_L35 (F : Nat) (lo : SLo) (p1 : Int32) (p2 : Int32) (p3 : Int32) (lo_aside : Nat → Int32) : Nat → Int32 → (Nat → Int32) → Option (SLo)
  | 0, _, _ => none
  | k + 1, x4, lo_bits =>
    if p3 ≤ x4 then (
      some (SLo.s_aside (SLo.s_bits lo lo_bits) lo_aside)
    ) else (
      (x7_at 6 lo_aside (p1 + x4)).bind fun R2 =>
      (x7_put 6 lo_bits (p2 + x4) R2).bind fun R3 =>
      x2_copyRun_L35 F lo p1 p2 p3 lo_aside k (x4 + 1) R3
    )
def x2_copyRun_L3 (F : Nat) (lo : SLo) (p1 : Int32) (p2 : Int32) (p3 : Int32) (lo_bits : Nat → Int32) : Nat → Int32 → (Nat → Int32) → Option (SLo)
  | 0, _, _ => none
  | k + 1, x4, lo_aside =>
    if (6 : Int32) ≤ x4 then (
      x2_copyRun_L35 F lo p1 p2 p3 lo_aside F (0 : Int32) lo_bits
    ) else (
      (x2_bitsOf (SLo.s_aside (SLo.s_bits lo lo_bits) lo_aside) x4).bind fun R5 =>
      if ib x4 6 = true then (
        x2_copyRun_L3 F lo p1 p2 p3 lo_bits k (x4 + 1) (upd lo_aside (Int32.toNatClampNeg x4) R5)
      ) else none
    )
def x2_copyRun (F : Nat) (lo : SLo) (p1 : Int32) (p2 : Int32) (p3 : Int32) : Option (SLo) :=
  x2_copyRun_L3 F lo p1 p2 p3 (SLo.f_bits lo) F (0 : Int32) (SLo.f_aside lo)
def x7_copy (F : Nat) (lo : SLo) (ph : SPh) (p1 : Int32) (p2 : Int32) (p3 : Int32) : Option (Int32 × SLo × SPh) :=
  (x2_hasRun lo p1 p3).bind fun R1 =>
  if R1 = 0 then (
    (x7_find ph (2 : Int32)).bind fun R3 =>
    some ((R3.1), lo, (R3.2))
  ) else (
    (x2_hasRun lo p2 p3).bind fun R4 =>
    if R4 = 0 then (
      (x7_find ph (2 : Int32)).bind fun R7 =>
      some ((R7.1), lo, (R7.2))
    ) else (
      (x2_copyRun F lo p1 p2 p3).bind fun R6 =>
      some ((1 : Int32), R6, ph)
    )
  )
def x8_copy_L80 (F : Nat) (p2 : Int32) (p3 : Int32) : Nat → Int32 → SMo → Option (Int32 × SMo)
  | 0, _, _ => none
  | k + 1, x4, mo =>
    if p3 ≤ x4 then (
      some ((1 : Int32), mo)
    ) else (
      if ib x4 6 = true then (
        if ib (p2 + x4) 6 = true then (
          x8_copy_L80 F p2 p3 k (x4 + 1) (SMo.s_rows mo (upd (SMo.f_rows mo) (Int32.toNatClampNeg (p2 + x4)) ((SMo.f_moving mo) (Int32.toNatClampNeg x4))))
        ) else none
      ) else none
    )
def x8_copy_L49 (F : Nat) (p1 : Int32) (p2 : Int32) (p3 : Int32) : Nat → Int32 → SMo → Option (Int32 × SMo)
  | 0, _, _ => none
  | k + 1, x4, mo =>
    if p3 ≤ x4 then (
      x8_copy_L80 F p2 p3 F (0 : Int32) mo
    ) else (
      if ib (p1 + x4) 6 = true then (
        if ib x4 6 = true then (
          x8_copy_L49 F p1 p2 p3 k (x4 + 1) (SMo.s_moving mo (upd (SMo.f_moving mo) (Int32.toNatClampNeg x4) ((SMo.f_rows mo) (Int32.toNatClampNeg (p1 + x4)))))
        ) else none
      ) else none
    )
def x8_copy (F : Nat) (mo : SMo) (p1 : Int32) (p2 : Int32) (p3 : Int32) : Option (Int32 × SMo) :=
  if p1 < 0 then (
    (x8_meets mo (2 : Int32)).bind fun R8 =>
    some ((R8.1), (R8.2))
  ) else (
    if p2 < 0 then (
      (x8_meets mo (2 : Int32)).bind fun R10 =>
      some ((R10.1), (R10.2))
    ) else (
      if p3 < 0 then (
        (x8_meets mo (2 : Int32)).bind fun R12 =>
        some ((R12.1), (R12.2))
      ) else (
        if 0 < (lg_cmp ((Int32.toInt64 p1) + (Int32.toInt64 p3)) (Int32.toInt64 (SMo.f_rowMany mo))) then (
          (x8_meets mo (2 : Int32)).bind fun R14 =>
          some ((R14.1), (R14.2))
        ) else (
          if (lg_cmp ((Int32.toInt64 p2) + (Int32.toInt64 p3)) (Int32.toInt64 (SMo.f_rowMany mo))) ≤ 0 then (
            x8_copy_L49 F p1 p2 p3 F (0 : Int32) mo
          ) else (
            (x8_meets mo (2 : Int32)).bind fun R16 =>
            some ((R16.1), (R16.2))
          )
        )
      )
    )
  )
def x7_told (lo : SLo) (ph : SPh) (p1 : Int32) : Option (Int32 × SPh) :=
  (x2_isRow lo p1).bind fun R1 =>
  if R1 = 0 then (
    (x7_find ph (2 : Int32)).bind fun R6 =>
    some ((R6.1), (R6.2))
  ) else (
    (x2_bitsOf lo p1).bind fun R3 =>
    if R3 = (-9 : Int32) then (
      (x7_find ph (1 : Int32)).bind fun R5 =>
      some ((R5.1), (R5.2))
    ) else (
      some (R3, ph)
    )
  )
def x8_told (mo : SMo) (p1 : Int32) : Option (Int32 × SMo) :=
  (x8_isRow mo p1).bind fun R1 =>
  if R1 = 0 then (
    (x8_meets mo (2 : Int32)).bind fun R7 =>
    some ((R7.1), (R7.2))
  ) else (
    if ib p1 6 = true then (
      if 0 ≤ ((SMo.f_rows mo) (Int32.toNatClampNeg p1)) then (
        if ib p1 6 = true then (
          some (((SMo.f_rows mo) (Int32.toNatClampNeg p1)), mo)
        ) else none
      ) else (
        (x8_meets mo (1 : Int32)).bind fun R6 =>
        some ((R6.1), (R6.2))
      )
    ) else none
  )
def x7_hold (lo : SLo) (ph : SPh) (p1 : Int32) (p2 : Int32) : Option (Int32 × SLo) :=
  (x7_isWithin p1 (0 : Int32) (6 : Int32)).bind fun R1 =>
  if R1 = 0 then (
    some ((-1 : Int32), lo)
  ) else (
    (x7_isWithin p2 (0 : Int32) (6 : Int32)).bind fun R3 =>
    if R3 = 0 then (
      some ((-1 : Int32), lo)
    ) else (
      some ((1 : Int32), (SLo.s_hy (SLo.s_hx lo p1) p2))
    )
  )
def x8_hold (mo : SMo) (p1 : Int32) (p2 : Int32) : Option (Int32 × SMo) :=
  (x8_in p1 (0 : Int32) (6 : Int32)).bind fun R1 =>
  if R1 = 0 then (
    some ((-1 : Int32), mo)
  ) else (
    (x8_in p2 (0 : Int32) (6 : Int32)).bind fun R3 =>
    if R3 = 0 then (
      some ((-1 : Int32), mo)
    ) else (
      some ((1 : Int32), (SMo.s_holdY (SMo.s_holdX mo p1) p2))
    )
  )
def x2_squares_L4 (F : Nat) (lo : SLo) : Nat → Int32 → Int32 → Option (Int32)
  | 0, _, _ => none
  | k + 1, x1, x2 =>
    if (SLo.f_count lo) ≤ x2 then (
      some x1
    ) else (
      (x2_bitsOf lo x2).bind fun R2 =>
      if R2 = (-9 : Int32) then (
        x2_squares_L4 F lo k x1 (x2 + 1)
      ) else (
        (x2_bitsOf lo x2).bind fun R4 =>
        (j6_bitCount R4).bind fun R5 =>
        x2_squares_L4 F lo k (x1 + R5) (x2 + 1)
      )
    )
def x2_squares (F : Nat) (lo : SLo) : Option (Int32) :=
  x2_squares_L4 F lo F (0 : Int32) (0 : Int32)
def x2_isWhole_L4 (F : Nat) (lo : SLo) : Nat → Int32 → Int32 → Option (Int32)
  | 0, _, _ => none
  | k + 1, x1, x2 =>
    if (SLo.f_count lo) ≤ x2 then (
      (x2_squares F lo).bind fun R2 =>
      if R2 ≤ 0 then (
        some (0 : Int32)
      ) else (
        some (1 : Int32)
      )
    ) else (
      (x2_bitsOf lo x2).bind fun R4 =>
      if R4 = (-9 : Int32) then (
        x2_isWhole_L4 F lo k (1 : Int32) (x2 + 1)
      ) else (
        if x1 = 0 then (
          x2_isWhole_L4 F lo k x1 (x2 + 1)
        ) else (
          some (0 : Int32)
        )
      )
    )
def x2_isWhole (F : Nat) (lo : SLo) : Option (Int32) :=
  x2_isWhole_L4 F lo F (0 : Int32) (0 : Int32)
def x2_hasSquare (lo : SLo) (p1 : Int32) (p2 : Int32) : Option (Int32) :=
  (x2_bitsOf lo p2).bind fun R1 =>
  (x2_isRow lo p2).bind fun R2 =>
  if R2 = 0 then (
    some (0 : Int32)
  ) else (
    if R1 = (-9 : Int32) then (
      some (0 : Int32)
    ) else (
      if ((R1 >>> (p1 &&& 31)) &&& (1 : Int32)) = (1 : Int32) then (
        some (1 : Int32)
      ) else (
        some (0 : Int32)
      )
    )
  )
def x2_farthest_L14 (F : Nat) (lo : SLo) (x2 : Int32) (o4 : Int32 → Int32 → Option (Int32)) : Nat → Int32 → Int32 → Option (Int32)
  | 0, _, _ => none
  | k + 1, x1, x3 =>
    if (6 : Int32) ≤ x3 then (
      o4 x1 (x2 + 1)
    ) else (
      (x2_hasSquare lo x3 x2).bind fun R2 =>
      if R2 = 0 then (
        x2_farthest_L14 F lo x2 o4 k x1 (x3 + 1)
      ) else (
        x2_farthest_L14 F lo x2 o4 k (mmax x1 (((mmax (mabs (x3 - (SLo.f_hx lo))) (mabs ((x3 + (1 : Int32)) - (SLo.f_hx lo)))) * (mmax (mabs (x3 - (SLo.f_hx lo))) (mabs ((x3 + (1 : Int32)) - (SLo.f_hx lo))))) + ((mmax (mabs (x2 - (SLo.f_hy lo))) (mabs ((x2 + (1 : Int32)) - (SLo.f_hy lo)))) * (mmax (mabs (x2 - (SLo.f_hy lo))) (mabs ((x2 + (1 : Int32)) - (SLo.f_hy lo))))))) (x3 + 1)
      )
    )
def x2_farthest_L4 (F : Nat) (lo : SLo) : Nat → Int32 → Int32 → Option (Int32)
  | 0, _, _ => none
  | k + 1, x1, x2 =>
    if (SLo.f_count lo) ≤ x2 then (
      some x1
    ) else (
      x2_farthest_L14 F lo x2 (x2_farthest_L4 F lo k) F x1 (0 : Int32)
    )
def x2_farthest (F : Nat) (lo : SLo) : Option (Int32) :=
  x2_farthest_L4 F lo F (0 : Int32) (0 : Int32)
def x7_load (F : Nat) (lo : SLo) (ph : SPh) (p1 : Int32) : Option (Int32) :=
  if p1 = (0 : Int32) then (
    (x2_squares F lo).bind fun R2 =>
    some R2
  ) else (
  if p1 = (1 : Int32) then (
    (x2_isWhole F lo).bind fun R4 =>
    if R4 = 0 then (
      some (0 : Int32)
    ) else (
      some (1 : Int32)
    )
  ) else (
  if p1 = (2 : Int32) then (
    (x2_farthest F lo).bind fun R7 =>
    some R7
  ) else (
  if p1 = (3 : Int32) then (
    some (SLo.f_count lo)
  ) else (
    some (-1 : Int32)
  ))))
def x8_hasSquare (mo : SMo) (p1 : Int32) (p2 : Int32) : Option (Int32) :=
  if ib p2 6 = true then (
    if ((SMo.f_rows mo) (Int32.toNatClampNeg p2)) < 0 then (
      some (0 : Int32)
    ) else (
      if ib p2 6 = true then (
        if ((((SMo.f_rows mo) (Int32.toNatClampNeg p2)) >>> (p1 &&& 31)) &&& (1 : Int32)) = (1 : Int32) then (
          some (1 : Int32)
        ) else (
          some (0 : Int32)
        )
      ) else none
    )
  ) else none
def x8_squareMany_L14 (F : Nat) (mo : SMo) (x2 : Int32) (o4 : Int32 → Int32 → Option (Int32)) : Nat → Int32 → Int32 → Option (Int32)
  | 0, _, _ => none
  | k + 1, x1, x3 =>
    if (6 : Int32) ≤ x3 then (
      o4 x1 (x2 + 1)
    ) else (
      (x8_hasSquare mo x3 x2).bind fun R2 =>
      if R2 = 0 then (
        x8_squareMany_L14 F mo x2 o4 k (x1 + (0 : Int32)) (x3 + 1)
      ) else (
        x8_squareMany_L14 F mo x2 o4 k (x1 + (1 : Int32)) (x3 + 1)
      )
    )
def x8_squareMany_L4 (F : Nat) (mo : SMo) : Nat → Int32 → Int32 → Option (Int32)
  | 0, _, _ => none
  | k + 1, x1, x2 =>
    if (SMo.f_rowMany mo) ≤ x2 then (
      some x1
    ) else (
      x8_squareMany_L14 F mo x2 (x8_squareMany_L4 F mo k) F x1 (0 : Int32)
    )
def x8_squareMany (F : Nat) (mo : SMo) : Option (Int32) :=
  x8_squareMany_L4 F mo F (0 : Int32) (0 : Int32)
def x8_isWhole_L38 (F : Nat) (mo : SMo) (x1 : Int32) : Nat → Int32 → Int32 → Option (Int32)
  | 0, _, _ => none
  | k + 1, x2, x3 =>
    if x1 < x3 then (
      if x2 = 0 then (
        (x8_squareMany F mo).bind fun R3 =>
        if R3 ≤ 0 then (
          some (0 : Int32)
        ) else (
          some (1 : Int32)
        )
      ) else (
        some (0 : Int32)
      )
    ) else (
      if x2 = 0 then (
        if ib x3 6 = true then (
          if 0 ≤ ((SMo.f_rows mo) (Int32.toNatClampNeg x3)) then (
            x8_isWhole_L38 F mo x1 k (0 : Int32) (x3 + 1)
          ) else (
            x8_isWhole_L38 F mo x1 k (1 : Int32) (x3 + 1)
          )
        ) else none
      ) else (
        x8_isWhole_L38 F mo x1 k (1 : Int32) (x3 + 1)
      )
    )
def x8_isWhole_L7 (F : Nat) (mo : SMo) (x2 : Int32) : Nat → Int32 → Int32 → Option (Int32)
  | 0, _, _ => none
  | k + 1, x1, x3 =>
    if (SMo.f_rowMany mo) ≤ x3 then (
      x8_isWhole_L38 F mo x1 F x2 (0 : Int32)
    ) else (
      if ib x3 6 = true then (
        if ((SMo.f_rows mo) (Int32.toNatClampNeg x3)) < 0 then (
          x8_isWhole_L7 F mo x2 k x1 (x3 + 1)
        ) else (
          x8_isWhole_L7 F mo x2 k x3 (x3 + 1)
        )
      ) else none
    )
def x8_isWhole (F : Nat) (mo : SMo) : Option (Int32) :=
  x8_isWhole_L7 F mo (0 : Int32) F (-9 : Int32) (0 : Int32)
def x8_farthest_L23 (F : Nat) (mo : SMo) (x2 : Int32) (x3 : Int32) (o14 : Int32 → Int32 → Option (Int32)) (o4 : Int32 → Int32 → Option (Int32)) : Nat → Int32 → Int32 → Option (Int32)
  | 0, _, _ => none
  | k + 1, x1, x4 =>
    if (4 : Int32) ≤ x4 then (
      o14 x1 (x3 + 1)
    ) else (
      (x8_hasSquare mo x3 x2).bind fun R2 =>
      if R2 = 0 then (
        o14 x1 (x3 + 1)
      ) else (
        if ((((x3 + (x4 - x4 / (2 : Int32) * (2 : Int32))) - (SMo.f_holdX mo)) * ((x3 + (x4 - x4 / (2 : Int32) * (2 : Int32))) - (SMo.f_holdX mo))) + (((x2 + (x4 / (2 : Int32))) - (SMo.f_holdY mo)) * ((x2 + (x4 / (2 : Int32))) - (SMo.f_holdY mo)))) ≤ x1 then (
          x8_farthest_L23 F mo x2 x3 o14 o4 k x1 (x4 + 1)
        ) else (
          x8_farthest_L23 F mo x2 x3 o14 o4 k ((((x3 + (x4 - x4 / (2 : Int32) * (2 : Int32))) - (SMo.f_holdX mo)) * ((x3 + (x4 - x4 / (2 : Int32) * (2 : Int32))) - (SMo.f_holdX mo))) + (((x2 + (x4 / (2 : Int32))) - (SMo.f_holdY mo)) * ((x2 + (x4 / (2 : Int32))) - (SMo.f_holdY mo)))) (x4 + 1)
        )
      )
    )
def x8_farthest_L14 (F : Nat) (mo : SMo) (x2 : Int32) (o4 : Int32 → Int32 → Option (Int32)) : Nat → Int32 → Int32 → Option (Int32)
  | 0, _, _ => none
  | k + 1, x1, x3 =>
    if (6 : Int32) ≤ x3 then (
      o4 x1 (x2 + 1)
    ) else (
      x8_farthest_L23 F mo x2 x3 (x8_farthest_L14 F mo x2 o4 k) o4 F x1 (0 : Int32)
    )
def x8_farthest_L4 (F : Nat) (mo : SMo) : Nat → Int32 → Int32 → Option (Int32)
  | 0, _, _ => none
  | k + 1, x1, x2 =>
    if (SMo.f_rowMany mo) ≤ x2 then (
      some x1
    ) else (
      x8_farthest_L14 F mo x2 (x8_farthest_L4 F mo k) F x1 (0 : Int32)
    )
def x8_farthest (F : Nat) (mo : SMo) : Option (Int32) :=
  x8_farthest_L4 F mo F (0 : Int32) (0 : Int32)
def x8_load (F : Nat) (mo : SMo) (p1 : Int32) : Option (Int32) :=
  if p1 = (0 : Int32) then (
    (x8_squareMany F mo).bind fun R2 =>
    some R2
  ) else (
  if p1 = (1 : Int32) then (
    (x8_isWhole F mo).bind fun R4 =>
    if R4 = 0 then (
      some (0 : Int32)
    ) else (
      some (1 : Int32)
    )
  ) else (
  if p1 = (2 : Int32) then (
    (x8_farthest F mo).bind fun R7 =>
    some R7
  ) else (
  if p1 = (3 : Int32) then (
    some (SMo.f_rowMany mo)
  ) else (
    some (-1 : Int32)
  ))))
def x0_isPlace (bu : SBu) (p1 : Int32) (p2 : Int32) : Option (Int32) :=
  (x7_isWithin p1 (0 : Int32) (SBu.f_w bu)).bind fun R1 =>
  if R1 = 0 then (
    some (0 : Int32)
  ) else (
    (x7_isWithin p2 (0 : Int32) (SBu.f_h bu)).bind fun R3 =>
    if R3 = 0 then (
      some (0 : Int32)
    ) else (
      some (1 : Int32)
    )
  )
def x7_isState (bu : SBu) (ph : SPh) (p1 : Int32) (p2 : Int32) (p3 : Int32) : Option (Int32) :=
  (x0_isPlace bu p1 p2).bind fun R1 =>
  if R1 = 0 then (
    some (0 : Int32)
  ) else (
    (x7_isWithin p3 (0 : Int32) (3 : Int32)).bind fun R3 =>
    if R3 = 0 then (
      some (0 : Int32)
    ) else (
      some (1 : Int32)
    )
  )
def x6_sizeOf (sh : SSh) (p1 : Int32) : Option (Int32) :=
  (x7_at 5 (SSh.f_sizes sh) p1).bind fun R1 =>
  some R1
def x6_add (sh : SSh) (p1 : Int32) (p2 : Int32) (p3 : Int32) : Option (SSh) :=
  (x6_sizeOf sh p1).bind fun R1 =>
  (x7_put 1620 (SSh.f_along sh) ((p1 * (324 : Int32)) + R1) p2).bind fun R2 =>
  (x7_put 1620 (SSh.f_up sh) ((p1 * (324 : Int32)) + R1) p3).bind fun R3 =>
  (x7_put 5 (SSh.f_sizes sh) p1 (R1 + (1 : Int32))).bind fun R4 =>
  some (SSh.s_sizes (SSh.s_up (SSh.s_along sh R2) R3) R4)
def x6_addTurned_L8 (F : Nat) : Nat → Int32 → Int32 → Int32 → SSh → Option (SSh)
  | 0, _, _, _, _ => none
  | k + 1, x3, x4, x5, sh =>
    if (4 : Int32) ≤ x5 then (
      some sh
    ) else (
      (x6_add sh x5 x3 x4).bind fun R2 =>
      x6_addTurned_L8 F k ((-x4) - (1 : Int32)) x3 (x5 + 1) R2
    )
def x6_addTurned (F : Nat) (sh : SSh) (p1 : Int32) (p2 : Int32) : Option (SSh) :=
  x6_addTurned_L8 F F p1 p2 (0 : Int32) sh
def x6_nearest (p0 : Int32) : Option (Int32) :=
  if p0 < 0 then (
    some ((-p0) - (1 : Int32))
  ) else (
    some p0
  )
def x6_addNear_L12 (F : Nat) (p1 : Int32) (x2 : Int32) (o3 : Int32 → SSh → Option (SSh)) : Nat → Int32 → SSh → Option (SSh)
  | 0, _, _ => none
  | k + 1, x3, sh =>
    if (9 : Int32) ≤ x3 then (
      o3 (x2 + 1) sh
    ) else (
      (x6_nearest x3).bind fun R2 =>
      (x6_nearest x2).bind fun R3 =>
      if p1 ≤ ((R2 * R2) + (R3 * R3)) then (
        x6_addNear_L12 F p1 x2 o3 k (x3 + 1) sh
      ) else (
        (x6_add sh (4 : Int32) x3 x2).bind fun R5 =>
        x6_addNear_L12 F p1 x2 o3 k (x3 + 1) R5
      )
    )
def x6_addNear_L3 (F : Nat) (p1 : Int32) : Nat → Int32 → SSh → Option (SSh)
  | 0, _, _ => none
  | k + 1, x2, sh =>
    if (9 : Int32) ≤ x2 then (
      some sh
    ) else (
      x6_addNear_L12 F p1 x2 (x6_addNear_L3 F p1 k) F (-9 : Int32) sh
    )
def x6_addNear (F : Nat) (sh : SSh) (p1 : Int32) : Option (SSh) :=
  x6_addNear_L3 F p1 F (-9 : Int32) sh
def x6_take_L20 (F : Nat) (lo : SLo) (x2 : Int32) (o10 : Int32 → SSh → Option (SSh)) : Nat → Int32 → SSh → Option (SSh)
  | 0, _, _ => none
  | k + 1, x3, sh =>
    if (6 : Int32) ≤ x3 then (
      o10 (x2 + 1) sh
    ) else (
      (x2_hasSquare lo x3 x2).bind fun R2 =>
      if R2 = 0 then (
        x6_take_L20 F lo x2 o10 k (x3 + 1) sh
      ) else (
        (x6_addTurned F sh (x3 - (SLo.f_hx lo)) (x2 - (SLo.f_hy lo))).bind fun R4 =>
        x6_take_L20 F lo x2 o10 k (x3 + 1) R4
      )
    )
def x6_take_L10 (F : Nat) (lo : SLo) : Nat → Int32 → SSh → Option (SSh)
  | 0, _, _ => none
  | k + 1, x2, sh =>
    if (SLo.f_count lo) ≤ x2 then (
      (x2_farthest F lo).bind fun R6 =>
      (x6_addNear F sh R6).bind fun R7 =>
      some R7
    ) else (
      x6_take_L20 F lo x2 (x6_take_L10 F lo k) F (0 : Int32) sh
    )
def x6_take (F : Nat) (lo : SLo) (sh : SSh) : Option (SSh) :=
  (x7_fillWith F 5 (SSh.f_sizes sh) (0 : Int32)).bind fun R8 =>
  x6_take_L10 F lo F (0 : Int32) (SSh.s_sizes sh R8)
def x0_openRow_L5 (F : Nat) (bu : SBu) (p1 : Int32) (p2 : Int32) : Nat → Int32 → Int32 → Option (Int32)
  | 0, _, _ => none
  | k + 1, x3, x4 =>
    if (SBu.f_w bu) ≤ x4 then (
      some x3
    ) else (
      (x0_squareIndex x4 p1).bind fun R2 =>
      (x7_at 400 (SBu.f_squares bu) R2).bind fun R3 =>
      if (R3 &&& (p2 ^^^ (-1 : Int32))) = 0 then (
        x0_openRow_L5 F bu p1 p2 k (x3 ||| ((1 : Int32) <<< (x4 &&& 31))) (x4 + 1)
      ) else (
        x0_openRow_L5 F bu p1 p2 k x3 (x4 + 1)
      )
    )
def x0_openRow (F : Nat) (bu : SBu) (p1 : Int32) (p2 : Int32) : Option (Int32) :=
  x0_openRow_L5 F bu p1 p2 F (0 : Int32) (0 : Int32)
def x1_lay_L26 (F : Nat) (bu : SBu) (fl : SFl) (p2 : Int32) (fl_w : Int32) (fl_h : Int32) : Nat → Int32 → (Nat → Int32) → Option (SFl)
  | 0, _, _ => none
  | k + 1, x3, fl_open =>
    if fl_h ≤ x3 then (
      some (SFl.s_open (SFl.s_h (SFl.s_w fl fl_w) fl_h) fl_open)
    ) else (
      (x0_openRow F bu x3 p2).bind fun R2 =>
      (x7_put 20 fl_open x3 R2).bind fun R3 =>
      x1_lay_L26 F bu fl p2 fl_w fl_h k (x3 + 1) R3
    )
def x1_lay (F : Nat) (bu : SBu) (fl : SFl) (p2 : Int32) : Option (SFl) :=
  (x7_fillWith F 20 (SFl.f_open fl) (0 : Int32)).bind fun R4 =>
  x1_lay_L26 F bu fl p2 (SBu.f_w bu) (SBu.f_h bu) F (0 : Int32) R4
def x6_upOf (sh : SSh) (p1 : Int32) (p2 : Int32) : Option (Int32) :=
  (x7_at 1620 (SSh.f_up sh) ((p1 * (324 : Int32)) + p2)).bind fun R1 =>
  some R1
def x6_alongOf (sh : SSh) (p1 : Int32) (p2 : Int32) : Option (Int32) :=
  (x7_at 1620 (SSh.f_along sh) ((p1 * (324 : Int32)) + p2)).bind fun R1 =>
  some R1
def x1_fittingRow_L22 (F : Nat) (sh : SSh) (fl : SFl) (p2 : Int32) (p3 : Int32) (x4 : Int32) : Nat → Int32 → Int32 → Option (Int32)
  | 0, _, _ => none
  | k + 1, x5, x6 =>
    if x4 ≤ x6 then (
      some x5
    ) else (
      if x5 = 0 then (
        some x5
      ) else (
        (x6_upOf sh p2 x6).bind fun R3 =>
        (x7_at 20 (SFl.f_open fl) (p3 + R3)).bind fun R4 =>
        (x6_alongOf sh p2 x6).bind fun R5 =>
        if R5 < 0 then (
          x1_fittingRow_L22 F sh fl p2 p3 x4 k (x5 &&& (R4 <<< ((-R5) &&& 31))) (x6 + 1)
        ) else (
          x1_fittingRow_L22 F sh fl p2 p3 x4 k (x5 &&& (R4 >>> (R5 &&& 31))) (x6 + 1)
        )
      )
    )
def x1_fittingRow (F : Nat) (sh : SSh) (fl : SFl) (p2 : Int32) (p3 : Int32) : Option (Int32) :=
  (x6_sizeOf sh p2).bind fun R7 =>
  x1_fittingRow_L22 F sh fl p2 p3 R7 F (((1 : Int32) <<< (((SFl.f_w fl) + (1 : Int32)) &&& 31)) - (1 : Int32)) (0 : Int32)
def x1_mark_L9 (F : Nat) (sh : SSh) (fl : SFl) (x2 : Int32) (o2 : Int32 → (Nat → Int32) → Option (SFl)) : Nat → Int32 → (Nat → Int32) → Option (SFl)
  | 0, _, _ => none
  | k + 1, x3, fl_fitting =>
    if (SFl.f_h fl) < x3 then (
      o2 (x2 + 1) fl_fitting
    ) else (
      (x1_fittingRow F sh (SFl.s_fitting fl fl_fitting) x2 x3).bind fun R2 =>
      (x7_put 105 fl_fitting ((x2 * (21 : Int32)) + x3) R2).bind fun R3 =>
      x1_mark_L9 F sh fl x2 o2 k (x3 + 1) R3
    )
def x1_mark_L2 (F : Nat) (sh : SSh) (fl : SFl) : Nat → Int32 → (Nat → Int32) → Option (SFl)
  | 0, _, _ => none
  | k + 1, x2, fl_fitting =>
    if (5 : Int32) ≤ x2 then (
      some (SFl.s_fitting fl fl_fitting)
    ) else (
      x1_mark_L9 F sh fl x2 (x1_mark_L2 F sh fl k) F (0 : Int32) fl_fitting
    )
def x1_mark (F : Nat) (sh : SSh) (fl : SFl) : Option (SFl) :=
  x1_mark_L2 F sh fl F (0 : Int32) (SFl.f_fitting fl)
def x7_layOut (F : Nat) (bu : SBu) (lo : SLo) (sh : SSh) (fl : SFl) (ph : SPh) : Option (Int32 × SSh × SFl) :=
  (x2_isWhole F lo).bind fun R1 =>
  if R1 = 0 then (
    some ((0 : Int32), sh, fl)
  ) else (
    (x6_take F lo sh).bind fun R3 =>
    (x1_lay F bu fl (SBu.f_outBits bu)).bind fun R4 =>
    (x1_mark F R3 R4).bind fun R5 =>
    some ((1 : Int32), R3, R5)
  )
def x1_fits (fl : SFl) (p1 : Int32) (p2 : Int32) (p3 : Int32) : Option (Int32) :=
  if p2 < 0 then (
    some (0 : Int32)
  ) else (
    if (SFl.f_w fl) < p2 then (
      some (0 : Int32)
    ) else (
      if p3 < 0 then (
        some (0 : Int32)
      ) else (
        if p3 ≤ (SFl.f_h fl) then (
          (x7_at 105 (SFl.f_fitting fl) ((p1 * (21 : Int32)) + p3)).bind fun R5 =>
          if ((R5 >>> (p2 &&& 31)) &&& (1 : Int32)) = (1 : Int32) then (
            some (1 : Int32)
          ) else (
            some (0 : Int32)
          )
        ) else (
          some (0 : Int32)
        )
      )
    )
  )
def x7_free (F : Nat) (bu : SBu) (lo : SLo) (sh : SSh) (fl : SFl) (ph : SPh) (p1 : Int32) (p2 : Int32) (p3 : Int32) : Option (Int32 × SSh × SFl) :=
  (x7_isState bu ph p1 p2 p3).bind fun R1 =>
  if R1 = 0 then (
    some ((-1 : Int32), sh, fl)
  ) else (
    (x7_layOut F bu lo sh fl ph).bind fun R3 =>
    if (R3.1) = 0 then (
      some ((-4 : Int32), (R3.2.1), (R3.2.2))
    ) else (
      (x1_fits (R3.2.2) p3 p1 p2).bind fun R5 =>
      if R5 = 0 then (
        some ((0 : Int32), (R3.2.1), (R3.2.2))
      ) else (
        some ((1 : Int32), (R3.2.1), (R3.2.2))
      )
    )
  )
def x8_isPlace (mo : SMo) (p1 : Int32) (p2 : Int32) : Option (Int32) :=
  (x8_in p1 (0 : Int32) (SMo.f_wide mo)).bind fun R1 =>
  if R1 = 0 then (
    some (0 : Int32)
  ) else (
    (x8_in p2 (0 : Int32) (SMo.f_high mo)).bind fun R3 =>
    if R3 = 0 then (
      some (0 : Int32)
    ) else (
      some (1 : Int32)
    )
  )
def x8_isState (mo : SMo) (p1 : Int32) (p2 : Int32) (p3 : Int32) : Option (Int32) :=
  (x8_isPlace mo p1 p2).bind fun R1 =>
  if R1 = 0 then (
    some (0 : Int32)
  ) else (
    (x8_in p3 (0 : Int32) (3 : Int32)).bind fun R3 =>
    if R3 = 0 then (
      some (0 : Int32)
    ) else (
      some (1 : Int32)
    )
  )
def x8_nearBars_L29 (F : Nat) (mo : SMo) (p1 : Int32) (p2 : Int32) (x4 : Int32) (o10 : Int32 → Int32 → Option (Int32)) : Nat → Int32 → Int32 → Option (Int32)
  | 0, _, _ => none
  | k + 1, x3, x5 =>
    if (p1 + (SMo.f_grown mo)) < x5 then (
      o10 x3 (x4 + 1)
    ) else (
      (x8_isSquare mo x5 x4).bind fun R2 =>
      if R2 = 0 then (
        x8_nearBars_L29 F mo p1 p2 x4 o10 k (x3 ||| (1073741824 : Int32)) (x5 + 1)
      ) else (
        if ib (((20 : Int32) * x4) + x5) 400 = true then (
          x8_nearBars_L29 F mo p1 p2 x4 o10 k (x3 ||| (((SMo.f_squares mo) (Int32.toNatClampNeg (((20 : Int32) * x4) + x5))) &&& ((SMo.f_outs mo) ^^^ (-1 : Int32)))) (x5 + 1)
        ) else none
      )
    )
def x8_nearBars_L10 (F : Nat) (mo : SMo) (p1 : Int32) (p2 : Int32) : Nat → Int32 → Int32 → Option (Int32)
  | 0, _, _ => none
  | k + 1, x3, x4 =>
    if (p2 + (SMo.f_grown mo)) < x4 then (
      some x3
    ) else (
      x8_nearBars_L29 F mo p1 p2 x4 (x8_nearBars_L10 F mo p1 p2 k) F x3 (p1 - (SMo.f_grown mo))
    )
def x8_nearBars (F : Nat) (mo : SMo) (p1 : Int32) (p2 : Int32) : Option (Int32) :=
  x8_nearBars_L10 F mo p1 p2 F (0 : Int32) (p2 - (SMo.f_grown mo))
def x8_setSquares_L12 (F : Nat) (mo : SMo) (x1 : Int32) (o2 : Int32 → (Nat → Int32) → Option (SMo)) : Nat → Int32 → (Nat → Int32) → Option (SMo)
  | 0, _, _ => none
  | k + 1, x2, mo_way =>
    if (SMo.f_wide mo) ≤ x2 then (
      o2 (x1 + 1) mo_way
    ) else (
      (x8_nearBars F (SMo.s_way mo mo_way) x2 x1).bind fun R2 =>
      if ib (((20 : Int32) * x1) + x2) 400 = true then (
        x8_setSquares_L12 F mo x1 o2 k (x2 + 1) (upd mo_way (Int32.toNatClampNeg (((20 : Int32) * x1) + x2)) R2)
      ) else none
    )
def x8_setSquares_L2 (F : Nat) (mo : SMo) : Nat → Int32 → (Nat → Int32) → Option (SMo)
  | 0, _, _ => none
  | k + 1, x1, mo_way =>
    if (SMo.f_high mo) ≤ x1 then (
      some (SMo.s_way mo mo_way)
    ) else (
      x8_setSquares_L12 F mo x1 (x8_setSquares_L2 F mo k) F (0 : Int32) mo_way
    )
def x8_setSquares (F : Nat) (mo : SMo) : Option (SMo) :=
  x8_setSquares_L2 F mo F (0 : Int32) (SMo.f_way mo)
def x8_near (p0 : Int32) (p1 : Int32) : Option (Int32) :=
  if p1 < p0 then (
    some ((p0 - p1) - (1 : Int32))
  ) else (
    some (p1 - p0)
  )
def x8_barOf (mo : SMo) (p1 : Int32) (p2 : Int32) : Option (Int32) :=
  (x8_isSquare mo p1 p2).bind fun R1 =>
  if R1 = 0 then (
    some (1073741824 : Int32)
  ) else (
    if ib (((20 : Int32) * p2) + p1) 400 = true then (
      some ((SMo.f_way mo) (Int32.toNatClampNeg (((20 : Int32) * p2) + p1)))
    ) else none
  )
def x8_turnBarAt_L24 (F : Nat) (mo : SMo) (p1 : Int32) (p2 : Int32) (p3 : Int32) (x5 : Int32) (o9 : Int32 → Int32 → Option (Int32)) : Nat → Int32 → Int32 → Option (Int32)
  | 0, _, _ => none
  | k + 1, x4, x6 =>
    if (p1 + (13 : Int32)) < x6 then (
      o9 x4 (x5 + 1)
    ) else (
      (x8_near p1 x6).bind fun R2 =>
      (x8_near p2 x5).bind fun R3 =>
      if p3 ≤ ((R2 * R2) + (R3 * R3)) then (
        x8_turnBarAt_L24 F mo p1 p2 p3 x5 o9 k (x4 ||| (0 : Int32)) (x6 + 1)
      ) else (
        (x8_barOf mo x6 x5).bind fun R5 =>
        x8_turnBarAt_L24 F mo p1 p2 p3 x5 o9 k (x4 ||| R5) (x6 + 1)
      )
    )
def x8_turnBarAt_L9 (F : Nat) (mo : SMo) (p1 : Int32) (p2 : Int32) (p3 : Int32) : Nat → Int32 → Int32 → Option (Int32)
  | 0, _, _ => none
  | k + 1, x4, x5 =>
    if (p2 + (13 : Int32)) < x5 then (
      some x4
    ) else (
      x8_turnBarAt_L24 F mo p1 p2 p3 x5 (x8_turnBarAt_L9 F mo p1 p2 p3 k) F x4 (p1 - (13 : Int32))
    )
def x8_turnBarAt (F : Nat) (mo : SMo) (p1 : Int32) (p2 : Int32) (p3 : Int32) : Option (Int32) :=
  x8_turnBarAt_L9 F mo p1 p2 p3 F (0 : Int32) (p2 - (13 : Int32))
def x8_cellX (p0 : Int32) (p1 : Int32) (p2 : Int32) : Option (Int32) :=
  if p2 = 0 then (
    some p0
  ) else (
    if p2 = (1 : Int32) then (
      some ((-p1) - (1 : Int32))
    ) else (
      if p2 = (2 : Int32) then (
        some ((-p0) - (1 : Int32))
      ) else (
        some p1
      )
    )
  )
def x8_cellY (p0 : Int32) (p1 : Int32) (p2 : Int32) : Option (Int32) :=
  if p2 = 0 then (
    some p1
  ) else (
    if p2 = (1 : Int32) then (
      some p0
    ) else (
      if p2 = (2 : Int32) then (
        some ((-p1) - (1 : Int32))
      ) else (
        some ((-p0) - (1 : Int32))
      )
    )
  )
def x8_barAt_L18 (F : Nat) (mo : SMo) (p1 : Int32) (p2 : Int32) (p3 : Int32) (x5 : Int32) (o6 : Int32 → Int32 → Option (Int32)) : Nat → Int32 → Int32 → Option (Int32)
  | 0, _, _ => none
  | k + 1, x4, x6 =>
    if (6 : Int32) ≤ x6 then (
      o6 x4 (x5 + 1)
    ) else (
      (x8_hasSquare mo x6 x5).bind fun R2 =>
      if R2 = 0 then (
        x8_barAt_L18 F mo p1 p2 p3 x5 o6 k x4 (x6 + 1)
      ) else (
        (x8_cellX (x6 - (SMo.f_holdX mo)) (x5 - (SMo.f_holdY mo)) p3).bind fun R4 =>
        (x8_cellY (x6 - (SMo.f_holdX mo)) (x5 - (SMo.f_holdY mo)) p3).bind fun R5 =>
        (x8_barOf mo (p1 + R4) (p2 + R5)).bind fun R6 =>
        x8_barAt_L18 F mo p1 p2 p3 x5 o6 k (x4 ||| R6) (x6 + 1)
      )
    )
def x8_barAt_L6 (F : Nat) (mo : SMo) (p1 : Int32) (p2 : Int32) (p3 : Int32) : Nat → Int32 → Int32 → Option (Int32)
  | 0, _, _ => none
  | k + 1, x4, x5 =>
    if (SMo.f_rowMany mo) ≤ x5 then (
      some x4
    ) else (
      x8_barAt_L18 F mo p1 p2 p3 x5 (x8_barAt_L6 F mo p1 p2 p3 k) F x4 (0 : Int32)
    )
def x8_barAt (F : Nat) (mo : SMo) (p1 : Int32) (p2 : Int32) (p3 : Int32) : Option (Int32) :=
  x8_barAt_L6 F mo p1 p2 p3 F (0 : Int32) (0 : Int32)
def x8_setBars_L59 (F : Nat) (x2 : Int32) (x3 : Int32) (x4 : Int32) (o27 : Int32 → SMo → Option (SMo)) (o16 : Int32 → SMo → Option (SMo)) : Nat → Int32 → SMo → Option (SMo)
  | 0, _, _ => none
  | k + 1, x5, mo =>
    if (4 : Int32) ≤ x5 then (
      o27 (x4 + 1) mo
    ) else (
      (x8_barAt F mo x4 x3 x5).bind fun R2 =>
      if ib ((((441 : Int32) * x5) + ((21 : Int32) * x3)) + x4) 1764 = true then (
        x8_setBars_L59 F x2 x3 x4 o27 o16 k (x5 + 1) (SMo.s_bars mo (upd (SMo.f_bars mo) (Int32.toNatClampNeg ((((441 : Int32) * x5) + ((21 : Int32) * x3)) + x4)) R2))
      ) else none
    )
def x8_setBars_L27 (F : Nat) (x2 : Int32) (x3 : Int32) (o16 : Int32 → SMo → Option (SMo)) : Nat → Int32 → SMo → Option (SMo)
  | 0, _, _ => none
  | k + 1, x4, mo =>
    if (SMo.f_wide mo) < x4 then (
      o16 (x3 + 1) mo
    ) else (
      (x8_turnBarAt F mo x4 x3 x2).bind fun R5 =>
      if ib (((21 : Int32) * x3) + x4) 441 = true then (
        x8_setBars_L59 F x2 x3 x4 (x8_setBars_L27 F x2 x3 o16 k) o16 F (0 : Int32) (SMo.s_turnBars mo (upd (SMo.f_turnBars mo) (Int32.toNatClampNeg (((21 : Int32) * x3) + x4)) R5))
      ) else none
    )
def x8_setBars_L16 (F : Nat) (x2 : Int32) : Nat → Int32 → SMo → Option (SMo)
  | 0, _, _ => none
  | k + 1, x3, mo =>
    if (SMo.f_high mo) < x3 then (
      some mo
    ) else (
      x8_setBars_L27 F x2 x3 (x8_setBars_L16 F x2 k) F (0 : Int32) mo
    )
def x8_setBars (F : Nat) (mo : SMo) (p1 : Int32) : Option (SMo) :=
  (x8_setSquares F (SMo.s_grown mo p1)).bind fun R8 =>
  (x8_farthest F R8).bind fun R9 =>
  x8_setBars_L16 F R9 F (0 : Int32) R8
def x8_begin (F : Nat) (mo : SMo) : Option (Int32 × SMo) :=
  (x8_isWhole F (SMo.s_gone mo (0 : Int32))).bind fun R1 =>
  if R1 = 0 then (
    if bo R1 = true then some (R1, (SMo.s_gone mo (0 : Int32))) else none
  ) else (
    (x8_setBars F (SMo.s_gone mo (0 : Int32)) (0 : Int32)).bind fun R4 =>
    if bo R1 = true then some (R1, R4) else none
  )
def x8_stateOf (p0 : Int32) (p1 : Int32) (p2 : Int32) : Option (Int32) :=
  some ((((441 : Int32) * p2) + ((21 : Int32) * p1)) + p0)
def x8_isFree (mo : SMo) (p1 : Int32) : Option (Int32) :=
  if ib p1 1764 = true then (
    if (((SMo.f_bars mo) (Int32.toNatClampNeg p1)) &&& ((SMo.f_gone mo) ^^^ (-1 : Int32))) = 0 then (
      some (1 : Int32)
    ) else (
      some (0 : Int32)
    )
  ) else none
def x8_free (F : Nat) (mo : SMo) (p1 : Int32) (p2 : Int32) (p3 : Int32) : Option (Int32 × SMo) :=
  (x8_isState mo p1 p2 p3).bind fun R1 =>
  if R1 = 0 then (
    some ((-1 : Int32), mo)
  ) else (
    (x8_begin F mo).bind fun R3 =>
    if (R3.1) = 0 then (
      some ((-4 : Int32), (R3.2))
    ) else (
      (x8_stateOf p1 p2 p3).bind fun R5 =>
      (x8_isFree (R3.2) R5).bind fun R6 =>
      if R6 = 0 then (
        some ((0 : Int32), (R3.2))
      ) else (
        some ((1 : Int32), (R3.2))
      )
    )
  )
def x7_turning (F : Nat) (bu : SBu) (lo : SLo) (sh : SSh) (fl : SFl) (ph : SPh) (p1 : Int32) (p2 : Int32) : Option (Int32 × SSh × SFl) :=
  (x0_isPlace bu p1 p2).bind fun R1 =>
  if R1 = 0 then (
    some ((-1 : Int32), sh, fl)
  ) else (
    (x7_layOut F bu lo sh fl ph).bind fun R3 =>
    if (R3.1) = 0 then (
      some ((-4 : Int32), (R3.2.1), (R3.2.2))
    ) else (
      (x1_fits (R3.2.2) (4 : Int32) p1 p2).bind fun R5 =>
      if R5 = 0 then (
        some ((0 : Int32), (R3.2.1), (R3.2.2))
      ) else (
        some ((1 : Int32), (R3.2.1), (R3.2.2))
      )
    )
  )
def x8_isTurning (mo : SMo) (p1 : Int32) : Option (Int32) :=
  if ib (p1 - p1 / (441 : Int32) * (441 : Int32)) 441 = true then (
    if (((SMo.f_turnBars mo) (Int32.toNatClampNeg (p1 - p1 / (441 : Int32) * (441 : Int32)))) &&& ((SMo.f_gone mo) ^^^ (-1 : Int32))) = 0 then (
      some (1 : Int32)
    ) else (
      some (0 : Int32)
    )
  ) else none
def x8_turning (F : Nat) (mo : SMo) (p1 : Int32) (p2 : Int32) : Option (Int32 × SMo) :=
  (x8_isPlace mo p1 p2).bind fun R1 =>
  if R1 = 0 then (
    some ((-1 : Int32), mo)
  ) else (
    (x8_begin F mo).bind fun R3 =>
    if (R3.1) = 0 then (
      some ((-4 : Int32), (R3.2))
    ) else (
      (x8_stateOf p1 p2 (0 : Int32)).bind fun R5 =>
      (x8_isTurning (R3.2) R5).bind fun R6 =>
      if R6 = 0 then (
        some ((0 : Int32), (R3.2))
      ) else (
        some ((1 : Int32), (R3.2))
      )
    )
  )
def x7_stateOf (p0 : Int32) (p1 : Int32) (p2 : Int32) : Option (Int32) :=
  some (((p2 * (441 : Int32)) + (p1 * (21 : Int32))) + p0)
def x7_xOf (p0 : Int32) : Option (Int32) :=
  some (p0 - p0 / (21 : Int32) * (21 : Int32))
def x7_yOf (p0 : Int32) : Option (Int32) :=
  some ((p0 / (21 : Int32)) - (p0 / (21 : Int32)) / (21 : Int32) * (21 : Int32))
def x7_qOf (p0 : Int32) : Option (Int32) :=
  some (p0 / (441 : Int32))
def x1_lead (fl : SFl) (p1 : Int32) (p2 : Int32) : Option (Int32) :=
  (x7_xOf p1).bind fun R1 =>
  (x7_yOf p1).bind fun R2 =>
  (x7_qOf p1).bind fun R3 =>
  if p2 < (4 : Int32) then (
    (x7_at 4 fAL p2).bind fun R5 =>
    (x7_at 4 fUP p2).bind fun R6 =>
    (x1_fits fl R3 (R1 + R5) (R2 + R6)).bind fun R7 =>
    if R7 = 0 then (
      some (-9 : Int32)
    ) else (
      (x7_stateOf (R1 + R5) (R2 + R6) R3).bind fun R9 =>
      some R9
    )
  ) else (
    if p2 = (4 : Int32) then (
      (x1_fits fl (4 : Int32) R1 R2).bind fun R14 =>
      if R14 = 0 then (
        some (-9 : Int32)
      ) else (
        (x7_stateOf R1 R2 ((R3 + (1 : Int32)) - (R3 + (1 : Int32)) / (4 : Int32) * (4 : Int32))).bind fun R16 =>
        some R16
      )
    ) else (
      (x1_fits fl (4 : Int32) R1 R2).bind fun R11 =>
      if R11 = 0 then (
        some (-9 : Int32)
      ) else (
        (x7_stateOf R1 R2 (((R3 + (4 : Int32)) - (1 : Int32)) - ((R3 + (4 : Int32)) - (1 : Int32)) / (4 : Int32) * (4 : Int32))).bind fun R13 =>
        some R13
      )
    )
  )
def x1_slidesFrom_L4 (F : Nat) (fl : SFl) (p1 : Int32) : Nat → Int32 → Int32 → Option (Int32)
  | 0, _, _ => none
  | k + 1, x2, x3 =>
    if (4 : Int32) ≤ x3 then (
      some x2
    ) else (
      (x1_lead fl p1 x3).bind fun R2 =>
      if R2 = (-9 : Int32) then (
        x1_slidesFrom_L4 F fl p1 k x2 (x3 + 1)
      ) else (
        x1_slidesFrom_L4 F fl p1 k (x2 + 1) (x3 + 1)
      )
    )
def x1_slidesFrom (F : Nat) (fl : SFl) (p1 : Int32) : Option (Int32) :=
  x1_slidesFrom_L4 F fl p1 F (0 : Int32) (0 : Int32)
def x1_kindOf_L44 (F : Nat) (fl : SFl) (p1 : Int32) (p2 : Int32) : Nat → Int32 → Option (Int32)
  | 0, _ => none
  | k + 1, x4 =>
    if (4 : Int32) ≤ x4 then (
      some (4 : Int32)
    ) else (
      (x1_fits fl x4 p1 p2).bind fun R2 =>
      if R2 = 0 then (
        x1_kindOf_L44 F fl p1 p2 k (x4 + 1)
      ) else (
        some (0 : Int32)
      )
    )
def x1_kindOf (F : Nat) (fl : SFl) (p1 : Int32) (p2 : Int32) (p3 : Int32) : Option (Int32) :=
  (x1_fits fl p3 p1 p2).bind fun R4 =>
  if R4 = 0 then (
    x1_kindOf_L44 F fl p1 p2 F (0 : Int32)
  ) else (
    (x1_fits fl (4 : Int32) p1 p2).bind fun R6 =>
    if R6 = 0 then (
      (x7_stateOf p1 p2 p3).bind fun R8 =>
      (x1_slidesFrom F fl R8).bind fun R9 =>
      if R9 = 0 then (
        some (3 : Int32)
      ) else (
        some (1 : Int32)
      )
    ) else (
      some (2 : Int32)
    )
  )
def x7_kind (F : Nat) (bu : SBu) (lo : SLo) (sh : SSh) (fl : SFl) (ph : SPh) (p1 : Int32) (p2 : Int32) (p3 : Int32) : Option (Int32 × SSh × SFl) :=
  (x7_isState bu ph p1 p2 p3).bind fun R1 =>
  if R1 = 0 then (
    some ((-1 : Int32), sh, fl)
  ) else (
    (x7_layOut F bu lo sh fl ph).bind fun R3 =>
    if (R3.1) = 0 then (
      some ((-4 : Int32), (R3.2.1), (R3.2.2))
    ) else (
      (x1_kindOf F (R3.2.2) p1 p2 p3).bind fun R5 =>
      some (R5, (R3.2.1), (R3.2.2))
    )
  )
def x8_next (mo : SMo) (p1 : Int32) (p2 : Int32) : Option (Int32) :=
  if p2 = (0 : Int32) then (
    if (SMo.f_wide mo) ≤ ((p1 - p1 / (441 : Int32) * (441 : Int32)) - (p1 - p1 / (441 : Int32) * (441 : Int32)) / (21 : Int32) * (21 : Int32)) then (
      some (-9 : Int32)
    ) else (
      some (p1 + (1 : Int32))
    )
  ) else (
  if p2 = (1 : Int32) then (
    if ((p1 - p1 / (441 : Int32) * (441 : Int32)) - (p1 - p1 / (441 : Int32) * (441 : Int32)) / (21 : Int32) * (21 : Int32)) ≤ 0 then (
      some (-9 : Int32)
    ) else (
      some (p1 - (1 : Int32))
    )
  ) else (
  if p2 = (2 : Int32) then (
    if (SMo.f_high mo) ≤ ((p1 - p1 / (441 : Int32) * (441 : Int32)) / (21 : Int32)) then (
      some (-9 : Int32)
    ) else (
      some (p1 + (21 : Int32))
    )
  ) else (
  if p2 = (3 : Int32) then (
    if ((p1 - p1 / (441 : Int32) * (441 : Int32)) / (21 : Int32)) ≤ 0 then (
      some (-9 : Int32)
    ) else (
      some (p1 - (21 : Int32))
    )
  ) else (
  if p2 = (4 : Int32) then (
    (x8_stateOf ((p1 - p1 / (441 : Int32) * (441 : Int32)) - (p1 - p1 / (441 : Int32) * (441 : Int32)) / (21 : Int32) * (21 : Int32)) ((p1 - p1 / (441 : Int32) * (441 : Int32)) / (21 : Int32)) (((p1 / (441 : Int32)) + (1 : Int32)) - ((p1 / (441 : Int32)) + (1 : Int32)) / (4 : Int32) * (4 : Int32))).bind fun R10 =>
    some R10
  ) else (
    (x8_stateOf ((p1 - p1 / (441 : Int32) * (441 : Int32)) - (p1 - p1 / (441 : Int32) * (441 : Int32)) / (21 : Int32) * (21 : Int32)) ((p1 - p1 / (441 : Int32) * (441 : Int32)) / (21 : Int32)) (((p1 / (441 : Int32)) + (3 : Int32)) - ((p1 / (441 : Int32)) + (3 : Int32)) / (4 : Int32) * (4 : Int32))).bind fun R11 =>
    some R11
  )))))
def x8_led (mo : SMo) (p1 : Int32) (p2 : Int32) : Option (Int32) :=
  (x8_next mo p1 p2).bind fun R1 =>
  if R1 < 0 then (
    some (-9 : Int32)
  ) else (
    (x8_isFree mo R1).bind fun R3 =>
    if R3 = 0 then (
      some (-9 : Int32)
    ) else (
      if p2 ≤ (3 : Int32) then (
        some R1
      ) else (
        (x8_isTurning mo p1).bind fun R6 =>
        if R6 = 0 then (
          some (-9 : Int32)
        ) else (
          some R1
        )
      )
    )
  )
def x8_stepMany_L4 (F : Nat) (mo : SMo) (p1 : Int32) : Nat → Int32 → Int32 → Option (Int32)
  | 0, _, _ => none
  | k + 1, x2, x3 =>
    if (4 : Int32) ≤ x3 then (
      some x2
    ) else (
      (x8_isFree mo p1).bind fun R2 =>
      if R2 = 0 then (
        x8_stepMany_L4 F mo p1 k (x2 + (0 : Int32)) (x3 + 1)
      ) else (
        (x8_led mo p1 x3).bind fun R4 =>
        if R4 < 0 then (
          x8_stepMany_L4 F mo p1 k (x2 + (0 : Int32)) (x3 + 1)
        ) else (
          x8_stepMany_L4 F mo p1 k (x2 + (1 : Int32)) (x3 + 1)
        )
      )
    )
def x8_stepMany (F : Nat) (mo : SMo) (p1 : Int32) : Option (Int32) :=
  x8_stepMany_L4 F mo p1 F (0 : Int32) (0 : Int32)
def x8_kindOf_L38 (F : Nat) (mo : SMo) (p1 : Int32) : Nat → Int32 → Int32 → Option (Int32)
  | 0, _, _ => none
  | k + 1, x2, x3 =>
    if (4 : Int32) ≤ x3 then (
      if x2 = 0 then (
        some (4 : Int32)
      ) else (
        some (0 : Int32)
      )
    ) else (
      if x2 = 0 then (
        (x8_isFree mo (((441 : Int32) * x3) + (p1 - p1 / (441 : Int32) * (441 : Int32)))).bind fun R4 =>
        if R4 = 0 then (
          x8_kindOf_L38 F mo p1 k (0 : Int32) (x3 + 1)
        ) else (
          x8_kindOf_L38 F mo p1 k (1 : Int32) (x3 + 1)
        )
      ) else (
        x8_kindOf_L38 F mo p1 k (1 : Int32) (x3 + 1)
      )
    )
def x8_kindOf (F : Nat) (mo : SMo) (p1 : Int32) : Option (Int32) :=
  (x8_isFree mo p1).bind fun R6 =>
  if R6 = 0 then (
    x8_kindOf_L38 F mo p1 F (0 : Int32) (0 : Int32)
  ) else (
    (x8_isTurning mo p1).bind fun R8 =>
    if R8 = 0 then (
      (x8_stepMany F mo p1).bind fun R10 =>
      if R10 = 0 then (
        some (3 : Int32)
      ) else (
        some (1 : Int32)
      )
    ) else (
      some (2 : Int32)
    )
  )
def x8_kind (F : Nat) (mo : SMo) (p1 : Int32) (p2 : Int32) (p3 : Int32) : Option (Int32 × SMo) :=
  (x8_isState mo p1 p2 p3).bind fun R1 =>
  if R1 = 0 then (
    some ((-1 : Int32), mo)
  ) else (
    (x8_begin F mo).bind fun R3 =>
    if (R3.1) = 0 then (
      some ((-4 : Int32), (R3.2))
    ) else (
      (x8_stateOf p1 p2 p3).bind fun R5 =>
      (x8_kindOf F (R3.2) R5).bind fun R6 =>
      some (R6, (R3.2))
    )
  )
def x7_isOfKind (p0 : Int32) (p1 : Int32) : Option (Int32) :=
  if p1 = 0 then (
    some (1 : Int32)
  ) else (
    if p1 = p0 then (
      some (1 : Int32)
    ) else (
      if p1 = (1 : Int32) then (
        if p0 = (2 : Int32) then (
          some (1 : Int32)
        ) else (
          if p0 = (3 : Int32) then (
            some (1 : Int32)
          ) else (
            some (0 : Int32)
          )
        )
      ) else (
        some (0 : Int32)
      )
    )
  )
def x7_steps (F : Nat) (bu : SBu) (lo : SLo) (sh : SSh) (fl : SFl) (ph : SPh) (p1 : Int32) (p2 : Int32) (p3 : Int32) (p4 : Int32) : Option (Int32 × SSh × SFl × SPh) :=
  (x7_isState bu ph p1 p2 p3).bind fun R1 =>
  if R1 = 0 then (
    some ((-1 : Int32), sh, fl, ph)
  ) else (
    (x7_isWithin p4 (0 : Int32) (4 : Int32)).bind fun R3 =>
    if R3 = 0 then (
      some ((-1 : Int32), sh, fl, ph)
    ) else (
      (x7_layOut F bu lo sh fl ph).bind fun R5 =>
      if (R5.1) = 0 then (
        some ((-4 : Int32), (R5.2.1), (R5.2.2), ph)
      ) else (
        (x1_kindOf F (R5.2.2) p1 p2 p3).bind fun R7 =>
        (x7_isOfKind R7 p4).bind fun R8 =>
        if R8 = 0 then (
          (x7_find ph (3 : Int32)).bind fun R14 =>
          some ((R14.1), (R5.2.1), (R5.2.2), (R14.2))
        ) else (
          (x1_fits (R5.2.2) p3 p1 p2).bind fun R10 =>
          if R10 = 0 then (
            some ((0 : Int32), (R5.2.1), (R5.2.2), ph)
          ) else (
            (x7_stateOf p1 p2 p3).bind fun R12 =>
            (x1_slidesFrom F (R5.2.2) R12).bind fun R13 =>
            some (R13, (R5.2.1), (R5.2.2), ph)
          )
        )
      )
    )
  )
def x8_steps (F : Nat) (mo : SMo) (p1 : Int32) (p2 : Int32) (p3 : Int32) (p4 : Int32) : Option (Int32 × SMo) :=
  (x8_isState mo p1 p2 p3).bind fun R1 =>
  if R1 = 0 then (
    some ((-1 : Int32), mo)
  ) else (
    (x8_in p4 (0 : Int32) (4 : Int32)).bind fun R3 =>
    if R3 = 0 then (
      some ((-1 : Int32), mo)
    ) else (
      (x8_begin F mo).bind fun R5 =>
      if (R5.1) = 0 then (
        some ((-4 : Int32), (R5.2))
      ) else (
        (x8_stateOf p1 p2 p3).bind fun R7 =>
        (x8_kindOf F (R5.2) R7).bind fun R8 =>
        if p4 = 0 then (
          (x8_stateOf p1 p2 p3).bind fun R11 =>
          (x8_stepMany F (R5.2) R11).bind fun R12 =>
          some (R12, (R5.2))
        ) else (
          if p4 = R8 then (
            (x8_stateOf p1 p2 p3).bind fun R15 =>
            (x8_stepMany F (R5.2) R15).bind fun R16 =>
            some (R16, (R5.2))
          ) else (
            if p4 = (1 : Int32) then (
              if R8 = (2 : Int32) then (
                (x8_stateOf p1 p2 p3).bind fun R22 =>
                (x8_stepMany F (R5.2) R22).bind fun R23 =>
                some (R23, (R5.2))
              ) else (
                if R8 = (3 : Int32) then (
                  (x8_stateOf p1 p2 p3).bind fun R28 =>
                  (x8_stepMany F (R5.2) R28).bind fun R29 =>
                  some (R29, (R5.2))
                ) else (
                  (x8_meets (R5.2) (3 : Int32)).bind fun R26 =>
                  some ((R26.1), (R26.2))
                )
              )
            ) else (
              (x8_meets (R5.2) (3 : Int32)).bind fun R19 =>
              some ((R19.1), (R19.2))
            )
          )
        )
      )
    )
  )
def x3_regionOf (re : SRe) (p1 : Int32) (p2 : Int32) : Option (Int32) :=
  (x7_stateOf p1 p2 (0 : Int32)).bind fun R1 =>
  (x7_at 441 (SRe.f_numbers re) R1).bind fun R2 =>
  some R2
def x3_join (re : SRe) (p1 : Int32) : Option (SRe) :=
  (x7_put 441 (SRe.f_numbers re) (p1 - p1 / (441 : Int32) * (441 : Int32)) (SRe.f_count re)).bind fun R1 =>
  (x7_put 441 (SRe.f_queue re) (SRe.f_queued re) p1).bind fun R2 =>
  some (SRe.s_queued (SRe.s_queue (SRe.s_numbers re R1) R2) ((SRe.f_queued re) + (1 : Int32)))
def x3_spread_L30 (F : Nat) (fl : SFl) (x3 : Int32) (o12 : Int32 → SRe → Option (SRe)) : Nat → Int32 → SRe → Option (SRe)
  | 0, _, _ => none
  | k + 1, x4, re =>
    if (4 : Int32) ≤ x4 then (
      o12 (x3 + 1) re
    ) else (
      (x7_at 441 (SRe.f_queue re) x3).bind fun R2 =>
      (x1_lead fl R2 x4).bind fun R3 =>
      if R3 = (-9 : Int32) then (
        x3_spread_L30 F fl x3 o12 k (x4 + 1) re
      ) else (
        (x7_at 441 (SRe.f_numbers re) (R3 - R3 / (441 : Int32) * (441 : Int32))).bind fun R5 =>
        if R5 = (-9 : Int32) then (
          (x3_join re R3).bind fun R7 =>
          x3_spread_L30 F fl x3 o12 k (x4 + 1) R7
        ) else (
          x3_spread_L30 F fl x3 o12 k (x4 + 1) re
        )
      )
    )
def x3_spread_L12 (F : Nat) (fl : SFl) : Nat → Int32 → SRe → Option (SRe)
  | 0, _, _ => none
  | k + 1, x3, re =>
    if (441 : Int32) ≤ x3 then (
      some (SRe.s_count re ((SRe.f_count re) + (1 : Int32)))
    ) else (
      if (SRe.f_queued re) ≤ x3 then (
        some (SRe.s_count re ((SRe.f_count re) + (1 : Int32)))
      ) else (
        x3_spread_L30 F fl x3 (x3_spread_L12 F fl k) F (0 : Int32) re
      )
    )
def x3_spread (F : Nat) (fl : SFl) (re : SRe) (p2 : Int32) : Option (SRe) :=
  (x3_join (SRe.s_queued re (0 : Int32)) p2).bind fun R10 =>
  x3_spread_L12 F fl F (0 : Int32) R10
def x3_split_L27 (F : Nat) (fl : SFl) (p2 : Int32) (x3 : Int32) (o16 : Int32 → SRe → Option (SRe)) : Nat → Int32 → SRe → Option (SRe)
  | 0, _, _ => none
  | k + 1, x4, re =>
    if (SFl.f_w fl) < x4 then (
      o16 (x3 + 1) re
    ) else (
      (x1_fits fl p2 x4 x3).bind fun R2 =>
      if R2 = 0 then (
        x3_split_L27 F fl p2 x3 o16 k (x4 + 1) re
      ) else (
        (x3_regionOf re x4 x3).bind fun R4 =>
        if R4 = (-9 : Int32) then (
          (x7_stateOf x4 x3 p2).bind fun R6 =>
          (x3_spread F fl re R6).bind fun R7 =>
          x3_split_L27 F fl p2 x3 o16 k (x4 + 1) R7
        ) else (
          x3_split_L27 F fl p2 x3 o16 k (x4 + 1) re
        )
      )
    )
def x3_split_L16 (F : Nat) (fl : SFl) (p2 : Int32) : Nat → Int32 → SRe → Option (SRe)
  | 0, _, _ => none
  | k + 1, x3, re =>
    if (SFl.f_h fl) < x3 then (
      some re
    ) else (
      x3_split_L27 F fl p2 x3 (x3_split_L16 F fl p2 k) F (0 : Int32) re
    )
def x3_split (F : Nat) (fl : SFl) (re : SRe) (p2 : Int32) : Option (SRe) :=
  (x7_fillWith F 441 (SRe.f_numbers re) (-9 : Int32)).bind fun R9 =>
  x3_split_L16 F fl p2 F (0 : Int32) (SRe.s_numbers (SRe.s_count re (0 : Int32)) R9)
def x7_pieces (F : Nat) (bu : SBu) (lo : SLo) (sh : SSh) (fl : SFl) (re : SRe) (ph : SPh) (p1 : Int32) : Option (Int32 × SSh × SFl × SRe) :=
  (x7_isWithin p1 (0 : Int32) (3 : Int32)).bind fun R1 =>
  if R1 = 0 then (
    some ((-1 : Int32), sh, fl, re)
  ) else (
    (x7_layOut F bu lo sh fl ph).bind fun R3 =>
    if (R3.1) = 0 then (
      some ((-4 : Int32), (R3.2.1), (R3.2.2), re)
    ) else (
      (x3_split F (R3.2.2) re p1).bind fun R5 =>
      some ((SRe.f_count R5), (R3.2.1), (R3.2.2), R5)
    )
  )
def x8_flood_L38 (F : Nat) (mo : SMo) (p2 : Int32) (x4 : Int32) (o20 : Int32 → (Nat → Int32) → (Nat → Int32) → Option (SMo)) : Nat → Int32 → Int32 → (Nat → Int32) → (Nat → Int32) → Option (SMo)
  | 0, _, _, _, _ => none
  | k + 1, x3, x5, mo_pieceOf, mo_todo =>
    if (4 : Int32) ≤ x5 then (
      o20 x3 mo_pieceOf mo_todo
    ) else (
      (x8_led (SMo.s_todo (SMo.s_pieceOf mo mo_pieceOf) mo_todo) x4 x5).bind fun R2 =>
      if R2 < 0 then (
        x8_flood_L38 F mo p2 x4 o20 k x3 (x5 + 1) mo_pieceOf mo_todo
      ) else (
        if ib (R2 - R2 / (441 : Int32) * (441 : Int32)) 441 = true then (
          if 0 ≤ (mo_pieceOf (Int32.toNatClampNeg (R2 - R2 / (441 : Int32) * (441 : Int32)))) then (
            x8_flood_L38 F mo p2 x4 o20 k x3 (x5 + 1) mo_pieceOf mo_todo
          ) else (
            if ib (R2 - R2 / (441 : Int32) * (441 : Int32)) 441 = true then (
              if ib x3 1764 = true then (
                x8_flood_L38 F mo p2 x4 o20 k (x3 + 1) (x5 + 1) (upd mo_pieceOf (Int32.toNatClampNeg (R2 - R2 / (441 : Int32) * (441 : Int32))) p2) (upd mo_todo (Int32.toNatClampNeg x3) R2)
              ) else none
            ) else none
          )
        ) else none
      )
    )
def x8_flood_L20 (F : Nat) (mo : SMo) (p2 : Int32) : Nat → Int32 → (Nat → Int32) → (Nat → Int32) → Option (SMo)
  | 0, _, _, _ => none
  | k + 1, x3, mo_pieceOf, mo_todo =>
    if x3 ≤ 0 then (
      some (SMo.s_todo (SMo.s_pieceOf mo mo_pieceOf) mo_todo)
    ) else (
      if ib (x3 + (-1)) 1764 = true then (
        x8_flood_L38 F mo p2 (mo_todo (Int32.toNatClampNeg (x3 + (-1)))) (x8_flood_L20 F mo p2 k) F (x3 + (-1)) (0 : Int32) mo_pieceOf mo_todo
      ) else none
    )
def x8_flood (F : Nat) (mo : SMo) (p1 : Int32) (p2 : Int32) : Option (SMo) :=
  if ib (0 : Int32) 1764 = true then (
    if ib (p1 - p1 / (441 : Int32) * (441 : Int32)) 441 = true then (
      x8_flood_L20 F mo p2 F (1 : Int32) (upd (SMo.f_pieceOf mo) (Int32.toNatClampNeg (p1 - p1 / (441 : Int32) * (441 : Int32))) p2) (upd (SMo.f_todo mo) (Int32.toNatClampNeg (0 : Int32)) p1)
    ) else none
  ) else none
def x8_setPieces_L38 (F : Nat) (p1 : Int32) (x3 : Int32) (o27 : Int32 → Int32 → SMo → Option (Int32 × SMo)) : Nat → Int32 → Int32 → SMo → Option (Int32 × SMo)
  | 0, _, _, _ => none
  | k + 1, x2, x4, mo =>
    if (SMo.f_wide mo) < x4 then (
      o27 x2 (x3 + 1) mo
    ) else (
      (x8_stateOf x4 x3 p1).bind fun R2 =>
      (x8_isFree mo R2).bind fun R3 =>
      if R3 = 0 then (
        x8_setPieces_L38 F p1 x3 o27 k x2 (x4 + 1) mo
      ) else (
        if ib (((21 : Int32) * x3) + x4) 441 = true then (
          if 0 ≤ ((SMo.f_pieceOf mo) (Int32.toNatClampNeg (((21 : Int32) * x3) + x4))) then (
            x8_setPieces_L38 F p1 x3 o27 k x2 (x4 + 1) mo
          ) else (
            (x8_stateOf x4 x3 p1).bind fun R7 =>
            (x8_flood F mo R7 x2).bind fun R8 =>
            x8_setPieces_L38 F p1 x3 o27 k (x2 + 1) (x4 + 1) R8
          )
        ) else none
      )
    )
def x8_setPieces_L27 (F : Nat) (p1 : Int32) : Nat → Int32 → Int32 → SMo → Option (Int32 × SMo)
  | 0, _, _, _ => none
  | k + 1, x2, x3, mo =>
    if (SMo.f_high mo) < x3 then (
      some (x2, mo)
    ) else (
      x8_setPieces_L38 F p1 x3 (x8_setPieces_L27 F p1 k) F x2 (0 : Int32) mo
    )
def x8_setPieces_L2 (F : Nat) (p1 : Int32) : Nat → Int32 → SMo → Option (Int32 × SMo)
  | 0, _, _ => none
  | k + 1, x2, mo =>
    if (441 : Int32) ≤ x2 then (
      x8_setPieces_L27 F p1 F (0 : Int32) (0 : Int32) mo
    ) else (
      if ib x2 441 = true then (
        x8_setPieces_L2 F p1 k (x2 + 1) (SMo.s_pieceOf mo (upd (SMo.f_pieceOf mo) (Int32.toNatClampNeg x2) (-9 : Int32)))
      ) else none
    )
def x8_setPieces (F : Nat) (mo : SMo) (p1 : Int32) : Option (Int32 × SMo) :=
  x8_setPieces_L2 F p1 F (0 : Int32) mo
def x8_pieces (F : Nat) (mo : SMo) (p1 : Int32) : Option (Int32 × SMo) :=
  (x8_in p1 (0 : Int32) (3 : Int32)).bind fun R1 =>
  if R1 = 0 then (
    some ((-1 : Int32), mo)
  ) else (
    (x8_begin F mo).bind fun R3 =>
    if (R3.1) = 0 then (
      some ((-4 : Int32), (R3.2))
    ) else (
      (x8_setPieces F (R3.2) p1).bind fun R5 =>
      some ((R5.1), (R5.2))
    )
  )
def x7_piece (F : Nat) (bu : SBu) (lo : SLo) (sh : SSh) (fl : SFl) (re : SRe) (ph : SPh) (p1 : Int32) (p2 : Int32) (p3 : Int32) : Option (Int32 × SSh × SFl × SRe) :=
  (x7_isState bu ph p1 p2 p3).bind fun R1 =>
  if R1 = 0 then (
    some ((-1 : Int32), sh, fl, re)
  ) else (
    (x7_layOut F bu lo sh fl ph).bind fun R3 =>
    if (R3.1) = 0 then (
      some ((-4 : Int32), (R3.2.1), (R3.2.2), re)
    ) else (
      (x3_split F (R3.2.2) re p3).bind fun R5 =>
      (x3_regionOf R5 p1 p2).bind fun R6 =>
      some (R6, (R3.2.1), (R3.2.2), R5)
    )
  )
def x8_piece (F : Nat) (mo : SMo) (p1 : Int32) (p2 : Int32) (p3 : Int32) : Option (Int32 × SMo) :=
  (x8_isState mo p1 p2 p3).bind fun R1 =>
  if R1 = 0 then (
    some ((-1 : Int32), mo)
  ) else (
    (x8_begin F mo).bind fun R3 =>
    if (R3.1) = 0 then (
      some ((-4 : Int32), (R3.2))
    ) else (
      (x8_setPieces F (R3.2) p3).bind fun R5 =>
      if ib (((21 : Int32) * p2) + p1) 441 = true then (
        some (((SMo.f_pieceOf (R5.2)) (Int32.toNatClampNeg (((21 : Int32) * p2) + p1))), (R5.2))
      ) else none
    )
  )
def x3_counts (F : Nat) (fl : SFl) (p1 : Int32) (p2 : Int32) : Option (Int32) :=
  if p2 = (1 : Int32) then (
    (x7_xOf p1).bind fun R5 =>
    (x7_yOf p1).bind fun R6 =>
    (x1_fits fl (4 : Int32) R5 R6).bind fun R7 =>
    if bo R7 = true then some R7 else none
  ) else (
    if p2 = 0 then (
      some (1 : Int32)
    ) else (
      (x1_slidesFrom F fl p1).bind fun R3 =>
      if (4 : Int32) ≤ R3 then (
        some (0 : Int32)
      ) else (
        some (1 : Int32)
      )
    )
  )
def x3_measure_L18 (F : Nat) (fl : SFl) (re : SRe) (p2 : Int32) (p3 : Int32) (p4 : Int32) (x6 : Int32) (o6 : Int32 → Int32 → Option (Int32)) : Nat → Int32 → Int32 → Option (Int32)
  | 0, _, _ => none
  | k + 1, x5, x7 =>
    if (SFl.f_w fl) < x7 then (
      o6 x5 (x6 + 1)
    ) else (
      (x3_regionOf re x7 x6).bind fun R2 =>
      if R2 = p3 then (
        (x7_stateOf x7 x6 p2).bind fun R4 =>
        (x3_counts F fl R4 p4).bind fun R5 =>
        if R5 = 0 then (
          x3_measure_L18 F fl re p2 p3 p4 x6 o6 k x5 (x7 + 1)
        ) else (
          x3_measure_L18 F fl re p2 p3 p4 x6 o6 k (x5 + 1) (x7 + 1)
        )
      ) else (
        x3_measure_L18 F fl re p2 p3 p4 x6 o6 k x5 (x7 + 1)
      )
    )
def x3_measure_L6 (F : Nat) (fl : SFl) (re : SRe) (p2 : Int32) (p3 : Int32) (p4 : Int32) : Nat → Int32 → Int32 → Option (Int32)
  | 0, _, _ => none
  | k + 1, x5, x6 =>
    if (SFl.f_h fl) < x6 then (
      some x5
    ) else (
      x3_measure_L18 F fl re p2 p3 p4 x6 (x3_measure_L6 F fl re p2 p3 p4 k) F x5 (0 : Int32)
    )
def x3_measure (F : Nat) (fl : SFl) (re : SRe) (p2 : Int32) (p3 : Int32) (p4 : Int32) : Option (Int32) :=
  x3_measure_L6 F fl re p2 p3 p4 F (0 : Int32) (0 : Int32)
def x7_area (F : Nat) (bu : SBu) (lo : SLo) (sh : SSh) (fl : SFl) (re : SRe) (ph : SPh) (p1 : Int32) (p2 : Int32) (p3 : Int32) : Option (Int32 × SSh × SFl × SRe) :=
  (x7_isWithin p1 (0 : Int32) (3 : Int32)).bind fun R1 =>
  if R1 = 0 then (
    some ((-1 : Int32), sh, fl, re)
  ) else (
    (x7_isWithin p3 (0 : Int32) (2 : Int32)).bind fun R3 =>
    if R3 = 0 then (
      some ((-1 : Int32), sh, fl, re)
    ) else (
      if 0 ≤ p2 then (
        (x7_layOut F bu lo sh fl ph).bind fun R6 =>
        if (R6.1) = 0 then (
          some ((-4 : Int32), (R6.2.1), (R6.2.2), re)
        ) else (
          (x3_split F (R6.2.2) re p1).bind fun R8 =>
          if p2 < (SRe.f_count R8) then (
            (x3_measure F (R6.2.2) R8 p1 p2 p3).bind fun R10 =>
            some (R10, (R6.2.1), (R6.2.2), R8)
          ) else (
            some ((-1 : Int32), (R6.2.1), (R6.2.2), R8)
          )
        )
      ) else (
        some ((-1 : Int32), sh, fl, re)
      )
    )
  )
def x8_area_L51 (F : Nat) (p1 : Int32) (p2 : Int32) (p3 : Int32) (mo : SMo) : Nat → Int32 → Int32 → Option (Int32 × SMo)
  | 0, _, _ => none
  | k + 1, x4, x5 =>
    if (441 : Int32) ≤ x5 then (
      some (x4, mo)
    ) else (
      if ib x5 441 = true then (
        if ((SMo.f_pieceOf mo) (Int32.toNatClampNeg x5)) = p2 then (
          if p3 = 0 then (
            x8_area_L51 F p1 p2 p3 mo k (x4 + (1 : Int32)) (x5 + 1)
          ) else (
            if p3 = (1 : Int32) then (
              (x8_isTurning mo (((441 : Int32) * p1) + x5)).bind fun R14 =>
              if R14 = 0 then (
                if p3 = (2 : Int32) then (
                  (x8_stepMany F mo (((441 : Int32) * p1) + x5)).bind fun R19 =>
                  if (4 : Int32) ≤ R19 then (
                    x8_area_L51 F p1 p2 p3 mo k (x4 + (0 : Int32)) (x5 + 1)
                  ) else (
                    x8_area_L51 F p1 p2 p3 mo k (x4 + (1 : Int32)) (x5 + 1)
                  )
                ) else (
                  x8_area_L51 F p1 p2 p3 mo k (x4 + (0 : Int32)) (x5 + 1)
                )
              ) else (
                x8_area_L51 F p1 p2 p3 mo k (x4 + (1 : Int32)) (x5 + 1)
              )
            ) else (
              if p3 = (2 : Int32) then (
                (x8_stepMany F mo (((441 : Int32) * p1) + x5)).bind fun R10 =>
                if (4 : Int32) ≤ R10 then (
                  x8_area_L51 F p1 p2 p3 mo k (x4 + (0 : Int32)) (x5 + 1)
                ) else (
                  x8_area_L51 F p1 p2 p3 mo k (x4 + (1 : Int32)) (x5 + 1)
                )
              ) else (
                x8_area_L51 F p1 p2 p3 mo k (x4 + (0 : Int32)) (x5 + 1)
              )
            )
          )
        ) else (
          x8_area_L51 F p1 p2 p3 mo k (x4 + (0 : Int32)) (x5 + 1)
        )
      ) else none
    )
def x8_area (F : Nat) (mo : SMo) (p1 : Int32) (p2 : Int32) (p3 : Int32) : Option (Int32 × SMo) :=
  (x8_in p1 (0 : Int32) (3 : Int32)).bind fun R23 =>
  if R23 = 0 then (
    some ((-1 : Int32), mo)
  ) else (
    if p2 < 0 then (
      some ((-1 : Int32), mo)
    ) else (
      (x8_in p3 (0 : Int32) (2 : Int32)).bind fun R26 =>
      if R26 = 0 then (
        some ((-1 : Int32), mo)
      ) else (
        (x8_begin F mo).bind fun R28 =>
        if (R28.1) = 0 then (
          some ((-4 : Int32), (R28.2))
        ) else (
          (x8_setPieces F (R28.2) p1).bind fun R30 =>
          if p2 < (R30.1) then (
            x8_area_L51 F p1 p2 p3 (R30.2) F (0 : Int32) (0 : Int32)
          ) else (
            some ((-1 : Int32), (R30.2))
          )
        )
      )
    )
  )
def x1_slideLength_L13 (F : Nat) (fl : SFl) (p2 : Int32) : Nat → Int32 → Int32 → Int32 → Option (Int32)
  | 0, _, _, _ => none
  | k + 1, x3, x4, x5 =>
    if (21 : Int32) ≤ x5 then (
      some x4
    ) else (
      if x3 = (-9 : Int32) then (
        some x4
      ) else (
        (x1_lead fl x3 p2).bind fun R3 =>
        x1_slideLength_L13 F fl p2 k R3 (x4 + 1) (x5 + 1)
      )
    )
def x1_slideLength (F : Nat) (fl : SFl) (p1 : Int32) (p2 : Int32) : Option (Int32) :=
  (x1_lead fl p1 p2).bind fun R4 =>
  x1_slideLength_L13 F fl p2 F R4 (0 : Int32) (0 : Int32)
def x7_slide (F : Nat) (bu : SBu) (lo : SLo) (sh : SSh) (fl : SFl) (ph : SPh) (p1 : Int32) (p2 : Int32) (p3 : Int32) (p4 : Int32) : Option (Int32 × SSh × SFl) :=
  (x7_isState bu ph p1 p2 p3).bind fun R1 =>
  if R1 = 0 then (
    some ((-1 : Int32), sh, fl)
  ) else (
    (x7_isWithin p4 (0 : Int32) (3 : Int32)).bind fun R3 =>
    if R3 = 0 then (
      some ((-1 : Int32), sh, fl)
    ) else (
      (x7_layOut F bu lo sh fl ph).bind fun R5 =>
      if (R5.1) = 0 then (
        some ((-4 : Int32), (R5.2.1), (R5.2.2))
      ) else (
        (x1_fits (R5.2.2) p3 p1 p2).bind fun R7 =>
        if R7 = 0 then (
          some ((-9 : Int32), (R5.2.1), (R5.2.2))
        ) else (
          (x7_stateOf p1 p2 p3).bind fun R9 =>
          (x1_slideLength F (R5.2.2) R9 p4).bind fun R10 =>
          some (R10, (R5.2.1), (R5.2.2))
        )
      )
    )
  )
def x8_slide_L65 (F : Nat) (p4 : Int32) (mo : SMo) : Nat → Int32 → Int32 → Option (Int32 × SMo)
  | 0, _, _ => none
  | k + 1, x6, x7 =>
    if x7 < 0 then (
      some (x6, mo)
    ) else (
      (x8_led mo x7 p4).bind fun R2 =>
      x8_slide_L65 F p4 mo k (x6 + 1) R2
    )
def x8_slide (F : Nat) (mo : SMo) (p1 : Int32) (p2 : Int32) (p3 : Int32) (p4 : Int32) : Option (Int32 × SMo) :=
  (x8_isState mo p1 p2 p3).bind fun R3 =>
  if R3 = 0 then (
    some ((-1 : Int32), mo)
  ) else (
    (x8_in p4 (0 : Int32) (3 : Int32)).bind fun R5 =>
    if R5 = 0 then (
      some ((-1 : Int32), mo)
    ) else (
      (x8_begin F mo).bind fun R7 =>
      if (R7.1) = 0 then (
        some ((-4 : Int32), (R7.2))
      ) else (
        (x8_stateOf p1 p2 p3).bind fun R9 =>
        (x8_isFree (R7.2) R9).bind fun R10 =>
        if R10 = 0 then (
          some ((-9 : Int32), (R7.2))
        ) else (
          (x8_led (R7.2) R9 p4).bind fun R12 =>
          x8_slide_L65 F p4 (R7.2) F (0 : Int32) R12
        )
      )
    )
  )
def x7_end (bu : SBu) (ph : SPh) (p1 : Int32) (p2 : Int32) (p3 : Int32) (p4 : Int32) : Option (Int32 × SPh) :=
  (x7_isState bu ph p2 p3 p4).bind fun R1 =>
  if R1 = 0 then (
    some ((-1 : Int32), ph)
  ) else (
    if p1 = 0 then (
      (x7_stateOf p2 p3 p4).bind fun R4 =>
      some ((1 : Int32), (SPh.s_beginning ph R4))
    ) else (
      (x7_stateOf p2 p3 p4).bind fun R5 =>
      some ((1 : Int32), (SPh.s_goalState ph R5))
    )
  )
def x8_end (mo : SMo) (p1 : Int32) (p2 : Int32) (p3 : Int32) (p4 : Int32) : Option (Int32 × SMo) :=
  (x8_isState mo p2 p3 p4).bind fun R1 =>
  if R1 = 0 then (
    some ((-1 : Int32), mo)
  ) else (
    if p1 = 0 then (
      if ib (0 : Int32) 6 = true then (
        if ib ((0 : Int32) + (1 : Int32)) 6 = true then (
          if ib ((0 : Int32) + (2 : Int32)) 6 = true then (
            some ((1 : Int32), (SMo.s_ends mo (upd (upd (upd (SMo.f_ends mo) (Int32.toNatClampNeg (0 : Int32)) p2) (Int32.toNatClampNeg ((0 : Int32) + (1 : Int32))) p3) (Int32.toNatClampNeg ((0 : Int32) + (2 : Int32))) p4)))
          ) else none
        ) else none
      ) else none
    ) else (
      if ib (3 : Int32) 6 = true then (
        if ib ((3 : Int32) + (1 : Int32)) 6 = true then (
          if ib ((3 : Int32) + (2 : Int32)) 6 = true then (
            some ((1 : Int32), (SMo.s_ends mo (upd (upd (upd (SMo.f_ends mo) (Int32.toNatClampNeg (3 : Int32)) p2) (Int32.toNatClampNeg ((3 : Int32) + (1 : Int32))) p3) (Int32.toNatClampNeg ((3 : Int32) + (2 : Int32))) p4)))
          ) else none
        ) else none
      ) else none
    )
  )
def x1_isFree (fl : SFl) (p1 : Int32) : Option (Int32) :=
  (x7_qOf p1).bind fun R1 =>
  (x7_xOf p1).bind fun R2 =>
  (x7_yOf p1).bind fun R3 =>
  (x1_fits fl R1 R2 R3).bind fun R4 =>
  if bo R4 = true then some R4 else none
def x5_sow (se : SSe) (p1 : Int32) (p2 : Int32) : Option (SSe) :=
  (x7_put 3528 (SSe.f_seeds se) (SSe.f_seeded se) p1).bind fun R1 =>
  (x7_put 3528 (SSe.f_seedLengths se) (SSe.f_seeded se) p2).bind fun R2 =>
  some (SSe.s_seedLengths (SSe.s_seeds (SSe.s_seeded se ((SSe.f_seeded se) + (1 : Int32))) R1) R2)
def x5_reach (se : SSe) (p1 : Int32) (p2 : Int32) (p3 : Int32) : Option (SSe) :=
  (x7_at 1764 (SSe.f_turns se) p1).bind fun R1 =>
  if R1 = (-9 : Int32) then (
    (x7_put 1764 (SSe.f_turns se) p1 p2).bind fun R3 =>
    (x7_put 1764 (SSe.f_lengths se) p1 p3).bind fun R4 =>
    (x7_put 1764 (SSe.f_order se) (SSe.f_size se) p1).bind fun R5 =>
    some (SSe.s_lengths (SSe.s_turns (SSe.s_order (SSe.s_size se ((SSe.f_size se) + (1 : Int32))) R5) R3) R4)
  ) else (
    some se
  )
def x5_slideOn_L15 (F : Nat) (fl : SFl) (p2 : Int32) (p3 : Int32) (x4 : Int32) : Nat → Int32 → SSe → Option (SSe)
  | 0, _, _ => none
  | k + 1, x5, se =>
    if (4 : Int32) ≤ x5 then (
      some se
    ) else (
      (x1_lead fl p2 x5).bind fun R2 =>
      if R2 = (-9 : Int32) then (
        x5_slideOn_L15 F fl p2 p3 x4 k (x5 + 1) se
      ) else (
        (x5_reach se R2 p3 x4).bind fun R4 =>
        x5_slideOn_L15 F fl p2 p3 x4 k (x5 + 1) R4
      )
    )
def x5_slideOn (F : Nat) (fl : SFl) (se : SSe) (p2 : Int32) (p3 : Int32) : Option (SSe) :=
  (x7_at 1764 (SSe.f_lengths se) p2).bind fun R5 =>
  x5_slideOn_L15 F fl p2 p3 (R5 + (1 : Int32)) F (0 : Int32) se
def x5_spread_L11 (F : Nat) (fl : SFl) (p2 : Int32) : Nat → Int32 → Int32 → Int32 → SSe → Option (SSe)
  | 0, _, _, _, _ => none
  | k + 1, x3, x4, x5, se =>
    if (5292 : Int32) ≤ x5 then (
      some se
    ) else (
      if (SSe.f_seeded se) ≤ x4 then (
        if (SSe.f_size se) ≤ x3 then (
          some se
        ) else (
          (x7_at 1764 (SSe.f_order se) x3).bind fun R8 =>
          (x5_slideOn F fl se R8 p2).bind fun R10 =>
          x5_spread_L11 F fl p2 k (x3 + 1) x4 (x5 + 1) R10
        )
      ) else (
        if (SSe.f_size se) ≤ x3 then (
          (x7_at 1764 (SSe.f_order se) x3).bind fun R13 =>
          (x7_at 3528 (SSe.f_seeds se) x4).bind fun R16 =>
          (x7_at 3528 (SSe.f_seedLengths se) x4).bind fun R17 =>
          (x5_reach se R16 p2 R17).bind fun R18 =>
          x5_spread_L11 F fl p2 k x3 (x4 + 1) (x5 + 1) R18
        ) else (
          (x7_at 1764 (SSe.f_order se) x3).bind fun R20 =>
          (x7_at 3528 (SSe.f_seedLengths se) x4).bind fun R23 =>
          (x7_at 1764 (SSe.f_lengths se) R20).bind fun R24 =>
          if R24 < R23 then (
            (x5_slideOn F fl se R20 p2).bind fun R26 =>
            x5_spread_L11 F fl p2 k (x3 + 1) x4 (x5 + 1) R26
          ) else (
            (x7_at 3528 (SSe.f_seeds se) x4).bind fun R27 =>
            (x7_at 3528 (SSe.f_seedLengths se) x4).bind fun R28 =>
            (x5_reach se R27 p2 R28).bind fun R29 =>
            x5_spread_L11 F fl p2 k x3 (x4 + 1) (x5 + 1) R29
          )
        )
      )
    )
def x5_spread (F : Nat) (fl : SFl) (se : SSe) (p2 : Int32) : Option (SSe) :=
  x5_spread_L11 F fl p2 F (SSe.f_size se) (0 : Int32) (0 : Int32) se
def x5_isReached (se : SSe) (p1 : Int32) : Option (Int32) :=
  (x7_at 1764 (SSe.f_turns se) p1).bind fun R1 =>
  if R1 = (-9 : Int32) then (
    some (0 : Int32)
  ) else (
    some (1 : Int32)
  )
def x5_sowNext_L28 (F : Nat) (fl : SFl) (x3 : Int32) (x4 : Int32) (o7 : Int32 → SSe → Option (SSe)) : Nat → Int32 → SSe → Option (SSe)
  | 0, _, _ => none
  | k + 1, x5, se =>
    if (6 : Int32) ≤ x5 then (
      o7 (x3 + 1) se
    ) else (
      (x1_lead fl x4 x5).bind fun R2 =>
      if R2 = (-9 : Int32) then (
        x5_sowNext_L28 F fl x3 x4 o7 k (x5 + 1) se
      ) else (
        (x5_isReached se R2).bind fun R4 =>
        if R4 = 0 then (
          (x7_at 1764 (SSe.f_lengths se) x4).bind fun R6 =>
          (x5_sow se R2 (R6 + (1 : Int32))).bind fun R7 =>
          x5_sowNext_L28 F fl x3 x4 o7 k (x5 + 1) R7
        ) else (
          x5_sowNext_L28 F fl x3 x4 o7 k (x5 + 1) se
        )
      )
    )
def x5_sowNext_L7 (F : Nat) (fl : SFl) : Nat → Int32 → SSe → Option (SSe)
  | 0, _, _ => none
  | k + 1, x3, se =>
    if (SSe.f_size se) ≤ x3 then (
      some se
    ) else (
      (x7_at 1764 (SSe.f_order se) x3).bind fun R9 =>
      x5_sowNext_L28 F fl x3 R9 (x5_sowNext_L7 F fl k) F (4 : Int32) se
    )
def x5_sowNext (F : Nat) (fl : SFl) (se : SSe) (p2 : Int32) : Option (SSe) :=
  x5_sowNext_L7 F fl F p2 (SSe.s_seeded se (0 : Int32))
def x5_run_L36 (F : Nat) (fl : SFl) : Nat → Int32 → SSe → Option (SSe)
  | 0, _, _ => none
  | k + 1, x3, se =>
    if (1764 : Int32) ≤ x3 then (
      some se
    ) else (
      if (SSe.f_seeded se) ≤ 0 then (
        some se
      ) else (
        (x5_spread F fl se x3).bind fun R3 =>
        (x5_sowNext F fl R3 (SSe.f_size se)).bind fun R4 =>
        x5_run_L36 F fl k (x3 + 1) R4
      )
    )
def x5_run (F : Nat) (fl : SFl) (se : SSe) (p2 : Int32) : Option (SSe) :=
  (x7_fillWith F 1764 (SSe.f_turns se) (-9 : Int32)).bind fun R5 =>
  (x1_isFree fl p2).bind fun R6 =>
  if R6 = 0 then (
    some (SSe.s_seeded (SSe.s_turns (SSe.s_size se (0 : Int32)) R5) (0 : Int32))
  ) else (
    (x5_sow (SSe.s_seeded (SSe.s_turns (SSe.s_size se (0 : Int32)) R5) (0 : Int32)) p2 (0 : Int32)).bind fun R8 =>
    x5_run_L36 F fl F (0 : Int32) R8
  )
def x5_lastStep_L2 (F : Nat) (fl : SFl) (se : SSe) (p2 : Int32) : Nat → Int32 → Option (Int32)
  | 0, _ => none
  | k + 1, x3 =>
    if (6 : Int32) ≤ x3 then (
      some (-9 : Int32)
    ) else (
      (x1_lead fl p2 (x3 ^^^ (1 : Int32))).bind fun R2 =>
      if R2 = (-9 : Int32) then (
        x5_lastStep_L2 F fl se p2 k (x3 + 1)
      ) else (
        (x5_isReached se R2).bind fun R4 =>
        if R4 = 0 then (
          x5_lastStep_L2 F fl se p2 k (x3 + 1)
        ) else (
          if x3 < (4 : Int32) then (
            (x7_at 1764 (SSe.f_turns se) R2).bind fun R7 =>
            (x7_at 1764 (SSe.f_turns se) p2).bind fun R8 =>
            if (R7 + (0 : Int32)) = R8 then (
              (x7_at 1764 (SSe.f_lengths se) R2).bind fun R12 =>
              (x7_at 1764 (SSe.f_lengths se) p2).bind fun R13 =>
              if (R12 + (1 : Int32)) = R13 then (
                some x3
              ) else (
                x5_lastStep_L2 F fl se p2 k (x3 + 1)
              )
            ) else (
              x5_lastStep_L2 F fl se p2 k (x3 + 1)
            )
          ) else (
            (x7_at 1764 (SSe.f_turns se) R2).bind fun R15 =>
            (x7_at 1764 (SSe.f_turns se) p2).bind fun R16 =>
            if (R15 + (1 : Int32)) = R16 then (
              (x7_at 1764 (SSe.f_lengths se) R2).bind fun R20 =>
              (x7_at 1764 (SSe.f_lengths se) p2).bind fun R21 =>
              if (R20 + (1 : Int32)) = R21 then (
                some x3
              ) else (
                x5_lastStep_L2 F fl se p2 k (x3 + 1)
              )
            ) else (
              x5_lastStep_L2 F fl se p2 k (x3 + 1)
            )
          )
        )
      )
    )
def x5_lastStep (F : Nat) (fl : SFl) (se : SSe) (p2 : Int32) : Option (Int32) :=
  x5_lastStep_L2 F fl se p2 F (0 : Int32)
def x4_trace_L38 (F : Nat) (fl : SFl) (se : SSe) (ro : SRo) (ro_length : Int32) : Nat → Int32 → Int32 → (Nat → Int32) → Option (SRo)
  | 0, _, _, _ => none
  | k + 1, x4, x5, ro_found =>
    if x5 < 0 then (
      some (SRo.s_found (SRo.s_length ro ro_length) ro_found)
    ) else (
      (x5_lastStep F fl se x4).bind fun R2 =>
      if R2 = (-9 : Int32) then (
        some (SRo.s_found (SRo.s_length ro ro_length) ro_found)
      ) else (
        (x7_put 1764 ro_found x5 R2).bind fun R4 =>
        (x1_lead fl x4 (R2 ^^^ (1 : Int32))).bind fun R5 =>
        x4_trace_L38 F fl se ro ro_length k R5 (x5 + (-1)) R4
      )
    )
def x4_trace (F : Nat) (fl : SFl) (se : SSe) (ro : SRo) (p3 : Int32) : Option (SRo) :=
  (x5_isReached se p3).bind fun R6 =>
  if R6 = 0 then (
    some (SRo.s_length ro (-9 : Int32))
  ) else (
    (x7_at 1764 (SSe.f_lengths se) p3).bind fun R8 =>
    x4_trace_L38 F fl se ro R8 F p3 (R8 - (1 : Int32)) (SRo.f_found ro)
  )
def x7_way (F : Nat) (bu : SBu) (lo : SLo) (sh : SSh) (fl : SFl) (se : SSe) (ro : SRo) (ph : SPh) : Option (Int32 × SSh × SFl × SSe × SRo) :=
  (x7_layOut F bu lo sh fl ph).bind fun R1 =>
  if (R1.1) = 0 then (
    some ((-4 : Int32), (R1.2.1), (R1.2.2), se, ro)
  ) else (
    (x5_run F (R1.2.2) se (SPh.f_beginning ph)).bind fun R3 =>
    (x4_trace F (R1.2.2) R3 ro (SPh.f_goalState ph)).bind fun R4 =>
    some ((SRo.f_length R4), (R1.2.1), (R1.2.2), R3, R4)
  )
def x8_beginning (mo : SMo) : Option (Int32) :=
  if ib (0 : Int32) 6 = true then (
    if ib (1 : Int32) 6 = true then (
      if ib (2 : Int32) 6 = true then (
        (x8_stateOf ((SMo.f_ends mo) (Int32.toNatClampNeg (0 : Int32))) ((SMo.f_ends mo) (Int32.toNatClampNeg (1 : Int32))) ((SMo.f_ends mo) (Int32.toNatClampNeg (2 : Int32)))).bind fun R4 =>
        some R4
      ) else none
    ) else none
  ) else none
def x8_setFar_L108 (F : Nat) (mo : SMo) (x1 : Int32) (x3 : Int32) (o76 : Int32 → Int32 → (Nat → Int32) → (Nat → Int32) → (Nat → Int32) → Option (SMo)) : Nat → Int32 → Int32 → (Nat → Int32) → (Nat → Int32) → (Nat → Int32) → Option (SMo)
  | 0, _, _, _, _, _ => none
  | k + 1, x2, x4, mo_far, mo_isIn, mo_line =>
    if (6 : Int32) ≤ x4 then (
      o76 x1 x2 mo_far mo_isIn mo_line
    ) else (
      (x8_led (SMo.s_line (SMo.s_isIn (SMo.s_far mo mo_far) mo_isIn) mo_line) x3 x4).bind fun R2 =>
      if ib x3 1764 = true then (
        if x4 ≤ (3 : Int32) then (
          if R2 < 0 then (
            x8_setFar_L108 F mo x1 x3 o76 k x2 (x4 + 1) mo_far mo_isIn mo_line
          ) else (
            if ib R2 1764 = true then (
              if (mo_far (Int32.toNatClampNeg R2)) < 0 then (
                if ib R2 1764 = true then (
                  if ib R2 1764 = true then (
                    if (mo_isIn (Int32.toNatClampNeg R2)) = 0 then (
                      if ib ((x1 + x2) - (x1 + x2) / (1764 : Int32) * (1764 : Int32)) 1764 = true then (
                        if ib R2 1764 = true then (
                          x8_setFar_L108 F mo x1 x3 o76 k (x2 + 1) (x4 + 1) (upd mo_far (Int32.toNatClampNeg R2) ((mo_far (Int32.toNatClampNeg x3)) + (1 : Int32))) (upd mo_isIn (Int32.toNatClampNeg R2) (vp_nar .boolean (1 : Int32))) (upd mo_line (Int32.toNatClampNeg ((x1 + x2) - (x1 + x2) / (1764 : Int32) * (1764 : Int32))) R2)
                        ) else none
                      ) else none
                    ) else (
                      x8_setFar_L108 F mo x1 x3 o76 k x2 (x4 + 1) (upd mo_far (Int32.toNatClampNeg R2) ((mo_far (Int32.toNatClampNeg x3)) + (1 : Int32))) mo_isIn mo_line
                    )
                  ) else none
                ) else none
              ) else (
                if ib R2 1764 = true then (
                  if (mo_far (Int32.toNatClampNeg R2)) ≤ ((mo_far (Int32.toNatClampNeg x3)) + (1 : Int32)) then (
                    x8_setFar_L108 F mo x1 x3 o76 k x2 (x4 + 1) mo_far mo_isIn mo_line
                  ) else (
                    if ib R2 1764 = true then (
                      if ib R2 1764 = true then (
                        if (mo_isIn (Int32.toNatClampNeg R2)) = 0 then (
                          if ib ((x1 + x2) - (x1 + x2) / (1764 : Int32) * (1764 : Int32)) 1764 = true then (
                            if ib R2 1764 = true then (
                              x8_setFar_L108 F mo x1 x3 o76 k (x2 + 1) (x4 + 1) (upd mo_far (Int32.toNatClampNeg R2) ((mo_far (Int32.toNatClampNeg x3)) + (1 : Int32))) (upd mo_isIn (Int32.toNatClampNeg R2) (vp_nar .boolean (1 : Int32))) (upd mo_line (Int32.toNatClampNeg ((x1 + x2) - (x1 + x2) / (1764 : Int32) * (1764 : Int32))) R2)
                            ) else none
                          ) else none
                        ) else (
                          x8_setFar_L108 F mo x1 x3 o76 k x2 (x4 + 1) (upd mo_far (Int32.toNatClampNeg R2) ((mo_far (Int32.toNatClampNeg x3)) + (1 : Int32))) mo_isIn mo_line
                        )
                      ) else none
                    ) else none
                  )
                ) else none
              )
            ) else none
          )
        ) else (
          if R2 < 0 then (
            x8_setFar_L108 F mo x1 x3 o76 k x2 (x4 + 1) mo_far mo_isIn mo_line
          ) else (
            if ib R2 1764 = true then (
              if (mo_far (Int32.toNatClampNeg R2)) < 0 then (
                if ib R2 1764 = true then (
                  if ib R2 1764 = true then (
                    if (mo_isIn (Int32.toNatClampNeg R2)) = 0 then (
                      if ib ((x1 + x2) - (x1 + x2) / (1764 : Int32) * (1764 : Int32)) 1764 = true then (
                        if ib R2 1764 = true then (
                          x8_setFar_L108 F mo x1 x3 o76 k (x2 + 1) (x4 + 1) (upd mo_far (Int32.toNatClampNeg R2) ((mo_far (Int32.toNatClampNeg x3)) + (100001 : Int32))) (upd mo_isIn (Int32.toNatClampNeg R2) (vp_nar .boolean (1 : Int32))) (upd mo_line (Int32.toNatClampNeg ((x1 + x2) - (x1 + x2) / (1764 : Int32) * (1764 : Int32))) R2)
                        ) else none
                      ) else none
                    ) else (
                      x8_setFar_L108 F mo x1 x3 o76 k x2 (x4 + 1) (upd mo_far (Int32.toNatClampNeg R2) ((mo_far (Int32.toNatClampNeg x3)) + (100001 : Int32))) mo_isIn mo_line
                    )
                  ) else none
                ) else none
              ) else (
                if ib R2 1764 = true then (
                  if (mo_far (Int32.toNatClampNeg R2)) ≤ ((mo_far (Int32.toNatClampNeg x3)) + (100001 : Int32)) then (
                    x8_setFar_L108 F mo x1 x3 o76 k x2 (x4 + 1) mo_far mo_isIn mo_line
                  ) else (
                    if ib R2 1764 = true then (
                      if ib R2 1764 = true then (
                        if (mo_isIn (Int32.toNatClampNeg R2)) = 0 then (
                          if ib ((x1 + x2) - (x1 + x2) / (1764 : Int32) * (1764 : Int32)) 1764 = true then (
                            if ib R2 1764 = true then (
                              x8_setFar_L108 F mo x1 x3 o76 k (x2 + 1) (x4 + 1) (upd mo_far (Int32.toNatClampNeg R2) ((mo_far (Int32.toNatClampNeg x3)) + (100001 : Int32))) (upd mo_isIn (Int32.toNatClampNeg R2) (vp_nar .boolean (1 : Int32))) (upd mo_line (Int32.toNatClampNeg ((x1 + x2) - (x1 + x2) / (1764 : Int32) * (1764 : Int32))) R2)
                            ) else none
                          ) else none
                        ) else (
                          x8_setFar_L108 F mo x1 x3 o76 k x2 (x4 + 1) (upd mo_far (Int32.toNatClampNeg R2) ((mo_far (Int32.toNatClampNeg x3)) + (100001 : Int32))) mo_isIn mo_line
                        )
                      ) else none
                    ) else none
                  )
                ) else none
              )
            ) else none
          )
        )
      ) else none
    )
def x8_setFar_L76 (F : Nat) (mo : SMo) : Nat → Int32 → Int32 → (Nat → Int32) → (Nat → Int32) → (Nat → Int32) → Option (SMo)
  | 0, _, _, _, _, _ => none
  | k + 1, x1, x2, mo_far, mo_isIn, mo_line =>
    if x2 ≤ 0 then (
      some (SMo.s_line (SMo.s_isIn (SMo.s_far mo mo_far) mo_isIn) mo_line)
    ) else (
      if ib x1 1764 = true then (
        if ib (mo_line (Int32.toNatClampNeg x1)) 1764 = true then (
          x8_setFar_L108 F mo ((x1 + (1 : Int32)) - (x1 + (1 : Int32)) / (1764 : Int32) * (1764 : Int32)) (mo_line (Int32.toNatClampNeg x1)) (x8_setFar_L76 F mo k) F (x2 + (-1)) (0 : Int32) mo_far (upd mo_isIn (Int32.toNatClampNeg (mo_line (Int32.toNatClampNeg x1))) (vp_nar .boolean (0 : Int32))) mo_line
        ) else none
      ) else none
    )
def x8_setFar_L2 (F : Nat) (mo : SMo) (mo_line : Nat → Int32) : Nat → Int32 → (Nat → Int32) → (Nat → Int32) → Option (SMo)
  | 0, _, _, _ => none
  | k + 1, x1, mo_far, mo_isIn =>
    if (1764 : Int32) ≤ x1 then (
      (x8_beginning (SMo.s_line (SMo.s_isIn (SMo.s_far mo mo_far) mo_isIn) mo_line)).bind fun R39 =>
      (x8_isFree (SMo.s_line (SMo.s_isIn (SMo.s_far mo mo_far) mo_isIn) mo_line) R39).bind fun R40 =>
      if R40 = 0 then (
        some (SMo.s_line (SMo.s_isIn (SMo.s_far mo mo_far) mo_isIn) mo_line)
      ) else (
        (x8_beginning (SMo.s_line (SMo.s_isIn (SMo.s_far mo mo_far) mo_isIn) mo_line)).bind fun R42 =>
        if ib (0 : Int32) 1764 = true then (
          (x8_beginning (SMo.s_line (SMo.s_isIn (SMo.s_far mo mo_far) mo_isIn) (upd mo_line (Int32.toNatClampNeg (0 : Int32)) R42))).bind fun R44 =>
          if ib R44 1764 = true then (
            (x8_beginning (SMo.s_line (SMo.s_isIn (SMo.s_far mo (upd mo_far (Int32.toNatClampNeg R44) (0 : Int32))) mo_isIn) (upd mo_line (Int32.toNatClampNeg (0 : Int32)) R42))).bind fun R46 =>
            if ib R46 1764 = true then (
              x8_setFar_L76 F mo F (0 : Int32) (1 : Int32) (upd mo_far (Int32.toNatClampNeg R44) (0 : Int32)) (upd mo_isIn (Int32.toNatClampNeg R46) (vp_nar .boolean (1 : Int32))) (upd mo_line (Int32.toNatClampNeg (0 : Int32)) R42)
            ) else none
          ) else none
        ) else none
      )
    ) else (
      if ib x1 1764 = true then (
        if ib x1 1764 = true then (
          x8_setFar_L2 F mo mo_line k (x1 + 1) (upd mo_far (Int32.toNatClampNeg x1) (-9 : Int32)) (upd mo_isIn (Int32.toNatClampNeg x1) (vp_nar .boolean (0 : Int32)))
        ) else none
      ) else none
    )
def x8_setFar (F : Nat) (mo : SMo) : Option (SMo) :=
  x8_setFar_L2 F mo (SMo.f_line mo) F (0 : Int32) (SMo.f_far mo) (SMo.f_isIn mo)
def x8_goal (mo : SMo) : Option (Int32) :=
  if ib (3 : Int32) 6 = true then (
    if ib (4 : Int32) 6 = true then (
      if ib (5 : Int32) 6 = true then (
        (x8_stateOf ((SMo.f_ends mo) (Int32.toNatClampNeg (3 : Int32))) ((SMo.f_ends mo) (Int32.toNatClampNeg (4 : Int32))) ((SMo.f_ends mo) (Int32.toNatClampNeg (5 : Int32)))).bind fun R4 =>
        some R4
      ) else none
    ) else none
  ) else none
def x8_back (p0 : Int32) : Option (Int32) :=
  if p0 = (4 : Int32) then (
    some (5 : Int32)
  ) else (
    if p0 = (5 : Int32) then (
      some (4 : Int32)
    ) else (
      if (p0 - p0 / (2 : Int32) * (2 : Int32)) = 0 then (
        some (p0 + (1 : Int32))
      ) else (
        some (p0 - (1 : Int32))
      )
    )
  )
def x8_before (mo : SMo) (p1 : Int32) (p2 : Int32) : Option (Int32) :=
  (x8_back p2).bind fun R1 =>
  (x8_next mo p1 R1).bind fun R2 =>
  if R2 < 0 then (
    some (-9 : Int32)
  ) else (
    (x8_isFree mo R2).bind fun R4 =>
    if R4 = 0 then (
      some (-9 : Int32)
    ) else (
      if p2 ≤ (3 : Int32) then (
        if ib R2 1764 = true then (
          if 0 ≤ ((SMo.f_far mo) (Int32.toNatClampNeg R2)) then (
            if ib R2 1764 = true then (
              if p2 ≤ (3 : Int32) then (
                if ib p1 1764 = true then (
                  if (((SMo.f_far mo) (Int32.toNatClampNeg R2)) + (1 : Int32)) = ((SMo.f_far mo) (Int32.toNatClampNeg p1)) then (
                    some R2
                  ) else (
                    some (-9 : Int32)
                  )
                ) else none
              ) else (
                if ib p1 1764 = true then (
                  if (((SMo.f_far mo) (Int32.toNatClampNeg R2)) + (100001 : Int32)) = ((SMo.f_far mo) (Int32.toNatClampNeg p1)) then (
                    some R2
                  ) else (
                    some (-9 : Int32)
                  )
                ) else none
              )
            ) else none
          ) else (
            some (-9 : Int32)
          )
        ) else none
      ) else (
        (x8_isTurning mo p1).bind fun R15 =>
        if R15 = 0 then (
          some (-9 : Int32)
        ) else (
          if ib R2 1764 = true then (
            if 0 ≤ ((SMo.f_far mo) (Int32.toNatClampNeg R2)) then (
              if ib R2 1764 = true then (
                if p2 ≤ (3 : Int32) then (
                  if ib p1 1764 = true then (
                    if (((SMo.f_far mo) (Int32.toNatClampNeg R2)) + (1 : Int32)) = ((SMo.f_far mo) (Int32.toNatClampNeg p1)) then (
                      some R2
                    ) else (
                      some (-9 : Int32)
                    )
                  ) else none
                ) else (
                  if ib p1 1764 = true then (
                    if (((SMo.f_far mo) (Int32.toNatClampNeg R2)) + (100001 : Int32)) = ((SMo.f_far mo) (Int32.toNatClampNeg p1)) then (
                      some R2
                    ) else (
                      some (-9 : Int32)
                    )
                  ) else none
                )
              ) else none
            ) else (
              some (-9 : Int32)
            )
          ) else none
        )
      )
    )
  )
def x8_way_L58 (F : Nat) (x1 : Int32) (x2 : Int32) (x3 : Int32) (mo : SMo) (o51 : Int32 → Int32 → SMo → Option (Int32 × SMo)) : Nat → Int32 → Option (Int32 × SMo)
  | 0, _ => none
  | k + 1, x4 =>
    (x8_before mo x1 x4).bind fun R1 =>
    if 0 ≤ R1 then (
      if ib x3 1800 = true then (
        (x8_before (SMo.s_taken mo (upd (SMo.f_taken mo) (Int32.toNatClampNeg x3) x4)) x1 x4).bind fun R4 =>
        o51 R4 (x3 + (-1)) (SMo.s_taken mo (upd (SMo.f_taken mo) (Int32.toNatClampNeg x3) x4))
      ) else none
    ) else (
      x8_way_L58 F x1 x2 x3 mo o51 k (x4 + 1)
    )
def x8_way_L51 (F : Nat) (x2 : Int32) : Nat → Int32 → Int32 → SMo → Option (Int32 × SMo)
  | 0, _, _, _ => none
  | k + 1, x1, x3, mo =>
    if x3 < 0 then (
      some (x2, (SMo.s_takenMany mo x2))
    ) else (
      x8_way_L58 F x1 x2 x3 mo (x8_way_L51 F x2 k) F (0 : Int32)
    )
def x8_way (F : Nat) (mo : SMo) : Option (Int32 × SMo) :=
  (x8_begin F mo).bind fun R6 =>
  if (R6.1) = 0 then (
    some ((-4 : Int32), (R6.2))
  ) else (
    (x8_setFar F (R6.2)).bind fun R8 =>
    (x8_goal (SMo.s_takenMany R8 (-9 : Int32))).bind fun R9 =>
    if ib R9 1764 = true then (
      if 0 ≤ ((SMo.f_far R8) (Int32.toNatClampNeg R9)) then (
        if ib R9 1764 = true then (
          x8_way_L51 F (((SMo.f_far R8) (Int32.toNatClampNeg R9)) - ((SMo.f_far R8) (Int32.toNatClampNeg R9)) / (100000 : Int32) * (100000 : Int32)) F R9 ((((SMo.f_far R8) (Int32.toNatClampNeg R9)) - ((SMo.f_far R8) (Int32.toNatClampNeg R9)) / (100000 : Int32) * (100000 : Int32)) - (1 : Int32)) (SMo.s_takenMany R8 (-9 : Int32))
        ) else none
      ) else (
        some ((-9 : Int32), (SMo.s_takenMany R8 (-9 : Int32)))
      )
    ) else none
  )
def x4_stepAt (ro : SRo) (p1 : Int32) : Option (Int32) :=
  (x7_isWithin p1 (0 : Int32) ((SRo.f_length ro) - (1 : Int32))).bind fun R1 =>
  if R1 = 0 then (
    some (-9 : Int32)
  ) else (
    (x7_at 1764 (SRo.f_found ro) p1).bind fun R3 =>
    some R3
  )
def x7_step (ro : SRo) (ph : SPh) (p1 : Int32) : Option (Int32) :=
  (x4_stepAt ro p1).bind fun R1 =>
  some R1
def x8_step (mo : SMo) (p1 : Int32) : Option (Int32) :=
  (x8_in p1 (0 : Int32) ((SMo.f_takenMany mo) - (1 : Int32))).bind fun R1 =>
  if R1 = 0 then (
    some (-9 : Int32)
  ) else (
    if ib p1 1800 = true then (
      some ((SMo.f_taken mo) (Int32.toNatClampNeg p1))
    ) else none
  )
def x4_turnCount_L4 (F : Nat) (ro : SRo) : Nat → Int32 → Int32 → Option (Int32)
  | 0, _, _ => none
  | k + 1, x1, x2 =>
    if (SRo.f_length ro) ≤ x2 then (
      some x1
    ) else (
      (x4_stepAt ro x2).bind fun R2 =>
      if R2 < (4 : Int32) then (
        x4_turnCount_L4 F ro k x1 (x2 + 1)
      ) else (
        x4_turnCount_L4 F ro k (x1 + 1) (x2 + 1)
      )
    )
def x4_turnCount (F : Nat) (ro : SRo) : Option (Int32) :=
  x4_turnCount_L4 F ro F (0 : Int32) (0 : Int32)
def x4_slideCount_L4 (F : Nat) (ro : SRo) : Nat → Int32 → Int32 → Option (Int32)
  | 0, _, _ => none
  | k + 1, x1, x2 =>
    if (SRo.f_length ro) ≤ x2 then (
      some x1
    ) else (
      (x4_stepAt ro x2).bind fun R2 =>
      if (4 : Int32) ≤ R2 then (
        x4_slideCount_L4 F ro k x1 (x2 + 1)
      ) else (
        (x4_stepAt ro x2).bind fun R4 =>
        (x4_stepAt ro (x2 - (1 : Int32))).bind fun R5 =>
        if R4 = R5 then (
          x4_slideCount_L4 F ro k x1 (x2 + 1)
        ) else (
          x4_slideCount_L4 F ro k (x1 + 1) (x2 + 1)
        )
      )
    )
def x4_slideCount (F : Nat) (ro : SRo) : Option (Int32) :=
  x4_slideCount_L4 F ro F (0 : Int32) (0 : Int32)
def x7_count (F : Nat) (ro : SRo) (ph : SPh) (p1 : Int32) : Option (Int32) :=
  (x7_isWithin p1 (0 : Int32) (1 : Int32)).bind fun R1 =>
  if R1 = 0 then (
    some (-1 : Int32)
  ) else (
    if (SRo.f_length ro) = (-9 : Int32) then (
      some (-9 : Int32)
    ) else (
      if p1 = 0 then (
        (x4_turnCount F ro).bind fun R6 =>
        some R6
      ) else (
        (x4_slideCount F ro).bind fun R5 =>
        some R5
      )
    )
  )
def x8_count_L28 (F : Nat) (mo : SMo) (p1 : Int32) : Nat → Int32 → Int32 → Int32 → Option (Int32)
  | 0, _, _, _ => none
  | k + 1, x2, x3, x4 =>
    if (SMo.f_takenMany mo) ≤ x4 then (
      if p1 = 0 then (
        some x2
      ) else (
        some x3
      )
    ) else (
      if ib x4 1800 = true then (
        if ((SMo.f_taken mo) (Int32.toNatClampNeg x4)) ≤ (3 : Int32) then (
          if ib x4 1800 = true then (
            if (4 : Int32) ≤ ((SMo.f_taken mo) (Int32.toNatClampNeg x4)) then (
              x8_count_L28 F mo p1 k (x2 + (0 : Int32)) (x3 + (0 : Int32)) (x4 + 1)
            ) else (
              if x4 = 0 then (
                x8_count_L28 F mo p1 k (x2 + (0 : Int32)) (x3 + (1 : Int32)) (x4 + 1)
              ) else (
                if ib (x4 - (1 : Int32)) 1800 = true then (
                  if ib x4 1800 = true then (
                    if ((SMo.f_taken mo) (Int32.toNatClampNeg (x4 - (1 : Int32)))) = ((SMo.f_taken mo) (Int32.toNatClampNeg x4)) then (
                      x8_count_L28 F mo p1 k (x2 + (0 : Int32)) (x3 + (0 : Int32)) (x4 + 1)
                    ) else (
                      x8_count_L28 F mo p1 k (x2 + (0 : Int32)) (x3 + (1 : Int32)) (x4 + 1)
                    )
                  ) else none
                ) else none
              )
            )
          ) else none
        ) else (
          if ib x4 1800 = true then (
            if (4 : Int32) ≤ ((SMo.f_taken mo) (Int32.toNatClampNeg x4)) then (
              x8_count_L28 F mo p1 k (x2 + (1 : Int32)) (x3 + (0 : Int32)) (x4 + 1)
            ) else (
              if x4 = 0 then (
                x8_count_L28 F mo p1 k (x2 + (1 : Int32)) (x3 + (1 : Int32)) (x4 + 1)
              ) else (
                if ib (x4 - (1 : Int32)) 1800 = true then (
                  if ib x4 1800 = true then (
                    if ((SMo.f_taken mo) (Int32.toNatClampNeg (x4 - (1 : Int32)))) = ((SMo.f_taken mo) (Int32.toNatClampNeg x4)) then (
                      x8_count_L28 F mo p1 k (x2 + (1 : Int32)) (x3 + (0 : Int32)) (x4 + 1)
                    ) else (
                      x8_count_L28 F mo p1 k (x2 + (1 : Int32)) (x3 + (1 : Int32)) (x4 + 1)
                    )
                  ) else none
                ) else none
              )
            )
          ) else none
        )
      ) else none
    )
def x8_count (F : Nat) (mo : SMo) (p1 : Int32) : Option (Int32) :=
  (x8_in p1 (0 : Int32) (1 : Int32)).bind fun R17 =>
  if R17 = 0 then (
    some (-1 : Int32)
  ) else (
    if 0 ≤ (SMo.f_takenMany mo) then (
      x8_count_L28 F mo p1 F (0 : Int32) (0 : Int32) (0 : Int32)
    ) else (
      some (-9 : Int32)
    )
  )
def x7_reached (F : Nat) (bu : SBu) (lo : SLo) (sh : SSh) (fl : SFl) (se : SSe) (ph : SPh) : Option (Int32 × SSh × SFl × SSe) :=
  (x7_layOut F bu lo sh fl ph).bind fun R1 =>
  if (R1.1) = 0 then (
    some ((-4 : Int32), (R1.2.1), (R1.2.2), se)
  ) else (
    (x5_run F (R1.2.2) se (SPh.f_beginning ph)).bind fun R3 =>
    some ((SSe.f_size R3), (R1.2.1), (R1.2.2), R3)
  )
def x8_reached_L18 (F : Nat) (mo : SMo) : Nat → Int32 → Int32 → Option (Int32 × SMo)
  | 0, _, _ => none
  | k + 1, x1, x2 =>
    if (1764 : Int32) ≤ x2 then (
      some (x1, mo)
    ) else (
      if ib x2 1764 = true then (
        if ((SMo.f_far mo) (Int32.toNatClampNeg x2)) < 0 then (
          x8_reached_L18 F mo k (x1 + (0 : Int32)) (x2 + 1)
        ) else (
          x8_reached_L18 F mo k (x1 + (1 : Int32)) (x2 + 1)
        )
      ) else none
    )
def x8_reached (F : Nat) (mo : SMo) : Option (Int32 × SMo) :=
  (x8_begin F mo).bind fun R4 =>
  if (R4.1) = 0 then (
    some ((-4 : Int32), (R4.2))
  ) else (
    (x8_setFar F (R4.2)).bind fun R6 =>
    x8_reached_L18 F R6 F (0 : Int32) (0 : Int32)
  )
def x7_reaches (F : Nat) (bu : SBu) (lo : SLo) (sh : SSh) (fl : SFl) (se : SSe) (ph : SPh) (p1 : Int32) (p2 : Int32) (p3 : Int32) : Option (Int32 × SSh × SFl × SSe) :=
  (x7_isState bu ph p1 p2 p3).bind fun R1 =>
  if R1 = 0 then (
    some ((-1 : Int32), sh, fl, se)
  ) else (
    (x7_layOut F bu lo sh fl ph).bind fun R3 =>
    if (R3.1) = 0 then (
      some ((-4 : Int32), (R3.2.1), (R3.2.2), se)
    ) else (
      (x5_run F (R3.2.2) se (SPh.f_beginning ph)).bind fun R5 =>
      (x7_stateOf p1 p2 p3).bind fun R6 =>
      (x5_isReached R5 R6).bind fun R7 =>
      if R7 = 0 then (
        some ((0 : Int32), (R3.2.1), (R3.2.2), R5)
      ) else (
        some ((1 : Int32), (R3.2.1), (R3.2.2), R5)
      )
    )
  )
def x8_reaches (F : Nat) (mo : SMo) (p1 : Int32) (p2 : Int32) (p3 : Int32) : Option (Int32 × SMo) :=
  (x8_isState mo p1 p2 p3).bind fun R1 =>
  if R1 = 0 then (
    some ((-1 : Int32), mo)
  ) else (
    (x8_begin F mo).bind fun R3 =>
    if (R3.1) = 0 then (
      some ((-4 : Int32), (R3.2))
    ) else (
      (x8_setFar F (R3.2)).bind fun R5 =>
      (x8_stateOf p1 p2 p3).bind fun R6 =>
      if ib R6 1764 = true then (
        if ((SMo.f_far R5) (Int32.toNatClampNeg R6)) < 0 then (
          some ((0 : Int32), R5)
        ) else (
          some ((1 : Int32), R5)
        )
      ) else none
    )
  )
def x7_leadsToGoal (F : Nat) (fl : SFl) (se : SSe) (ph : SPh) : Option (Int32 × SSe) :=
  (x5_run F fl se (SPh.f_beginning ph)).bind fun R1 =>
  (x5_isReached R1 (SPh.f_goalState ph)).bind fun R2 =>
  if bo R2 = true then some (R2, R1) else none
def x7_thingsUnder_L33 (F : Nat) (bu : SBu) (sh : SSh) (fl : SFl) (ph : SPh) (p1 : Int32) (p2 : Int32) (p3 : Int32) : Nat → Int32 → Int32 → Option (Int32)
  | 0, _, _ => none
  | k + 1, x4, x5 =>
    (x6_sizeOf sh p1).bind fun R1 =>
    if R1 ≤ x5 then (
      some x4
    ) else (
      (x6_alongOf sh p1 x5).bind fun R3 =>
      (x6_upOf sh p1 x5).bind fun R4 =>
      (x0_thingsOn bu (p2 + R3) (p3 + R4)).bind fun R5 =>
      x7_thingsUnder_L33 F bu sh fl ph p1 p2 p3 k (x4 ||| R5) (x5 + 1)
    )
def x7_thingsUnder (F : Nat) (bu : SBu) (sh : SSh) (fl : SFl) (ph : SPh) (p1 : Int32) (p2 : Int32) (p3 : Int32) : Option (Int32) :=
  (x0_isPlace bu p2 p3).bind fun R6 =>
  if R6 = 0 then (
    some (0 : Int32)
  ) else (
    (x1_fits fl p1 p2 p3).bind fun R8 =>
    if R8 = 0 then (
      x7_thingsUnder_L33 F bu sh fl ph p1 p2 p3 F (0 : Int32) (0 : Int32)
    ) else (
      some (0 : Int32)
    )
  )
def x7_holdersAt_L28 (F : Nat) (bu : SBu) (sh : SSh) (fl : SFl) (ph : SPh) (x2 : Int32) (x3 : Int32) (x4 : Int32) : Nat → Int32 → Int32 → Option (Int32)
  | 0, _, _ => none
  | k + 1, x5, x6 =>
    if (4 : Int32) ≤ x6 then (
      some x5
    ) else (
      (x7_at 4 fAL x6).bind fun R2 =>
      (x7_at 4 fUP x6).bind fun R3 =>
      (x7_thingsUnder F bu sh fl ph x4 (x2 + R2) (x3 + R3)).bind fun R4 =>
      x7_holdersAt_L28 F bu sh fl ph x2 x3 x4 k (x5 ||| R4) (x6 + 1)
    )
def x7_holdersAt (F : Nat) (bu : SBu) (sh : SSh) (fl : SFl) (ph : SPh) (p1 : Int32) : Option (Int32) :=
  (x7_xOf p1).bind fun R5 =>
  (x7_yOf p1).bind fun R6 =>
  (x7_qOf p1).bind fun R7 =>
  (x7_thingsUnder F bu sh fl ph (4 : Int32) R5 R6).bind fun R8 =>
  x7_holdersAt_L28 F bu sh fl ph R5 R6 R7 F R8 (0 : Int32)
def x7_held_L23 (F : Nat) (bu : SBu) (lo : SLo) (ph : SPh) (sh : SSh) (fl : SFl) (se : SSe) : Nat → Int32 → Int32 → Option (Int32 × SSh × SFl × SSe)
  | 0, _, _ => none
  | k + 1, x1, x2 =>
    if (SSe.f_size se) ≤ x2 then (
      some (x1, sh, fl, se)
    ) else (
      (x7_at 1764 (SSe.f_order se) x2).bind fun R2 =>
      (x7_holdersAt F bu sh fl ph R2).bind fun R3 =>
      x7_held_L23 F bu lo ph sh fl se k (x1 ||| R3) (x2 + 1)
    )
def x7_held (F : Nat) (bu : SBu) (lo : SLo) (sh : SSh) (fl : SFl) (se : SSe) (ph : SPh) : Option (Int32 × SSh × SFl × SSe) :=
  (x7_layOut F bu lo sh fl ph).bind fun R4 =>
  if (R4.1) = 0 then (
    some ((-4 : Int32), (R4.2.1), (R4.2.2), se)
  ) else (
    (x7_leadsToGoal F (R4.2.2) se ph).bind fun R6 =>
    if (R6.1) = 0 then (
      x7_held_L23 F bu lo ph (R4.2.1) (R4.2.2) (R6.2) F (0 : Int32) (0 : Int32)
    ) else (
      some ((0 : Int32), (R4.2.1), (R4.2.2), (R6.2))
    )
  )
def x8_held_L41 (F : Nat) (x2 : Int32) (mo : SMo) (o32 : Int32 → Int32 → Option (Int32 × SMo)) : Nat → Int32 → Int32 → Option (Int32 × SMo)
  | 0, _, _ => none
  | k + 1, x1, x3 =>
    if (4 : Int32) ≤ x3 then (
      if ib x2 1764 = true then (
        if ((SMo.f_far mo) (Int32.toNatClampNeg x2)) < 0 then (
          o32 (x1 ||| (0 : Int32)) (x2 + 1)
        ) else (
          if ib (x2 - x2 / (441 : Int32) * (441 : Int32)) 441 = true then (
            o32 (x1 ||| ((SMo.f_turnBars mo) (Int32.toNatClampNeg (x2 - x2 / (441 : Int32) * (441 : Int32))))) (x2 + 1)
          ) else none
        )
      ) else none
    ) else (
      if ib x2 1764 = true then (
        if ((SMo.f_far mo) (Int32.toNatClampNeg x2)) < 0 then (
          if ib x2 1764 = true then (
            if ((SMo.f_far mo) (Int32.toNatClampNeg x2)) < 0 then (
              o32 (x1 ||| (0 : Int32)) (x2 + 1)
            ) else (
              if ib (x2 - x2 / (441 : Int32) * (441 : Int32)) 441 = true then (
                o32 (x1 ||| ((SMo.f_turnBars mo) (Int32.toNatClampNeg (x2 - x2 / (441 : Int32) * (441 : Int32))))) (x2 + 1)
              ) else none
            )
          ) else none
        ) else (
          (x8_next mo x2 x3).bind fun R10 =>
          if 0 ≤ R10 then (
            if ib R10 1764 = true then (
              x8_held_L41 F x2 mo o32 k (x1 ||| ((SMo.f_bars mo) (Int32.toNatClampNeg R10))) (x3 + 1)
            ) else none
          ) else (
            x8_held_L41 F x2 mo o32 k (x1 ||| (0 : Int32)) (x3 + 1)
          )
        )
      ) else none
    )
def x8_held_L32 (F : Nat) (mo : SMo) : Nat → Int32 → Int32 → Option (Int32 × SMo)
  | 0, _, _ => none
  | k + 1, x1, x2 =>
    if (1764 : Int32) ≤ x2 then (
      some ((x1 &&& (1073741823 : Int32)), mo)
    ) else (
      x8_held_L41 F x2 mo (x8_held_L32 F mo k) F x1 (0 : Int32)
    )
def x8_held (F : Nat) (mo : SMo) : Option (Int32 × SMo) :=
  (x8_begin F mo).bind fun R14 =>
  if (R14.1) = 0 then (
    some ((-4 : Int32), (R14.2))
  ) else (
    (x8_setFar F (R14.2)).bind fun R16 =>
    (x8_goal R16).bind fun R17 =>
    if ib R17 1764 = true then (
      if ((SMo.f_far R16) (Int32.toNatClampNeg R17)) < 0 then (
        x8_held_L32 F R16 F (0 : Int32) (0 : Int32)
      ) else (
        some ((0 : Int32), R16)
      )
    ) else none
  )
def x7_opensWay (F : Nat) (bu : SBu) (sh : SSh) (fl : SFl) (se : SSe) (ph : SPh) (p1 : Int32) : Option (Int32 × SFl × SSe) :=
  (x1_lay F bu fl ((SBu.f_outBits bu) ||| p1)).bind fun R1 =>
  (x1_mark F sh R1).bind fun R2 =>
  (x5_run F R2 se (SPh.f_beginning ph)).bind fun R3 =>
  (x5_isReached R3 (SPh.f_goalState ph)).bind fun R4 =>
  if bo R4 = true then some (R4, R2, R3) else none
def x7_doors_L43 (F : Nat) (bu : SBu) (lo : SLo) (ph : SPh) (x1 : Int32) (sh : SSh) : Nat → Int32 → Int32 → SFl → SSe → Option (Int32 × SSh × SFl × SSe)
  | 0, _, _, _, _ => none
  | k + 1, x2, x3, fl, se =>
    if x1 ≤ x3 then (
      some (x2, sh, fl, se)
    ) else (
      if (x3 &&& (x1 ^^^ (-1 : Int32))) = 0 then (
        (j6_bitCount x3).bind fun R5 =>
        (j6_bitCount x2).bind fun R6 =>
        if R6 ≤ R5 then (
          x7_doors_L43 F bu lo ph x1 sh k x2 (x3 + 1) fl se
        ) else (
          (x7_opensWay F bu sh fl se ph x3).bind fun R8 =>
          if (R8.1) = 0 then (
            x7_doors_L43 F bu lo ph x1 sh k x2 (x3 + 1) (R8.2.1) (R8.2.2)
          ) else (
            x7_doors_L43 F bu lo ph x1 sh k x3 (x3 + 1) (R8.2.1) (R8.2.2)
          )
        )
      ) else (
        x7_doors_L43 F bu lo ph x1 sh k x2 (x3 + 1) fl se
      )
    )
def x7_doors (F : Nat) (bu : SBu) (lo : SLo) (sh : SSh) (fl : SFl) (se : SSe) (ph : SPh) : Option (Int32 × SSh × SFl × SSe) :=
  (x7_layOut F bu lo sh fl ph).bind fun R10 =>
  if (R10.1) = 0 then (
    some ((-4 : Int32), (R10.2.1), (R10.2.2), se)
  ) else (
    (x7_opensWay F bu (R10.2.1) (R10.2.2) se ph ((SBu.f_doorBits bu) &&& ((SBu.f_outBits bu) ^^^ (-1 : Int32)))).bind fun R12 =>
    if (R12.1) = 0 then (
      some ((-9 : Int32), (R10.2.1), (R12.2.1), (R12.2.2))
    ) else (
      x7_doors_L43 F bu lo ph ((SBu.f_doorBits bu) &&& ((SBu.f_outBits bu) ^^^ (-1 : Int32))) (R10.2.1) F ((SBu.f_doorBits bu) &&& ((SBu.f_outBits bu) ^^^ (-1 : Int32))) (0 : Int32) (R12.2.1) (R12.2.2)
    )
  )
def x8_isWay (F : Nat) (mo : SMo) : Option (Int32 × SMo) :=
  (x8_setFar F mo).bind fun R1 =>
  (x8_goal R1).bind fun R2 =>
  if ib R2 1764 = true then (
    if ((SMo.f_far R1) (Int32.toNatClampNeg R2)) < 0 then (
      some ((0 : Int32), R1)
    ) else (
      some ((1 : Int32), R1)
    )
  ) else none
def x8_doors_L47 (F : Nat) (x1 : Int32) (x2 : Int32) (o39 : Int32 → SMo → Option (Int32 × SMo)) : Nat → Int32 → SMo → Option (Int32 × SMo)
  | 0, _, _ => none
  | k + 1, x3, mo =>
    if (4096 : Int32) ≤ x3 then (
      o39 (x2 + 1) mo
    ) else (
      if (x3 &&& (x1 ^^^ (-1 : Int32))) = 0 then (
        (x8_bitsIn F x3).bind fun R3 =>
        if R3 = x2 then (
          (x8_isWay F (SMo.s_gone mo x3)).bind fun R5 =>
          if (R5.1) = 0 then (
            x8_doors_L47 F x1 x2 o39 k (x3 + 1) (R5.2)
          ) else (
            some (x3, (R5.2))
          )
        ) else (
          x8_doors_L47 F x1 x2 o39 k (x3 + 1) mo
        )
      ) else (
        x8_doors_L47 F x1 x2 o39 k (x3 + 1) mo
      )
    )
def x8_doors_L39 (F : Nat) (x1 : Int32) : Nat → Int32 → SMo → Option (Int32 × SMo)
  | 0, _, _ => none
  | k + 1, x2, mo =>
    if (12 : Int32) < x2 then (
      some ((-9 : Int32), mo)
    ) else (
      x8_doors_L47 F x1 x2 (x8_doors_L39 F x1 k) F (0 : Int32) mo
    )
def x8_doors (F : Nat) (mo : SMo) : Option (Int32 × SMo) :=
  (x8_begin F mo).bind fun R8 =>
  if (R8.1) = 0 then (
    some ((-4 : Int32), (R8.2))
  ) else (
    (x8_isWay F (SMo.s_gone (R8.2) ((SMo.f_doors (R8.2)) &&& ((SMo.f_outs (R8.2)) ^^^ (-1 : Int32))))).bind fun R10 =>
    if (R10.1) = 0 then (
      some ((-9 : Int32), (R10.2))
    ) else (
      x8_doors_L39 F ((SMo.f_doors (R8.2)) &&& ((SMo.f_outs (R8.2)) ^^^ (-1 : Int32))) F (0 : Int32) (R10.2)
    )
  )
def x1_grow_L65 (F : Nat) (fl : SFl) (fl_narrowed : Nat → Int32) : Nat → Int32 → (Nat → Int32) → Option (SFl)
  | 0, _, _ => none
  | k + 1, x1, fl_open =>
    if (20 : Int32) ≤ x1 then (
      some (SFl.s_narrowed (SFl.s_open fl fl_open) fl_narrowed)
    ) else (
      if ib x1 20 = true then (
        (x7_put 20 fl_open x1 (fl_narrowed (Int32.toNatClampNeg x1))).bind fun R3 =>
        x1_grow_L65 F fl fl_narrowed k (x1 + 1) R3
      ) else none
    )
def x1_grow_L2 (F : Nat) (fl : SFl) (fl_open : Nat → Int32) : Nat → Int32 → (Nat → Int32) → Option (SFl)
  | 0, _, _ => none
  | k + 1, x1, fl_narrowed =>
    if (20 : Int32) ≤ x1 then (
      x1_grow_L65 F fl fl_narrowed F (0 : Int32) fl_open
    ) else (
      (x7_at 20 fl_open (x1 - (1 : Int32))).bind fun R5 =>
      (x7_at 20 fl_open x1).bind fun R6 =>
      (x7_at 20 fl_open (x1 + (1 : Int32))).bind fun R7 =>
      if ib x1 20 = true then (
        x1_grow_L2 F fl fl_open k (x1 + 1) (upd fl_narrowed (Int32.toNatClampNeg x1) ((((R5 &&& R6) &&& R7) &&& (((R5 &&& R6) &&& R7) <<< ((1 : Int32) &&& 31))) &&& (((R5 &&& R6) &&& R7) >>> ((1 : Int32) &&& 31))))
      ) else none
    )
def x1_grow (F : Nat) (fl : SFl) : Option (SFl) :=
  x1_grow_L2 F fl (SFl.f_open fl) F (0 : Int32) (SFl.f_narrowed fl)
def x7_narrow_L27 (F : Nat) (bu : SBu) (lo : SLo) (ph : SPh) (p1 : Int32) (sh : SSh) : Nat → Int32 → Int32 → SFl → SSe → Option (Int32 × SSh × SFl × SSe)
  | 0, _, _, _, _ => none
  | k + 1, x2, x3, fl, se =>
    if p1 < x3 then (
      some (x2, sh, fl, se)
    ) else (
      (x7_leadsToGoal F fl se ph).bind fun R2 =>
      if (R2.1) = 0 then (
        some (x2, sh, fl, (R2.2))
      ) else (
        (x1_grow F fl).bind fun R4 =>
        (x1_mark F sh R4).bind fun R5 =>
        x7_narrow_L27 F bu lo ph p1 sh k x3 (x3 + 1) R5 (R2.2)
      )
    )
def x7_narrow (F : Nat) (bu : SBu) (lo : SLo) (sh : SSh) (fl : SFl) (se : SSe) (ph : SPh) (p1 : Int32) : Option (Int32 × SSh × SFl × SSe) :=
  (x7_isWithin p1 (0 : Int32) (9 : Int32)).bind fun R6 =>
  if R6 = 0 then (
    some ((-1 : Int32), sh, fl, se)
  ) else (
    (x7_layOut F bu lo sh fl ph).bind fun R8 =>
    if (R8.1) = 0 then (
      some ((-4 : Int32), (R8.2.1), (R8.2.2), se)
    ) else (
      x7_narrow_L27 F bu lo ph p1 (R8.2.1) F (-9 : Int32) (0 : Int32) (R8.2.2) se
    )
  )
def x8_narrow_L27 (F : Nat) (p1 : Int32) : Nat → Int32 → Int32 → SMo → Option (Int32 × SMo)
  | 0, _, _, _ => none
  | k + 1, x2, x3, mo =>
    if p1 < x3 then (
      some (x2, mo)
    ) else (
      (x8_setBars F mo x3).bind fun R2 =>
      (x8_isWay F R2).bind fun R3 =>
      if (R3.1) = 0 then (
        x8_narrow_L27 F p1 k x2 (x3 + 1) (R3.2)
      ) else (
        x8_narrow_L27 F p1 k x3 (x3 + 1) (R3.2)
      )
    )
def x8_narrow (F : Nat) (mo : SMo) (p1 : Int32) : Option (Int32 × SMo) :=
  (x8_in p1 (0 : Int32) (9 : Int32)).bind fun R5 =>
  if R5 = 0 then (
    some ((-1 : Int32), mo)
  ) else (
    (x8_begin F mo).bind fun R7 =>
    if (R7.1) = 0 then (
      some ((-4 : Int32), (R7.2))
    ) else (
      x8_narrow_L27 F p1 F (-9 : Int32) (0 : Int32) (R7.2)
    )
  )
def x7_draft (ph : SPh) (p1 : Int32) : Option (Int32 × SPh) :=
  (x7_isWithin p1 (0 : Int32) (5 : Int32)).bind fun R1 =>
  if R1 = 0 then (
    some ((-1 : Int32), ph)
  ) else (
    if (SPh.f_draftLength ph) < (200 : Int32) then (
      (x7_put 200 (SPh.f_draftSteps ph) (SPh.f_draftLength ph) p1).bind fun R4 =>
      some (((SPh.f_draftLength ph) + (1 : Int32)), (SPh.s_draftLength (SPh.s_draftSteps ph R4) ((SPh.f_draftLength ph) + (1 : Int32))))
    ) else (
      some ((-2 : Int32), ph)
    )
  )
def x8_draft (mo : SMo) (p1 : Int32) : Option (Int32 × SMo) :=
  (x8_in p1 (0 : Int32) (5 : Int32)).bind fun R1 =>
  if R1 = 0 then (
    some ((-1 : Int32), mo)
  ) else (
    if (SMo.f_draftMany mo) = (200 : Int32) then (
      some ((-2 : Int32), mo)
    ) else (
      if ib (SMo.f_draftMany mo) 200 = true then (
        some (((SMo.f_draftMany mo) + (1 : Int32)), (SMo.s_draftMany (SMo.s_drafted mo (upd (SMo.f_drafted mo) (Int32.toNatClampNeg (SMo.f_draftMany mo)) p1)) ((SMo.f_draftMany mo) + (1 : Int32))))
      ) else none
    )
  )
def x7_check_L44 (F : Nat) (bu : SBu) (lo : SLo) (ph : SPh) (x1 : Int32) (sh : SSh) (fl : SFl) (ph_draftLength : Int32) : Nat → Int32 → Int32 → Option (Int32 × SSh × SFl × SPh)
  | 0, _, _ => none
  | k + 1, x2, x3 =>
    if x1 ≤ x3 then (
      if x2 = (SPh.f_goalState ph) then (
        some ((1 : Int32), sh, fl, (SPh.s_draftLength ph ph_draftLength))
      ) else (
        some (((-10 : Int32) - x1), sh, fl, (SPh.s_draftLength ph ph_draftLength))
      )
    ) else (
      (x7_at 200 (SPh.f_draftSteps ph) x3).bind fun R3 =>
      (x1_lead fl x2 R3).bind fun R4 =>
      if R4 = (-9 : Int32) then (
        some (((-10 : Int32) - x3), sh, fl, (SPh.s_draftLength ph ph_draftLength))
      ) else (
        x7_check_L44 F bu lo ph x1 sh fl ph_draftLength k R4 (x3 + 1)
      )
    )
def x7_check (F : Nat) (bu : SBu) (lo : SLo) (sh : SSh) (fl : SFl) (ph : SPh) : Option (Int32 × SSh × SFl × SPh) :=
  (x7_layOut F bu lo sh fl (SPh.s_draftLength ph (0 : Int32))).bind fun R6 =>
  if (R6.1) = 0 then (
    some ((-4 : Int32), (R6.2.1), (R6.2.2), (SPh.s_draftLength ph (0 : Int32)))
  ) else (
    (x1_isFree (R6.2.2) (SPh.f_beginning (SPh.s_draftLength ph (0 : Int32)))).bind fun R8 =>
    if R8 = 0 then (
      some ((-10 : Int32), (R6.2.1), (R6.2.2), (SPh.s_draftLength ph (0 : Int32)))
    ) else (
      x7_check_L44 F bu lo ph (SPh.f_draftLength ph) (R6.2.1) (R6.2.2) (SPh.f_draftLength (SPh.s_draftLength ph (0 : Int32))) F (SPh.f_beginning (SPh.s_draftLength ph (0 : Int32))) (0 : Int32)
    )
  )
def x8_check_L34 (F : Nat) (x1 : Int32) (x3 : Int32) (mo : SMo) : Nat → Int32 → Int32 → Option (Int32 × SMo)
  | 0, _, _ => none
  | k + 1, x2, x4 =>
    if x1 ≤ x4 then (
      if x3 = 0 then (
        some (((-10 : Int32) - x1), mo)
      ) else (
        (x8_goal mo).bind fun R3 =>
        if x2 = R3 then (
          some ((1 : Int32), mo)
        ) else (
          some (((-10 : Int32) - x1), mo)
        )
      )
    ) else (
      if x3 = 0 then (
        some (((-10 : Int32) - x4), mo)
      ) else (
        if ib x4 200 = true then (
          (x8_led mo x2 ((SMo.f_drafted mo) (Int32.toNatClampNeg x4))).bind fun R8 =>
          if 0 ≤ R8 then (
            x8_check_L34 F x1 x3 mo k R8 (x4 + 1)
          ) else (
            some (((-10 : Int32) - x4), mo)
          )
        ) else none
      )
    )
def x8_check (F : Nat) (mo : SMo) : Option (Int32 × SMo) :=
  (x8_begin F (SMo.s_draftMany mo (0 : Int32))).bind fun R10 =>
  if (R10.1) = 0 then (
    some ((-4 : Int32), (R10.2))
  ) else (
    (x8_beginning (R10.2)).bind fun R12 =>
    (x8_isFree (R10.2) R12).bind fun R13 =>
    x8_check_L34 F (SMo.f_draftMany mo) R13 (R10.2) F R12 (0 : Int32)
  )
def x7_many (bu : SBu) (ph : SPh) (p1 : Int32) : Option (Int32) :=
  if p1 = (0 : Int32) then (
    some (SBu.f_w bu)
  ) else (
  if p1 = (1 : Int32) then (
    some (SBu.f_h bu)
  ) else (
  if p1 = (2 : Int32) then (
    some (SBu.f_things bu)
  ) else (
  if p1 = (3 : Int32) then (
    some (SBu.f_kept bu)
  ) else (
  if p1 = (4 : Int32) then (
    some (SPh.f_draftLength ph)
  ) else (
    some (-1 : Int32)
  )))))
def x8_many (mo : SMo) (p1 : Int32) : Option (Int32) :=
  if p1 = (0 : Int32) then (
    some (SMo.f_wide mo)
  ) else (
  if p1 = (1 : Int32) then (
    some (SMo.f_high mo)
  ) else (
  if p1 = (2 : Int32) then (
    some (SMo.f_things mo)
  ) else (
  if p1 = (3 : Int32) then (
    some (SMo.f_undos mo)
  ) else (
  if p1 = (4 : Int32) then (
    some (SMo.f_draftMany mo)
  ) else (
    some (-1 : Int32)
  )))))
def x7_finding (ph : SPh) : Option (Int32) :=
  some (SPh.f_latestFinding ph)
def x8_finding (mo : SMo) : Option (Int32) :=
  some (SMo.f_finding mo)
def x7_findings (ph : SPh) (p1 : Int32) : Option (Int32) :=
  (x7_isWithin p1 (1 : Int32) (4 : Int32)).bind fun R1 =>
  if R1 = 0 then (
    some (-1 : Int32)
  ) else (
    (x7_at 5 (SPh.f_findingCounts ph) p1).bind fun R3 =>
    some R3
  )
def x8_findings (mo : SMo) (p1 : Int32) : Option (Int32) :=
  (x8_in p1 (1 : Int32) (4 : Int32)).bind fun R1 =>
  if R1 = 0 then (
    some (-1 : Int32)
  ) else (
    if ib p1 5 = true then (
      some ((SMo.f_findings mo) (Int32.toNatClampNeg p1))
    ) else none
  )
def x7_mix (p0 : Int64) (p2 : Int32) : Option (Int64) :=
  some (((31 : Int64) * p0) + (Int32.toInt64 p2))
def x7_mixState (p0 : Int64) (p2 : Int32) : Option (Int64) :=
  (x7_xOf p2).bind fun R1 =>
  (x7_mix p0 R1).bind fun R2 =>
  (x7_yOf p2).bind fun R3 =>
  (x7_mix R2 R3).bind fun R4 =>
  (x7_qOf p2).bind fun R5 =>
  (x7_mix R4 R5).bind fun R6 =>
  some R6
def x7_digest_L133 (F : Nat) (bu : SBu) (lo : SLo) (ph : SPh) : Nat → Int64 → Int32 → Option (Int64)
  | 0, _, _ => none
  | k + 1, x1, x3 =>
    if (SLo.f_count lo) ≤ x3 then (
      (x7_mix x1 (SLo.f_hx lo)).bind fun R2 =>
      (x7_mix R2 (SLo.f_hy lo)).bind fun R3 =>
      (x7_mixState R3 (SPh.f_beginning ph)).bind fun R4 =>
      (x7_mixState R4 (SPh.f_goalState ph)).bind fun R5 =>
      some R5
    ) else (
      (x2_bitsOf lo x3).bind fun R6 =>
      (x7_mix x1 R6).bind fun R7 =>
      x7_digest_L133 F bu lo ph k R7 (x3 + 1)
    )
def x7_digest_L84 (F : Nat) (bu : SBu) (lo : SLo) (ph : SPh) : Nat → Int64 → Int32 → Option (Int64)
  | 0, _, _ => none
  | k + 1, x1, x3 =>
    if (SBu.f_things bu) ≤ x3 then (
      x7_digest_L133 F bu lo ph F x1 (0 : Int32)
    ) else (
      (x7_mix x1 (((SBu.f_doorBits bu) >>> (x3 &&& 31)) &&& (1 : Int32))).bind fun R9 =>
      (x7_mix R9 (((SBu.f_outBits bu) >>> (x3 &&& 31)) &&& (1 : Int32))).bind fun R10 =>
      x7_digest_L84 F bu lo ph k R10 (x3 + 1)
    )
def x7_digest_L40 (F : Nat) (bu : SBu) (lo : SLo) (ph : SPh) (x3 : Int32) (o26 : Int64 → Int32 → Option (Int64)) : Nat → Int64 → Int32 → Option (Int64)
  | 0, _, _ => none
  | k + 1, x1, x4 =>
    if (SBu.f_w bu) ≤ x4 then (
      o26 x1 (x3 + 1)
    ) else (
      (x0_thingsOn bu x4 x3).bind fun R12 =>
      (x7_leastOf F R12).bind fun R13 =>
      (x7_mix x1 R13).bind fun R14 =>
      x7_digest_L40 F bu lo ph x3 o26 k R14 (x4 + 1)
    )
def x7_digest_L26 (F : Nat) (bu : SBu) (lo : SLo) (ph : SPh) : Nat → Int64 → Int32 → Option (Int64)
  | 0, _, _ => none
  | k + 1, x1, x3 =>
    if (SBu.f_h bu) ≤ x3 then (
      x7_digest_L84 F bu lo ph F x1 (0 : Int32)
    ) else (
      x7_digest_L40 F bu lo ph x3 (x7_digest_L26 F bu lo ph k) F x1 (0 : Int32)
    )
def x7_digest (F : Nat) (bu : SBu) (lo : SLo) (ph : SPh) : Option (Int64) :=
  (x7_mix (17 : Int64) (SBu.f_w bu)).bind fun R16 =>
  (x7_mix R16 (SBu.f_h bu)).bind fun R17 =>
  x7_digest_L26 F bu lo ph F R17 (0 : Int32)
def x8_digest_L169 (F : Nat) (mo : SMo) : Nat → Int64 → Int32 → Option (Int64)
  | 0, _, _ => none
  | k + 1, x1, x3 =>
    if (6 : Int32) ≤ x3 then (
      some x1
    ) else (
      if ib x3 6 = true then (
        x8_digest_L169 F mo k (((31 : Int64) * x1) + (Int32.toInt64 ((SMo.f_ends mo) (Int32.toNatClampNeg x3)))) (x3 + 1)
      ) else none
    )
def x8_digest_L117 (F : Nat) (mo : SMo) : Nat → Int64 → Int32 → Option (Int64)
  | 0, _, _ => none
  | k + 1, x1, x3 =>
    if (SMo.f_rowMany mo) ≤ x3 then (
      x8_digest_L169 F mo F (((31 : Int64) * (((31 : Int64) * x1) + (Int32.toInt64 (SMo.f_holdX mo)))) + (Int32.toInt64 (SMo.f_holdY mo))) (0 : Int32)
    ) else (
      if ib x3 6 = true then (
        x8_digest_L117 F mo k (((31 : Int64) * x1) + (Int32.toInt64 ((SMo.f_rows mo) (Int32.toNatClampNeg x3)))) (x3 + 1)
      ) else none
    )
def x8_digest_L71 (F : Nat) (mo : SMo) : Nat → Int64 → Int32 → Option (Int64)
  | 0, _, _ => none
  | k + 1, x1, x3 =>
    if (SMo.f_things mo) ≤ x3 then (
      x8_digest_L117 F mo F x1 (0 : Int32)
    ) else (
      x8_digest_L71 F mo k (((31 : Int64) * (((31 : Int64) * x1) + (Int32.toInt64 (((SMo.f_doors mo) >>> (x3 &&& 31)) &&& (1 : Int32))))) + (Int32.toInt64 (((SMo.f_outs mo) >>> (x3 &&& 31)) &&& (1 : Int32)))) (x3 + 1)
    )
def x8_digest_L33 (F : Nat) (mo : SMo) (x3 : Int32) (o22 : Int64 → Int32 → Option (Int64)) : Nat → Int64 → Int32 → Option (Int64)
  | 0, _, _ => none
  | k + 1, x1, x4 =>
    if (SMo.f_wide mo) ≤ x4 then (
      o22 x1 (x3 + 1)
    ) else (
      (x8_leastOn F mo x4 x3).bind fun R7 =>
      x8_digest_L33 F mo x3 o22 k (((31 : Int64) * x1) + (Int32.toInt64 R7)) (x4 + 1)
    )
def x8_digest_L22 (F : Nat) (mo : SMo) : Nat → Int64 → Int32 → Option (Int64)
  | 0, _, _ => none
  | k + 1, x1, x3 =>
    if (SMo.f_high mo) ≤ x3 then (
      x8_digest_L71 F mo F x1 (0 : Int32)
    ) else (
      x8_digest_L33 F mo x3 (x8_digest_L22 F mo k) F x1 (0 : Int32)
    )
def x8_digest (F : Nat) (mo : SMo) : Option (Int64) :=
  x8_digest_L22 F mo F (((31 : Int64) * ((527 : Int64) + (Int32.toInt64 (SMo.f_wide mo)))) + (Int32.toInt64 (SMo.f_high mo))) (0 : Int32)
