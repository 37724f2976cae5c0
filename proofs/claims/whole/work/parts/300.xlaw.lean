/-! the law as a function -/
def xl_c200 (F L : Nat) (xs : Nat → Int32) (o : Int32 → SBu → SLo → SSh → SFl → SRe → SSe → SRo → SPh → SMo → Option Int32) (x3 : Int32) (bu : SBu) (lo : SLo) (sh : SSh) (fl : SFl) (re : SRe) (se : SSe) (ro : SRo) (ph : SPh) (mo : SMo) : Option Int32 :=
  if ib (x3 + (1 : Int32)) L = true then (
    if ib (x3 + (2 : Int32)) L = true then (
      (x7_house F bu ph (xs (Int32.toNatClampNeg (x3 + (1 : Int32)))) (xs (Int32.toNatClampNeg (x3 + (2 : Int32))))).bind fun R3 =>
      if ib (x3 + (1 : Int32)) L = true then (
        if ib (x3 + (2 : Int32)) L = true then (
          (x8_house F mo (xs (Int32.toNatClampNeg (x3 + (1 : Int32)))) (xs (Int32.toNatClampNeg (x3 + (2 : Int32))))).bind fun R6 =>
          if (R3.1) = (R6.1) then (
            o (x3 + 6) (R3.2.1) lo sh fl re se ro (R3.2.2) (R6.2)
          ) else (
            some (0 : Int32)
          )
        ) else none
      ) else none
    ) else none
  ) else none
def xl_c233 (F L : Nat) (xs : Nat → Int32) (o : Int32 → SBu → SLo → SSh → SFl → SRe → SSe → SRo → SPh → SMo → Option Int32) (x3 : Int32) (bu : SBu) (lo : SLo) (sh : SSh) (fl : SFl) (re : SRe) (se : SSe) (ro : SRo) (ph : SPh) (mo : SMo) : Option Int32 :=
  if ib (x3 + (1 : Int32)) L = true then (
    if (xs (Int32.toNatClampNeg (x3 + (1 : Int32)))) = 0 then (
      (x7_thing F bu ph (0 : Int32)).bind fun R3 =>
      if ib (x3 + (1 : Int32)) L = true then (
        if (xs (Int32.toNatClampNeg (x3 + (1 : Int32)))) = 0 then (
          (x8_thing F mo (0 : Int32)).bind fun R6 =>
          if (R3.1) = (R6.1) then (
            o (x3 + 6) (R3.2) lo sh fl re se ro ph (R6.2)
          ) else (
            some (0 : Int32)
          )
        ) else (
          (x8_thing F mo (1 : Int32)).bind fun R8 =>
          if (R3.1) = (R8.1) then (
            o (x3 + 6) (R3.2) lo sh fl re se ro ph (R8.2)
          ) else (
            some (0 : Int32)
          )
        )
      ) else none
    ) else (
      (x7_thing F bu ph (1 : Int32)).bind fun R10 =>
      if ib (x3 + (1 : Int32)) L = true then (
        if (xs (Int32.toNatClampNeg (x3 + (1 : Int32)))) = 0 then (
          (x8_thing F mo (0 : Int32)).bind fun R13 =>
          if (R10.1) = (R13.1) then (
            o (x3 + 6) (R10.2) lo sh fl re se ro ph (R13.2)
          ) else (
            some (0 : Int32)
          )
        ) else (
          (x8_thing F mo (1 : Int32)).bind fun R15 =>
          if (R10.1) = (R15.1) then (
            o (x3 + 6) (R10.2) lo sh fl re se ro ph (R15.2)
          ) else (
            some (0 : Int32)
          )
        )
      ) else none
    )
  ) else none
def xl_c272 (F L : Nat) (xs : Nat → Int32) (o : Int32 → SBu → SLo → SSh → SFl → SRe → SSe → SRo → SPh → SMo → Option Int32) (x3 : Int32) (bu : SBu) (lo : SLo) (sh : SSh) (fl : SFl) (re : SRe) (se : SSe) (ro : SRo) (ph : SPh) (mo : SMo) : Option Int32 :=
  if ib (x3 + (1 : Int32)) L = true then (
    if ib (x3 + (2 : Int32)) L = true then (
      if ib (x3 + (3 : Int32)) L = true then (
        if ib (x3 + (4 : Int32)) L = true then (
          if ib (x3 + (5 : Int32)) L = true then (
            (x7_fill F bu ph (xs (Int32.toNatClampNeg (x3 + (1 : Int32)))) (xs (Int32.toNatClampNeg (x3 + (2 : Int32)))) (xs (Int32.toNatClampNeg (x3 + (3 : Int32)))) (xs (Int32.toNatClampNeg (x3 + (4 : Int32)))) (xs (Int32.toNatClampNeg (x3 + (5 : Int32))))).bind fun R6 =>
            if ib (x3 + (1 : Int32)) L = true then (
              if ib (x3 + (2 : Int32)) L = true then (
                if ib (x3 + (3 : Int32)) L = true then (
                  if ib (x3 + (4 : Int32)) L = true then (
                    if ib (x3 + (5 : Int32)) L = true then (
                      (x8_fill F mo (xs (Int32.toNatClampNeg (x3 + (1 : Int32)))) (xs (Int32.toNatClampNeg (x3 + (2 : Int32)))) (xs (Int32.toNatClampNeg (x3 + (3 : Int32)))) (xs (Int32.toNatClampNeg (x3 + (4 : Int32)))) (xs (Int32.toNatClampNeg (x3 + (5 : Int32))))).bind fun R12 =>
                      if (R6.1) = (R12.1) then (
                        o (x3 + 6) (R6.2) lo sh fl re se ro ph (R12.2)
                      ) else (
                        some (0 : Int32)
                      )
                    ) else none
                  ) else none
                ) else none
              ) else none
            ) else none
          ) else none
        ) else none
      ) else none
    ) else none
  ) else none
def xl_c335 (F L : Nat) (xs : Nat → Int32) (o : Int32 → SBu → SLo → SSh → SFl → SRe → SSe → SRo → SPh → SMo → Option Int32) (x3 : Int32) (bu : SBu) (lo : SLo) (sh : SSh) (fl : SFl) (re : SRe) (se : SSe) (ro : SRo) (ph : SPh) (mo : SMo) : Option Int32 :=
  if ib (x3 + (1 : Int32)) L = true then (
    if ib (x3 + (2 : Int32)) L = true then (
      if ib (x3 + (3 : Int32)) L = true then (
        (x7_clear F bu ph (xs (Int32.toNatClampNeg (x3 + (1 : Int32)))) (xs (Int32.toNatClampNeg (x3 + (2 : Int32)))) (xs (Int32.toNatClampNeg (x3 + (3 : Int32))))).bind fun R4 =>
        if ib (x3 + (1 : Int32)) L = true then (
          if ib (x3 + (2 : Int32)) L = true then (
            if ib (x3 + (3 : Int32)) L = true then (
              (x8_clear F mo (xs (Int32.toNatClampNeg (x3 + (1 : Int32)))) (xs (Int32.toNatClampNeg (x3 + (2 : Int32)))) (xs (Int32.toNatClampNeg (x3 + (3 : Int32))))).bind fun R8 =>
              if (R4.1) = (R8.1) then (
                o (x3 + 6) (R4.2) lo sh fl re se ro ph (R8.2)
              ) else (
                some (0 : Int32)
              )
            ) else none
          ) else none
        ) else none
      ) else none
    ) else none
  ) else none
def xl_c378 (F L : Nat) (xs : Nat → Int32) (o : Int32 → SBu → SLo → SSh → SFl → SRe → SSe → SRo → SPh → SMo → Option Int32) (x3 : Int32) (bu : SBu) (lo : SLo) (sh : SSh) (fl : SFl) (re : SRe) (se : SSe) (ro : SRo) (ph : SPh) (mo : SMo) : Option Int32 :=
  if ib (x3 + (1 : Int32)) L = true then (
    if ib (x3 + (2 : Int32)) L = true then (
      if (xs (Int32.toNatClampNeg (x3 + (2 : Int32)))) = 0 then (
        (x7_out F bu ph (xs (Int32.toNatClampNeg (x3 + (1 : Int32)))) (0 : Int32)).bind fun R4 =>
        if ib (x3 + (1 : Int32)) L = true then (
          if ib (x3 + (2 : Int32)) L = true then (
            if (xs (Int32.toNatClampNeg (x3 + (2 : Int32)))) = 0 then (
              (x8_out F mo (xs (Int32.toNatClampNeg (x3 + (1 : Int32)))) (0 : Int32)).bind fun R8 =>
              if (R4.1) = (R8.1) then (
                o (x3 + 6) (R4.2) lo sh fl re se ro ph (R8.2)
              ) else (
                some (0 : Int32)
              )
            ) else (
              (x8_out F mo (xs (Int32.toNatClampNeg (x3 + (1 : Int32)))) (1 : Int32)).bind fun R10 =>
              if (R4.1) = (R10.1) then (
                o (x3 + 6) (R4.2) lo sh fl re se ro ph (R10.2)
              ) else (
                some (0 : Int32)
              )
            )
          ) else none
        ) else none
      ) else (
        (x7_out F bu ph (xs (Int32.toNatClampNeg (x3 + (1 : Int32)))) (1 : Int32)).bind fun R12 =>
        if ib (x3 + (1 : Int32)) L = true then (
          if ib (x3 + (2 : Int32)) L = true then (
            if (xs (Int32.toNatClampNeg (x3 + (2 : Int32)))) = 0 then (
              (x8_out F mo (xs (Int32.toNatClampNeg (x3 + (1 : Int32)))) (0 : Int32)).bind fun R16 =>
              if (R12.1) = (R16.1) then (
                o (x3 + 6) (R12.2) lo sh fl re se ro ph (R16.2)
              ) else (
                some (0 : Int32)
              )
            ) else (
              (x8_out F mo (xs (Int32.toNatClampNeg (x3 + (1 : Int32)))) (1 : Int32)).bind fun R18 =>
              if (R12.1) = (R18.1) then (
                o (x3 + 6) (R12.2) lo sh fl re se ro ph (R18.2)
              ) else (
                some (0 : Int32)
              )
            )
          ) else none
        ) else none
      )
    ) else none
  ) else none
def xl_c427 (F L : Nat) (xs : Nat → Int32) (o : Int32 → SBu → SLo → SSh → SFl → SRe → SSe → SRo → SPh → SMo → Option Int32) (x3 : Int32) (bu : SBu) (lo : SLo) (sh : SSh) (fl : SFl) (re : SRe) (se : SSe) (ro : SRo) (ph : SPh) (mo : SMo) : Option Int32 :=
  (x7_undo F bu ph).bind fun R1 =>
  (x8_undo F mo).bind fun R2 =>
  if (R1.1) = (R2.1) then (
    o (x3 + 6) (R1.2) lo sh fl re se ro ph (R2.2)
  ) else (
    some (0 : Int32)
  )
def xl_c440 (F L : Nat) (xs : Nat → Int32) (o : Int32 → SBu → SLo → SSh → SFl → SRe → SSe → SRo → SPh → SMo → Option Int32) (x3 : Int32) (bu : SBu) (lo : SLo) (sh : SSh) (fl : SFl) (re : SRe) (se : SSe) (ro : SRo) (ph : SPh) (mo : SMo) : Option Int32 :=
  if ib (x3 + (1 : Int32)) L = true then (
    if ib (x3 + (2 : Int32)) L = true then (
      (x7_open bu ph (xs (Int32.toNatClampNeg (x3 + (1 : Int32)))) (xs (Int32.toNatClampNeg (x3 + (2 : Int32))))).bind fun R3 =>
      if ib (x3 + (1 : Int32)) L = true then (
        if ib (x3 + (2 : Int32)) L = true then (
          (x8_open mo (xs (Int32.toNatClampNeg (x3 + (1 : Int32)))) (xs (Int32.toNatClampNeg (x3 + (2 : Int32))))).bind fun R6 =>
          if R3 = R6 then (
            o (x3 + 6) bu lo sh fl re se ro ph mo
          ) else (
            some (0 : Int32)
          )
        ) else none
      ) else none
    ) else none
  ) else none
def xl_c473 (F L : Nat) (xs : Nat → Int32) (o : Int32 → SBu → SLo → SSh → SFl → SRe → SSe → SRo → SPh → SMo → Option Int32) (x3 : Int32) (bu : SBu) (lo : SLo) (sh : SSh) (fl : SFl) (re : SRe) (se : SSe) (ro : SRo) (ph : SPh) (mo : SMo) : Option Int32 :=
  if ib (x3 + (1 : Int32)) L = true then (
    if ib (x3 + (2 : Int32)) L = true then (
      (x7_on F bu ph (xs (Int32.toNatClampNeg (x3 + (1 : Int32)))) (xs (Int32.toNatClampNeg (x3 + (2 : Int32))))).bind fun R3 =>
      if ib (x3 + (1 : Int32)) L = true then (
        if ib (x3 + (2 : Int32)) L = true then (
          (x8_on F mo (xs (Int32.toNatClampNeg (x3 + (1 : Int32)))) (xs (Int32.toNatClampNeg (x3 + (2 : Int32))))).bind fun R6 =>
          if R3 = R6 then (
            o (x3 + 6) bu lo sh fl re se ro ph mo
          ) else (
            some (0 : Int32)
          )
        ) else none
      ) else none
    ) else none
  ) else none
def xl_c506 (F L : Nat) (xs : Nat → Int32) (o : Int32 → SBu → SLo → SSh → SFl → SRe → SSe → SRo → SPh → SMo → Option Int32) (x3 : Int32) (bu : SBu) (lo : SLo) (sh : SSh) (fl : SFl) (re : SRe) (se : SSe) (ro : SRo) (ph : SPh) (mo : SMo) : Option Int32 :=
  if ib (x3 + (1 : Int32)) L = true then (
    (x7_rows F lo ph (xs (Int32.toNatClampNeg (x3 + (1 : Int32))))).bind fun R2 =>
    if ib (x3 + (1 : Int32)) L = true then (
      (x8_rows F mo (xs (Int32.toNatClampNeg (x3 + (1 : Int32))))).bind fun R4 =>
      if (R2.1) = (R4.1) then (
        o (x3 + 6) bu (R2.2.1) sh fl re se ro (R2.2.2) (R4.2)
      ) else (
        some (0 : Int32)
      )
    ) else none
  ) else none
def xl_c529 (F L : Nat) (xs : Nat → Int32) (o : Int32 → SBu → SLo → SSh → SFl → SRe → SSe → SRo → SPh → SMo → Option Int32) (x3 : Int32) (bu : SBu) (lo : SLo) (sh : SSh) (fl : SFl) (re : SRe) (se : SSe) (ro : SRo) (ph : SPh) (mo : SMo) : Option Int32 :=
  if ib (x3 + (1 : Int32)) L = true then (
    if ib (x3 + (2 : Int32)) L = true then (
      (x7_row lo ph (xs (Int32.toNatClampNeg (x3 + (1 : Int32)))) (xs (Int32.toNatClampNeg (x3 + (2 : Int32))))).bind fun R3 =>
      if ib (x3 + (1 : Int32)) L = true then (
        if ib (x3 + (2 : Int32)) L = true then (
          (x8_row mo (xs (Int32.toNatClampNeg (x3 + (1 : Int32)))) (xs (Int32.toNatClampNeg (x3 + (2 : Int32))))).bind fun R6 =>
          if (R3.1) = (R6.1) then (
            o (x3 + 6) bu (R3.2.1) sh fl re se ro (R3.2.2) (R6.2)
          ) else (
            some (0 : Int32)
          )
        ) else none
      ) else none
    ) else none
  ) else none
def xl_c562 (F L : Nat) (xs : Nat → Int32) (o : Int32 → SBu → SLo → SSh → SFl → SRe → SSe → SRo → SPh → SMo → Option Int32) (x3 : Int32) (bu : SBu) (lo : SLo) (sh : SSh) (fl : SFl) (re : SRe) (se : SSe) (ro : SRo) (ph : SPh) (mo : SMo) : Option Int32 :=
  if ib (x3 + (1 : Int32)) L = true then (
    (x7_tear lo ph (xs (Int32.toNatClampNeg (x3 + (1 : Int32))))).bind fun R2 =>
    if ib (x3 + (1 : Int32)) L = true then (
      (x8_tear mo (xs (Int32.toNatClampNeg (x3 + (1 : Int32))))).bind fun R4 =>
      if (R2.1) = (R4.1) then (
        o (x3 + 6) bu (R2.2.1) sh fl re se ro (R2.2.2) (R4.2)
      ) else (
        some (0 : Int32)
      )
    ) else none
  ) else none
def xl_c585 (F L : Nat) (xs : Nat → Int32) (o : Int32 → SBu → SLo → SSh → SFl → SRe → SSe → SRo → SPh → SMo → Option Int32) (x3 : Int32) (bu : SBu) (lo : SLo) (sh : SSh) (fl : SFl) (re : SRe) (se : SSe) (ro : SRo) (ph : SPh) (mo : SMo) : Option Int32 :=
  if ib (x3 + (1 : Int32)) L = true then (
    if ib (x3 + (2 : Int32)) L = true then (
      if ib (x3 + (3 : Int32)) L = true then (
        (x7_copy F lo ph (xs (Int32.toNatClampNeg (x3 + (1 : Int32)))) (xs (Int32.toNatClampNeg (x3 + (2 : Int32)))) (xs (Int32.toNatClampNeg (x3 + (3 : Int32))))).bind fun R4 =>
        if ib (x3 + (1 : Int32)) L = true then (
          if ib (x3 + (2 : Int32)) L = true then (
            if ib (x3 + (3 : Int32)) L = true then (
              (x8_copy F mo (xs (Int32.toNatClampNeg (x3 + (1 : Int32)))) (xs (Int32.toNatClampNeg (x3 + (2 : Int32)))) (xs (Int32.toNatClampNeg (x3 + (3 : Int32))))).bind fun R8 =>
              if (R4.1) = (R8.1) then (
                o (x3 + 6) bu (R4.2.1) sh fl re se ro (R4.2.2) (R8.2)
              ) else (
                some (0 : Int32)
              )
            ) else none
          ) else none
        ) else none
      ) else none
    ) else none
  ) else none
def xl_c628 (F L : Nat) (xs : Nat → Int32) (o : Int32 → SBu → SLo → SSh → SFl → SRe → SSe → SRo → SPh → SMo → Option Int32) (x3 : Int32) (bu : SBu) (lo : SLo) (sh : SSh) (fl : SFl) (re : SRe) (se : SSe) (ro : SRo) (ph : SPh) (mo : SMo) : Option Int32 :=
  if ib (x3 + (1 : Int32)) L = true then (
    (x7_told lo ph (xs (Int32.toNatClampNeg (x3 + (1 : Int32))))).bind fun R2 =>
    if ib (x3 + (1 : Int32)) L = true then (
      (x8_told mo (xs (Int32.toNatClampNeg (x3 + (1 : Int32))))).bind fun R4 =>
      if (R2.1) = (R4.1) then (
        o (x3 + 6) bu lo sh fl re se ro (R2.2) (R4.2)
      ) else (
        some (0 : Int32)
      )
    ) else none
  ) else none
def xl_c651 (F L : Nat) (xs : Nat → Int32) (o : Int32 → SBu → SLo → SSh → SFl → SRe → SSe → SRo → SPh → SMo → Option Int32) (x3 : Int32) (bu : SBu) (lo : SLo) (sh : SSh) (fl : SFl) (re : SRe) (se : SSe) (ro : SRo) (ph : SPh) (mo : SMo) : Option Int32 :=
  if ib (x3 + (1 : Int32)) L = true then (
    if ib (x3 + (2 : Int32)) L = true then (
      (x7_hold lo ph (xs (Int32.toNatClampNeg (x3 + (1 : Int32)))) (xs (Int32.toNatClampNeg (x3 + (2 : Int32))))).bind fun R3 =>
      if ib (x3 + (1 : Int32)) L = true then (
        if ib (x3 + (2 : Int32)) L = true then (
          (x8_hold mo (xs (Int32.toNatClampNeg (x3 + (1 : Int32)))) (xs (Int32.toNatClampNeg (x3 + (2 : Int32))))).bind fun R6 =>
          if (R3.1) = (R6.1) then (
            o (x3 + 6) bu (R3.2) sh fl re se ro ph (R6.2)
          ) else (
            some (0 : Int32)
          )
        ) else none
      ) else none
    ) else none
  ) else none
def xl_c684 (F L : Nat) (xs : Nat → Int32) (o : Int32 → SBu → SLo → SSh → SFl → SRe → SSe → SRo → SPh → SMo → Option Int32) (x3 : Int32) (bu : SBu) (lo : SLo) (sh : SSh) (fl : SFl) (re : SRe) (se : SSe) (ro : SRo) (ph : SPh) (mo : SMo) : Option Int32 :=
  if ib (x3 + (1 : Int32)) L = true then (
    (x7_load F lo ph (xs (Int32.toNatClampNeg (x3 + (1 : Int32))))).bind fun R2 =>
    if ib (x3 + (1 : Int32)) L = true then (
      (x8_load F mo (xs (Int32.toNatClampNeg (x3 + (1 : Int32))))).bind fun R4 =>
      if R2 = R4 then (
        o (x3 + 6) bu lo sh fl re se ro ph mo
      ) else (
        some (0 : Int32)
      )
    ) else none
  ) else none
def xl_c707 (F L : Nat) (xs : Nat → Int32) (o : Int32 → SBu → SLo → SSh → SFl → SRe → SSe → SRo → SPh → SMo → Option Int32) (x3 : Int32) (bu : SBu) (lo : SLo) (sh : SSh) (fl : SFl) (re : SRe) (se : SSe) (ro : SRo) (ph : SPh) (mo : SMo) : Option Int32 :=
  if ib (x3 + (1 : Int32)) L = true then (
    if ib (x3 + (2 : Int32)) L = true then (
      if ib (x3 + (3 : Int32)) L = true then (
        (x7_free F bu lo sh fl ph (xs (Int32.toNatClampNeg (x3 + (1 : Int32)))) (xs (Int32.toNatClampNeg (x3 + (2 : Int32)))) (xs (Int32.toNatClampNeg (x3 + (3 : Int32))))).bind fun R4 =>
        if ib (x3 + (1 : Int32)) L = true then (
          if ib (x3 + (2 : Int32)) L = true then (
            if ib (x3 + (3 : Int32)) L = true then (
              (x8_free F mo (xs (Int32.toNatClampNeg (x3 + (1 : Int32)))) (xs (Int32.toNatClampNeg (x3 + (2 : Int32)))) (xs (Int32.toNatClampNeg (x3 + (3 : Int32))))).bind fun R8 =>
              if (R4.1) = (R8.1) then (
                o (x3 + 6) bu lo (R4.2.1) (R4.2.2) re se ro ph (R8.2)
              ) else (
                some (0 : Int32)
              )
            ) else none
          ) else none
        ) else none
      ) else none
    ) else none
  ) else none
def xl_c750 (F L : Nat) (xs : Nat → Int32) (o : Int32 → SBu → SLo → SSh → SFl → SRe → SSe → SRo → SPh → SMo → Option Int32) (x3 : Int32) (bu : SBu) (lo : SLo) (sh : SSh) (fl : SFl) (re : SRe) (se : SSe) (ro : SRo) (ph : SPh) (mo : SMo) : Option Int32 :=
  if ib (x3 + (1 : Int32)) L = true then (
    if ib (x3 + (2 : Int32)) L = true then (
      (x7_turning F bu lo sh fl ph (xs (Int32.toNatClampNeg (x3 + (1 : Int32)))) (xs (Int32.toNatClampNeg (x3 + (2 : Int32))))).bind fun R3 =>
      if ib (x3 + (1 : Int32)) L = true then (
        if ib (x3 + (2 : Int32)) L = true then (
          (x8_turning F mo (xs (Int32.toNatClampNeg (x3 + (1 : Int32)))) (xs (Int32.toNatClampNeg (x3 + (2 : Int32))))).bind fun R6 =>
          if (R3.1) = (R6.1) then (
            o (x3 + 6) bu lo (R3.2.1) (R3.2.2) re se ro ph (R6.2)
          ) else (
            some (0 : Int32)
          )
        ) else none
      ) else none
    ) else none
  ) else none
def xl_c783 (F L : Nat) (xs : Nat → Int32) (o : Int32 → SBu → SLo → SSh → SFl → SRe → SSe → SRo → SPh → SMo → Option Int32) (x3 : Int32) (bu : SBu) (lo : SLo) (sh : SSh) (fl : SFl) (re : SRe) (se : SSe) (ro : SRo) (ph : SPh) (mo : SMo) : Option Int32 :=
  if ib (x3 + (1 : Int32)) L = true then (
    if ib (x3 + (2 : Int32)) L = true then (
      if ib (x3 + (3 : Int32)) L = true then (
        (x7_kind F bu lo sh fl ph (xs (Int32.toNatClampNeg (x3 + (1 : Int32)))) (xs (Int32.toNatClampNeg (x3 + (2 : Int32)))) (xs (Int32.toNatClampNeg (x3 + (3 : Int32))))).bind fun R4 =>
        if ib (x3 + (1 : Int32)) L = true then (
          if ib (x3 + (2 : Int32)) L = true then (
            if ib (x3 + (3 : Int32)) L = true then (
              (x8_kind F mo (xs (Int32.toNatClampNeg (x3 + (1 : Int32)))) (xs (Int32.toNatClampNeg (x3 + (2 : Int32)))) (xs (Int32.toNatClampNeg (x3 + (3 : Int32))))).bind fun R8 =>
              if (R4.1) = (R8.1) then (
                o (x3 + 6) bu lo (R4.2.1) (R4.2.2) re se ro ph (R8.2)
              ) else (
                some (0 : Int32)
              )
            ) else none
          ) else none
        ) else none
      ) else none
    ) else none
  ) else none
def xl_c826 (F L : Nat) (xs : Nat → Int32) (o : Int32 → SBu → SLo → SSh → SFl → SRe → SSe → SRo → SPh → SMo → Option Int32) (x3 : Int32) (bu : SBu) (lo : SLo) (sh : SSh) (fl : SFl) (re : SRe) (se : SSe) (ro : SRo) (ph : SPh) (mo : SMo) : Option Int32 :=
  if ib (x3 + (1 : Int32)) L = true then (
    if ib (x3 + (2 : Int32)) L = true then (
      if ib (x3 + (3 : Int32)) L = true then (
        if ib (x3 + (4 : Int32)) L = true then (
          (x7_steps F bu lo sh fl ph (xs (Int32.toNatClampNeg (x3 + (1 : Int32)))) (xs (Int32.toNatClampNeg (x3 + (2 : Int32)))) (xs (Int32.toNatClampNeg (x3 + (3 : Int32)))) (xs (Int32.toNatClampNeg (x3 + (4 : Int32))))).bind fun R5 =>
          if ib (x3 + (1 : Int32)) L = true then (
            if ib (x3 + (2 : Int32)) L = true then (
              if ib (x3 + (3 : Int32)) L = true then (
                if ib (x3 + (4 : Int32)) L = true then (
                  (x8_steps F mo (xs (Int32.toNatClampNeg (x3 + (1 : Int32)))) (xs (Int32.toNatClampNeg (x3 + (2 : Int32)))) (xs (Int32.toNatClampNeg (x3 + (3 : Int32)))) (xs (Int32.toNatClampNeg (x3 + (4 : Int32))))).bind fun R10 =>
                  if (R5.1) = (R10.1) then (
                    o (x3 + 6) bu lo (R5.2.1) (R5.2.2.1) re se ro (R5.2.2.2) (R10.2)
                  ) else (
                    some (0 : Int32)
                  )
                ) else none
              ) else none
            ) else none
          ) else none
        ) else none
      ) else none
    ) else none
  ) else none
def xl_c879 (F L : Nat) (xs : Nat → Int32) (o : Int32 → SBu → SLo → SSh → SFl → SRe → SSe → SRo → SPh → SMo → Option Int32) (x3 : Int32) (bu : SBu) (lo : SLo) (sh : SSh) (fl : SFl) (re : SRe) (se : SSe) (ro : SRo) (ph : SPh) (mo : SMo) : Option Int32 :=
  if ib (x3 + (1 : Int32)) L = true then (
    (x7_pieces F bu lo sh fl re ph (xs (Int32.toNatClampNeg (x3 + (1 : Int32))))).bind fun R2 =>
    if ib (x3 + (1 : Int32)) L = true then (
      (x8_pieces F mo (xs (Int32.toNatClampNeg (x3 + (1 : Int32))))).bind fun R4 =>
      if (R2.1) = (R4.1) then (
        o (x3 + 6) bu lo (R2.2.1) (R2.2.2.1) (R2.2.2.2) se ro ph (R4.2)
      ) else (
        some (0 : Int32)
      )
    ) else none
  ) else none
def xl_c902 (F L : Nat) (xs : Nat → Int32) (o : Int32 → SBu → SLo → SSh → SFl → SRe → SSe → SRo → SPh → SMo → Option Int32) (x3 : Int32) (bu : SBu) (lo : SLo) (sh : SSh) (fl : SFl) (re : SRe) (se : SSe) (ro : SRo) (ph : SPh) (mo : SMo) : Option Int32 :=
  if ib (x3 + (1 : Int32)) L = true then (
    if ib (x3 + (2 : Int32)) L = true then (
      if ib (x3 + (3 : Int32)) L = true then (
        (x7_piece F bu lo sh fl re ph (xs (Int32.toNatClampNeg (x3 + (1 : Int32)))) (xs (Int32.toNatClampNeg (x3 + (2 : Int32)))) (xs (Int32.toNatClampNeg (x3 + (3 : Int32))))).bind fun R4 =>
        if ib (x3 + (1 : Int32)) L = true then (
          if ib (x3 + (2 : Int32)) L = true then (
            if ib (x3 + (3 : Int32)) L = true then (
              (x8_piece F mo (xs (Int32.toNatClampNeg (x3 + (1 : Int32)))) (xs (Int32.toNatClampNeg (x3 + (2 : Int32)))) (xs (Int32.toNatClampNeg (x3 + (3 : Int32))))).bind fun R8 =>
              if (R4.1) = (R8.1) then (
                o (x3 + 6) bu lo (R4.2.1) (R4.2.2.1) (R4.2.2.2) se ro ph (R8.2)
              ) else (
                some (0 : Int32)
              )
            ) else none
          ) else none
        ) else none
      ) else none
    ) else none
  ) else none
def xl_c945 (F L : Nat) (xs : Nat → Int32) (o : Int32 → SBu → SLo → SSh → SFl → SRe → SSe → SRo → SPh → SMo → Option Int32) (x3 : Int32) (bu : SBu) (lo : SLo) (sh : SSh) (fl : SFl) (re : SRe) (se : SSe) (ro : SRo) (ph : SPh) (mo : SMo) : Option Int32 :=
  if ib (x3 + (1 : Int32)) L = true then (
    if ib (x3 + (2 : Int32)) L = true then (
      if ib (x3 + (3 : Int32)) L = true then (
        (x7_area F bu lo sh fl re ph (xs (Int32.toNatClampNeg (x3 + (1 : Int32)))) (xs (Int32.toNatClampNeg (x3 + (2 : Int32)))) (xs (Int32.toNatClampNeg (x3 + (3 : Int32))))).bind fun R4 =>
        if ib (x3 + (1 : Int32)) L = true then (
          if ib (x3 + (2 : Int32)) L = true then (
            if ib (x3 + (3 : Int32)) L = true then (
              (x8_area F mo (xs (Int32.toNatClampNeg (x3 + (1 : Int32)))) (xs (Int32.toNatClampNeg (x3 + (2 : Int32)))) (xs (Int32.toNatClampNeg (x3 + (3 : Int32))))).bind fun R8 =>
              if (R4.1) = (R8.1) then (
                o (x3 + 6) bu lo (R4.2.1) (R4.2.2.1) (R4.2.2.2) se ro ph (R8.2)
              ) else (
                some (0 : Int32)
              )
            ) else none
          ) else none
        ) else none
      ) else none
    ) else none
  ) else none
def xl_c988 (F L : Nat) (xs : Nat → Int32) (o : Int32 → SBu → SLo → SSh → SFl → SRe → SSe → SRo → SPh → SMo → Option Int32) (x3 : Int32) (bu : SBu) (lo : SLo) (sh : SSh) (fl : SFl) (re : SRe) (se : SSe) (ro : SRo) (ph : SPh) (mo : SMo) : Option Int32 :=
  if ib (x3 + (1 : Int32)) L = true then (
    if ib (x3 + (2 : Int32)) L = true then (
      if ib (x3 + (3 : Int32)) L = true then (
        if ib (x3 + (4 : Int32)) L = true then (
          (x7_slide F bu lo sh fl ph (xs (Int32.toNatClampNeg (x3 + (1 : Int32)))) (xs (Int32.toNatClampNeg (x3 + (2 : Int32)))) (xs (Int32.toNatClampNeg (x3 + (3 : Int32)))) (xs (Int32.toNatClampNeg (x3 + (4 : Int32))))).bind fun R5 =>
          if ib (x3 + (1 : Int32)) L = true then (
            if ib (x3 + (2 : Int32)) L = true then (
              if ib (x3 + (3 : Int32)) L = true then (
                if ib (x3 + (4 : Int32)) L = true then (
                  (x8_slide F mo (xs (Int32.toNatClampNeg (x3 + (1 : Int32)))) (xs (Int32.toNatClampNeg (x3 + (2 : Int32)))) (xs (Int32.toNatClampNeg (x3 + (3 : Int32)))) (xs (Int32.toNatClampNeg (x3 + (4 : Int32))))).bind fun R10 =>
                  if (R5.1) = (R10.1) then (
                    o (x3 + 6) bu lo (R5.2.1) (R5.2.2) re se ro ph (R10.2)
                  ) else (
                    some (0 : Int32)
                  )
                ) else none
              ) else none
            ) else none
          ) else none
        ) else none
      ) else none
    ) else none
  ) else none
def xl_c1041 (F L : Nat) (xs : Nat → Int32) (o : Int32 → SBu → SLo → SSh → SFl → SRe → SSe → SRo → SPh → SMo → Option Int32) (x3 : Int32) (bu : SBu) (lo : SLo) (sh : SSh) (fl : SFl) (re : SRe) (se : SSe) (ro : SRo) (ph : SPh) (mo : SMo) : Option Int32 :=
  if ib (x3 + (1 : Int32)) L = true then (
    if (xs (Int32.toNatClampNeg (x3 + (1 : Int32)))) = 0 then (
      if ib (x3 + (2 : Int32)) L = true then (
        if ib (x3 + (3 : Int32)) L = true then (
          if ib (x3 + (4 : Int32)) L = true then (
            (x7_end bu ph (0 : Int32) (xs (Int32.toNatClampNeg (x3 + (2 : Int32)))) (xs (Int32.toNatClampNeg (x3 + (3 : Int32)))) (xs (Int32.toNatClampNeg (x3 + (4 : Int32))))).bind fun R6 =>
            if ib (x3 + (1 : Int32)) L = true then (
              if (xs (Int32.toNatClampNeg (x3 + (1 : Int32)))) = 0 then (
                if ib (x3 + (2 : Int32)) L = true then (
                  if ib (x3 + (3 : Int32)) L = true then (
                    if ib (x3 + (4 : Int32)) L = true then (
                      (x8_end mo (0 : Int32) (xs (Int32.toNatClampNeg (x3 + (2 : Int32)))) (xs (Int32.toNatClampNeg (x3 + (3 : Int32)))) (xs (Int32.toNatClampNeg (x3 + (4 : Int32))))).bind fun R12 =>
                      if (R6.1) = (R12.1) then (
                        o (x3 + 6) bu lo sh fl re se ro (R6.2) (R12.2)
                      ) else (
                        some (0 : Int32)
                      )
                    ) else none
                  ) else none
                ) else none
              ) else (
                if ib (x3 + (2 : Int32)) L = true then (
                  if ib (x3 + (3 : Int32)) L = true then (
                    if ib (x3 + (4 : Int32)) L = true then (
                      (x8_end mo (1 : Int32) (xs (Int32.toNatClampNeg (x3 + (2 : Int32)))) (xs (Int32.toNatClampNeg (x3 + (3 : Int32)))) (xs (Int32.toNatClampNeg (x3 + (4 : Int32))))).bind fun R17 =>
                      if (R6.1) = (R17.1) then (
                        o (x3 + 6) bu lo sh fl re se ro (R6.2) (R17.2)
                      ) else (
                        some (0 : Int32)
                      )
                    ) else none
                  ) else none
                ) else none
              )
            ) else none
          ) else none
        ) else none
      ) else none
    ) else (
      if ib (x3 + (2 : Int32)) L = true then (
        if ib (x3 + (3 : Int32)) L = true then (
          if ib (x3 + (4 : Int32)) L = true then (
            (x7_end bu ph (1 : Int32) (xs (Int32.toNatClampNeg (x3 + (2 : Int32)))) (xs (Int32.toNatClampNeg (x3 + (3 : Int32)))) (xs (Int32.toNatClampNeg (x3 + (4 : Int32))))).bind fun R22 =>
            if ib (x3 + (1 : Int32)) L = true then (
              if (xs (Int32.toNatClampNeg (x3 + (1 : Int32)))) = 0 then (
                if ib (x3 + (2 : Int32)) L = true then (
                  if ib (x3 + (3 : Int32)) L = true then (
                    if ib (x3 + (4 : Int32)) L = true then (
                      (x8_end mo (0 : Int32) (xs (Int32.toNatClampNeg (x3 + (2 : Int32)))) (xs (Int32.toNatClampNeg (x3 + (3 : Int32)))) (xs (Int32.toNatClampNeg (x3 + (4 : Int32))))).bind fun R28 =>
                      if (R22.1) = (R28.1) then (
                        o (x3 + 6) bu lo sh fl re se ro (R22.2) (R28.2)
                      ) else (
                        some (0 : Int32)
                      )
                    ) else none
                  ) else none
                ) else none
              ) else (
                if ib (x3 + (2 : Int32)) L = true then (
                  if ib (x3 + (3 : Int32)) L = true then (
                    if ib (x3 + (4 : Int32)) L = true then (
                      (x8_end mo (1 : Int32) (xs (Int32.toNatClampNeg (x3 + (2 : Int32)))) (xs (Int32.toNatClampNeg (x3 + (3 : Int32)))) (xs (Int32.toNatClampNeg (x3 + (4 : Int32))))).bind fun R33 =>
                      if (R22.1) = (R33.1) then (
                        o (x3 + 6) bu lo sh fl re se ro (R22.2) (R33.2)
                      ) else (
                        some (0 : Int32)
                      )
                    ) else none
                  ) else none
                ) else none
              )
            ) else none
          ) else none
        ) else none
      ) else none
    )
  ) else none
def xl_c1110 (F L : Nat) (xs : Nat → Int32) (o : Int32 → SBu → SLo → SSh → SFl → SRe → SSe → SRo → SPh → SMo → Option Int32) (x3 : Int32) (bu : SBu) (lo : SLo) (sh : SSh) (fl : SFl) (re : SRe) (se : SSe) (ro : SRo) (ph : SPh) (mo : SMo) : Option Int32 :=
  (x7_way F bu lo sh fl se ro ph).bind fun R1 =>
  (x8_way F mo).bind fun R2 =>
  if (R1.1) = (R2.1) then (
    o (x3 + 6) bu lo (R1.2.1) (R1.2.2.1) re (R1.2.2.2.1) (R1.2.2.2.2) ph (R2.2)
  ) else (
    some (0 : Int32)
  )
def xl_c1123 (F L : Nat) (xs : Nat → Int32) (o : Int32 → SBu → SLo → SSh → SFl → SRe → SSe → SRo → SPh → SMo → Option Int32) (x3 : Int32) (bu : SBu) (lo : SLo) (sh : SSh) (fl : SFl) (re : SRe) (se : SSe) (ro : SRo) (ph : SPh) (mo : SMo) : Option Int32 :=
  if ib (x3 + (1 : Int32)) L = true then (
    (x7_step ro ph (xs (Int32.toNatClampNeg (x3 + (1 : Int32))))).bind fun R2 =>
    if ib (x3 + (1 : Int32)) L = true then (
      (x8_step mo (xs (Int32.toNatClampNeg (x3 + (1 : Int32))))).bind fun R4 =>
      if R2 = R4 then (
        o (x3 + 6) bu lo sh fl re se ro ph mo
      ) else (
        some (0 : Int32)
      )
    ) else none
  ) else none
def xl_c1146 (F L : Nat) (xs : Nat → Int32) (o : Int32 → SBu → SLo → SSh → SFl → SRe → SSe → SRo → SPh → SMo → Option Int32) (x3 : Int32) (bu : SBu) (lo : SLo) (sh : SSh) (fl : SFl) (re : SRe) (se : SSe) (ro : SRo) (ph : SPh) (mo : SMo) : Option Int32 :=
  if ib (x3 + (1 : Int32)) L = true then (
    (x7_count F ro ph (xs (Int32.toNatClampNeg (x3 + (1 : Int32))))).bind fun R2 =>
    if ib (x3 + (1 : Int32)) L = true then (
      (x8_count F mo (xs (Int32.toNatClampNeg (x3 + (1 : Int32))))).bind fun R4 =>
      if R2 = R4 then (
        o (x3 + 6) bu lo sh fl re se ro ph mo
      ) else (
        some (0 : Int32)
      )
    ) else none
  ) else none
def xl_c1169 (F L : Nat) (xs : Nat → Int32) (o : Int32 → SBu → SLo → SSh → SFl → SRe → SSe → SRo → SPh → SMo → Option Int32) (x3 : Int32) (bu : SBu) (lo : SLo) (sh : SSh) (fl : SFl) (re : SRe) (se : SSe) (ro : SRo) (ph : SPh) (mo : SMo) : Option Int32 :=
  (x7_reached F bu lo sh fl se ph).bind fun R1 =>
  (x8_reached F mo).bind fun R2 =>
  if (R1.1) = (R2.1) then (
    o (x3 + 6) bu lo (R1.2.1) (R1.2.2.1) re (R1.2.2.2) ro ph (R2.2)
  ) else (
    some (0 : Int32)
  )
def xl_c1182 (F L : Nat) (xs : Nat → Int32) (o : Int32 → SBu → SLo → SSh → SFl → SRe → SSe → SRo → SPh → SMo → Option Int32) (x3 : Int32) (bu : SBu) (lo : SLo) (sh : SSh) (fl : SFl) (re : SRe) (se : SSe) (ro : SRo) (ph : SPh) (mo : SMo) : Option Int32 :=
  if ib (x3 + (1 : Int32)) L = true then (
    if ib (x3 + (2 : Int32)) L = true then (
      if ib (x3 + (3 : Int32)) L = true then (
        (x7_reaches F bu lo sh fl se ph (xs (Int32.toNatClampNeg (x3 + (1 : Int32)))) (xs (Int32.toNatClampNeg (x3 + (2 : Int32)))) (xs (Int32.toNatClampNeg (x3 + (3 : Int32))))).bind fun R4 =>
        if ib (x3 + (1 : Int32)) L = true then (
          if ib (x3 + (2 : Int32)) L = true then (
            if ib (x3 + (3 : Int32)) L = true then (
              (x8_reaches F mo (xs (Int32.toNatClampNeg (x3 + (1 : Int32)))) (xs (Int32.toNatClampNeg (x3 + (2 : Int32)))) (xs (Int32.toNatClampNeg (x3 + (3 : Int32))))).bind fun R8 =>
              if (R4.1) = (R8.1) then (
                o (x3 + 6) bu lo (R4.2.1) (R4.2.2.1) re (R4.2.2.2) ro ph (R8.2)
              ) else (
                some (0 : Int32)
              )
            ) else none
          ) else none
        ) else none
      ) else none
    ) else none
  ) else none
def xl_c1225 (F L : Nat) (xs : Nat → Int32) (o : Int32 → SBu → SLo → SSh → SFl → SRe → SSe → SRo → SPh → SMo → Option Int32) (x3 : Int32) (bu : SBu) (lo : SLo) (sh : SSh) (fl : SFl) (re : SRe) (se : SSe) (ro : SRo) (ph : SPh) (mo : SMo) : Option Int32 :=
  (x7_held F bu lo sh fl se ph).bind fun R1 =>
  (x8_held F mo).bind fun R2 =>
  if (R1.1) = (R2.1) then (
    o (x3 + 6) bu lo (R1.2.1) (R1.2.2.1) re (R1.2.2.2) ro ph (R2.2)
  ) else (
    some (0 : Int32)
  )
def xl_c1238 (F L : Nat) (xs : Nat → Int32) (o : Int32 → SBu → SLo → SSh → SFl → SRe → SSe → SRo → SPh → SMo → Option Int32) (x3 : Int32) (bu : SBu) (lo : SLo) (sh : SSh) (fl : SFl) (re : SRe) (se : SSe) (ro : SRo) (ph : SPh) (mo : SMo) : Option Int32 :=
  (x7_doors F bu lo sh fl se ph).bind fun R1 =>
  (x8_doors F mo).bind fun R2 =>
  if (R1.1) = (R2.1) then (
    o (x3 + 6) bu lo (R1.2.1) (R1.2.2.1) re (R1.2.2.2) ro ph (R2.2)
  ) else (
    some (0 : Int32)
  )
def xl_c1251 (F L : Nat) (xs : Nat → Int32) (o : Int32 → SBu → SLo → SSh → SFl → SRe → SSe → SRo → SPh → SMo → Option Int32) (x3 : Int32) (bu : SBu) (lo : SLo) (sh : SSh) (fl : SFl) (re : SRe) (se : SSe) (ro : SRo) (ph : SPh) (mo : SMo) : Option Int32 :=
  if ib (x3 + (1 : Int32)) L = true then (
    (x7_narrow F bu lo sh fl se ph (xs (Int32.toNatClampNeg (x3 + (1 : Int32))))).bind fun R2 =>
    if ib (x3 + (1 : Int32)) L = true then (
      (x8_narrow F mo (xs (Int32.toNatClampNeg (x3 + (1 : Int32))))).bind fun R4 =>
      if (R2.1) = (R4.1) then (
        o (x3 + 6) bu lo (R2.2.1) (R2.2.2.1) re (R2.2.2.2) ro ph (R4.2)
      ) else (
        some (0 : Int32)
      )
    ) else none
  ) else none
def xl_c1274 (F L : Nat) (xs : Nat → Int32) (o : Int32 → SBu → SLo → SSh → SFl → SRe → SSe → SRo → SPh → SMo → Option Int32) (x3 : Int32) (bu : SBu) (lo : SLo) (sh : SSh) (fl : SFl) (re : SRe) (se : SSe) (ro : SRo) (ph : SPh) (mo : SMo) : Option Int32 :=
  if ib (x3 + (1 : Int32)) L = true then (
    (x7_draft ph (xs (Int32.toNatClampNeg (x3 + (1 : Int32))))).bind fun R2 =>
    if ib (x3 + (1 : Int32)) L = true then (
      (x8_draft mo (xs (Int32.toNatClampNeg (x3 + (1 : Int32))))).bind fun R4 =>
      if (R2.1) = (R4.1) then (
        o (x3 + 6) bu lo sh fl re se ro (R2.2) (R4.2)
      ) else (
        some (0 : Int32)
      )
    ) else none
  ) else none
def xl_c1297 (F L : Nat) (xs : Nat → Int32) (o : Int32 → SBu → SLo → SSh → SFl → SRe → SSe → SRo → SPh → SMo → Option Int32) (x3 : Int32) (bu : SBu) (lo : SLo) (sh : SSh) (fl : SFl) (re : SRe) (se : SSe) (ro : SRo) (ph : SPh) (mo : SMo) : Option Int32 :=
  (x7_check F bu lo sh fl ph).bind fun R1 =>
  (x8_check F mo).bind fun R2 =>
  if (R1.1) = (R2.1) then (
    o (x3 + 6) bu lo (R1.2.1) (R1.2.2.1) re se ro (R1.2.2.2) (R2.2)
  ) else (
    some (0 : Int32)
  )
def xl_c1310 (F L : Nat) (xs : Nat → Int32) (o : Int32 → SBu → SLo → SSh → SFl → SRe → SSe → SRo → SPh → SMo → Option Int32) (x3 : Int32) (bu : SBu) (lo : SLo) (sh : SSh) (fl : SFl) (re : SRe) (se : SSe) (ro : SRo) (ph : SPh) (mo : SMo) : Option Int32 :=
  if ib (x3 + (1 : Int32)) L = true then (
    (x7_many bu ph (xs (Int32.toNatClampNeg (x3 + (1 : Int32))))).bind fun R2 =>
    if ib (x3 + (1 : Int32)) L = true then (
      (x8_many mo (xs (Int32.toNatClampNeg (x3 + (1 : Int32))))).bind fun R4 =>
      if R2 = R4 then (
        o (x3 + 6) bu lo sh fl re se ro ph mo
      ) else (
        some (0 : Int32)
      )
    ) else none
  ) else none
def xl_c1333 (F L : Nat) (xs : Nat → Int32) (o : Int32 → SBu → SLo → SSh → SFl → SRe → SSe → SRo → SPh → SMo → Option Int32) (x3 : Int32) (bu : SBu) (lo : SLo) (sh : SSh) (fl : SFl) (re : SRe) (se : SSe) (ro : SRo) (ph : SPh) (mo : SMo) : Option Int32 :=
  (x7_finding ph).bind fun R1 =>
  (x8_finding mo).bind fun R2 =>
  if R1 = R2 then (
    o (x3 + 6) bu lo sh fl re se ro ph mo
  ) else (
    some (0 : Int32)
  )
def xl_c1346 (F L : Nat) (xs : Nat → Int32) (o : Int32 → SBu → SLo → SSh → SFl → SRe → SSe → SRo → SPh → SMo → Option Int32) (x3 : Int32) (bu : SBu) (lo : SLo) (sh : SSh) (fl : SFl) (re : SRe) (se : SSe) (ro : SRo) (ph : SPh) (mo : SMo) : Option Int32 :=
  if ib (x3 + (1 : Int32)) L = true then (
    (x7_findings ph (xs (Int32.toNatClampNeg (x3 + (1 : Int32))))).bind fun R2 =>
    if ib (x3 + (1 : Int32)) L = true then (
      (x8_findings mo (xs (Int32.toNatClampNeg (x3 + (1 : Int32))))).bind fun R4 =>
      if R2 = R4 then (
        o (x3 + 6) bu lo sh fl re se ro ph mo
      ) else (
        some (0 : Int32)
      )
    ) else none
  ) else none
def xl_c1369 (F L : Nat) (xs : Nat → Int32) (o : Int32 → SBu → SLo → SSh → SFl → SRe → SSe → SRo → SPh → SMo → Option Int32) (x3 : Int32) (bu : SBu) (lo : SLo) (sh : SSh) (fl : SFl) (re : SRe) (se : SSe) (ro : SRo) (ph : SPh) (mo : SMo) : Option Int32 :=
  (x7_digest F bu lo ph).bind fun R1 =>
  (x8_digest F mo).bind fun R2 =>
  if (lg_cmp R1 R2) = 0 then (
    o (x3 + 6) bu lo sh fl re se ro ph mo
  ) else (
    some (0 : Int32)
  )
def xl_law_L18 (F L : Nat) (xs : Nat → Int32) : Nat → Int32 → SBu → SLo → SSh → SFl → SRe → SSe → SRo → SPh → SMo → Option Int32
  | 0, _, _, _, _, _, _, _, _, _, _ => none
  | k + 1, x3, bu, lo, sh, fl, re, se, ro, ph, mo =>
    if (Int32.ofNat L) - (6 : Int32) < x3 then some (1 : Int32) else (
    if ib x3 L = true then (
    if ((xs (Int32.toNatClampNeg x3)) &&& (63 : Int32)) = (0 : Int32) then xl_c200 F L xs (xl_law_L18 F L xs k) x3 bu lo sh fl re se ro ph mo else
    if ((xs (Int32.toNatClampNeg x3)) &&& (63 : Int32)) = (1 : Int32) then xl_c233 F L xs (xl_law_L18 F L xs k) x3 bu lo sh fl re se ro ph mo else
    if ((xs (Int32.toNatClampNeg x3)) &&& (63 : Int32)) = (2 : Int32) then xl_c272 F L xs (xl_law_L18 F L xs k) x3 bu lo sh fl re se ro ph mo else
    if ((xs (Int32.toNatClampNeg x3)) &&& (63 : Int32)) = (3 : Int32) then xl_c335 F L xs (xl_law_L18 F L xs k) x3 bu lo sh fl re se ro ph mo else
    if ((xs (Int32.toNatClampNeg x3)) &&& (63 : Int32)) = (4 : Int32) then xl_c378 F L xs (xl_law_L18 F L xs k) x3 bu lo sh fl re se ro ph mo else
    if ((xs (Int32.toNatClampNeg x3)) &&& (63 : Int32)) = (5 : Int32) then xl_c427 F L xs (xl_law_L18 F L xs k) x3 bu lo sh fl re se ro ph mo else
    if ((xs (Int32.toNatClampNeg x3)) &&& (63 : Int32)) = (6 : Int32) then xl_c440 F L xs (xl_law_L18 F L xs k) x3 bu lo sh fl re se ro ph mo else
    if ((xs (Int32.toNatClampNeg x3)) &&& (63 : Int32)) = (7 : Int32) then xl_c473 F L xs (xl_law_L18 F L xs k) x3 bu lo sh fl re se ro ph mo else
    if ((xs (Int32.toNatClampNeg x3)) &&& (63 : Int32)) = (8 : Int32) then xl_c506 F L xs (xl_law_L18 F L xs k) x3 bu lo sh fl re se ro ph mo else
    if ((xs (Int32.toNatClampNeg x3)) &&& (63 : Int32)) = (9 : Int32) then xl_c529 F L xs (xl_law_L18 F L xs k) x3 bu lo sh fl re se ro ph mo else
    if ((xs (Int32.toNatClampNeg x3)) &&& (63 : Int32)) = (10 : Int32) then xl_c562 F L xs (xl_law_L18 F L xs k) x3 bu lo sh fl re se ro ph mo else
    if ((xs (Int32.toNatClampNeg x3)) &&& (63 : Int32)) = (11 : Int32) then xl_c585 F L xs (xl_law_L18 F L xs k) x3 bu lo sh fl re se ro ph mo else
    if ((xs (Int32.toNatClampNeg x3)) &&& (63 : Int32)) = (12 : Int32) then xl_c628 F L xs (xl_law_L18 F L xs k) x3 bu lo sh fl re se ro ph mo else
    if ((xs (Int32.toNatClampNeg x3)) &&& (63 : Int32)) = (13 : Int32) then xl_c651 F L xs (xl_law_L18 F L xs k) x3 bu lo sh fl re se ro ph mo else
    if ((xs (Int32.toNatClampNeg x3)) &&& (63 : Int32)) = (14 : Int32) then xl_c684 F L xs (xl_law_L18 F L xs k) x3 bu lo sh fl re se ro ph mo else
    if ((xs (Int32.toNatClampNeg x3)) &&& (63 : Int32)) = (15 : Int32) then xl_c707 F L xs (xl_law_L18 F L xs k) x3 bu lo sh fl re se ro ph mo else
    if ((xs (Int32.toNatClampNeg x3)) &&& (63 : Int32)) = (16 : Int32) then xl_c750 F L xs (xl_law_L18 F L xs k) x3 bu lo sh fl re se ro ph mo else
    if ((xs (Int32.toNatClampNeg x3)) &&& (63 : Int32)) = (17 : Int32) then xl_c783 F L xs (xl_law_L18 F L xs k) x3 bu lo sh fl re se ro ph mo else
    if ((xs (Int32.toNatClampNeg x3)) &&& (63 : Int32)) = (18 : Int32) then xl_c826 F L xs (xl_law_L18 F L xs k) x3 bu lo sh fl re se ro ph mo else
    if ((xs (Int32.toNatClampNeg x3)) &&& (63 : Int32)) = (19 : Int32) then xl_c879 F L xs (xl_law_L18 F L xs k) x3 bu lo sh fl re se ro ph mo else
    if ((xs (Int32.toNatClampNeg x3)) &&& (63 : Int32)) = (20 : Int32) then xl_c902 F L xs (xl_law_L18 F L xs k) x3 bu lo sh fl re se ro ph mo else
    if ((xs (Int32.toNatClampNeg x3)) &&& (63 : Int32)) = (21 : Int32) then xl_c945 F L xs (xl_law_L18 F L xs k) x3 bu lo sh fl re se ro ph mo else
    if ((xs (Int32.toNatClampNeg x3)) &&& (63 : Int32)) = (22 : Int32) then xl_c988 F L xs (xl_law_L18 F L xs k) x3 bu lo sh fl re se ro ph mo else
    if ((xs (Int32.toNatClampNeg x3)) &&& (63 : Int32)) = (23 : Int32) then xl_c1041 F L xs (xl_law_L18 F L xs k) x3 bu lo sh fl re se ro ph mo else
    if ((xs (Int32.toNatClampNeg x3)) &&& (63 : Int32)) = (24 : Int32) then xl_c1110 F L xs (xl_law_L18 F L xs k) x3 bu lo sh fl re se ro ph mo else
    if ((xs (Int32.toNatClampNeg x3)) &&& (63 : Int32)) = (25 : Int32) then xl_c1123 F L xs (xl_law_L18 F L xs k) x3 bu lo sh fl re se ro ph mo else
    if ((xs (Int32.toNatClampNeg x3)) &&& (63 : Int32)) = (26 : Int32) then xl_c1146 F L xs (xl_law_L18 F L xs k) x3 bu lo sh fl re se ro ph mo else
    if ((xs (Int32.toNatClampNeg x3)) &&& (63 : Int32)) = (27 : Int32) then xl_c1169 F L xs (xl_law_L18 F L xs k) x3 bu lo sh fl re se ro ph mo else
    if ((xs (Int32.toNatClampNeg x3)) &&& (63 : Int32)) = (28 : Int32) then xl_c1182 F L xs (xl_law_L18 F L xs k) x3 bu lo sh fl re se ro ph mo else
    if ((xs (Int32.toNatClampNeg x3)) &&& (63 : Int32)) = (29 : Int32) then xl_c1225 F L xs (xl_law_L18 F L xs k) x3 bu lo sh fl re se ro ph mo else
    if ((xs (Int32.toNatClampNeg x3)) &&& (63 : Int32)) = (30 : Int32) then xl_c1238 F L xs (xl_law_L18 F L xs k) x3 bu lo sh fl re se ro ph mo else
    if ((xs (Int32.toNatClampNeg x3)) &&& (63 : Int32)) = (31 : Int32) then xl_c1251 F L xs (xl_law_L18 F L xs k) x3 bu lo sh fl re se ro ph mo else
    if ((xs (Int32.toNatClampNeg x3)) &&& (63 : Int32)) = (32 : Int32) then xl_c1274 F L xs (xl_law_L18 F L xs k) x3 bu lo sh fl re se ro ph mo else
    if ((xs (Int32.toNatClampNeg x3)) &&& (63 : Int32)) = (33 : Int32) then xl_c1297 F L xs (xl_law_L18 F L xs k) x3 bu lo sh fl re se ro ph mo else
    if ((xs (Int32.toNatClampNeg x3)) &&& (63 : Int32)) = (34 : Int32) then xl_c1310 F L xs (xl_law_L18 F L xs k) x3 bu lo sh fl re se ro ph mo else
    if ((xs (Int32.toNatClampNeg x3)) &&& (63 : Int32)) = (35 : Int32) then xl_c1333 F L xs (xl_law_L18 F L xs k) x3 bu lo sh fl re se ro ph mo else
    if ((xs (Int32.toNatClampNeg x3)) &&& (63 : Int32)) = (36 : Int32) then xl_c1346 F L xs (xl_law_L18 F L xs k) x3 bu lo sh fl re se ro ph mo else
    if ((xs (Int32.toNatClampNeg x3)) &&& (63 : Int32)) = (37 : Int32) then xl_c1369 F L xs (xl_law_L18 F L xs k) x3 bu lo sh fl re se ro ph mo else
    xl_law_L18 F L xs k (x3 + 6) bu lo sh fl re se ro ph mo) else none)
def xl_law (F L : Nat) (xs : Nat → Int32) : Option Int32 := xl_law_L18 F L xs F (0 : Int32) i_bu i_lo i_sh i_fl i_re i_se i_ro i_ph i_mo
