def f_X7_between (n : Nat) (a1 : Int32) (a2 : Int32) (a3 : Int32) : Option (Int32) :=
  if a1 < a2 then (
    ck (isz 0) <| some 0)
  else (
    if a3 < a1 then (
      ck (isz 0) <| some 0)
    else (
      ck (isz 1) <| some 1))
def f_X7_isMinute (n : Nat) (a1 : Int32) : Option (Int32) :=
  cl (f_X7_between n a1 0 119) fun q1 =>
  ck (isz q1) <| some q1
def f_X7_isSheet (n : Nat) (a1 : Int32) : Option (Int32) :=
  cl (f_X7_between n a1 0 3) fun q1 =>
  ck (isz q1) <| some q1
def f_X7_bounded (n : Nat) (a1 : Int32) (a2 : Int32) (a3 : Int32) : Option (Int32) :=
  some (mmax a2 (mmin a3 a1))
def f_X7_fits (n : Nat) (a1 : Int32) (a2 : Int32) : Option (Int32) :=
  cl (f_X7_between n a1 0 5) fun q1 =>
  if q1 = 0 then (
    ck (isz 0) <| some 0)
  else (
    ck (ib a1 6) <| bn (ct_least (Int32.toNatClampNeg a1)) fun x3 =>
    ck (ib a1 6) <| bn (ct_most (Int32.toNatClampNeg a1)) fun x4 =>
    cl (f_X7_between n a2 x3 x4) fun q5 =>
    if q5 = 0 then (
      ck (isz 0) <| some 0)
    else (
      ck (isz 1) <| some 1))
def f_X0_roomOf (n : Nat) (a1 : Int32) (a2 : Int32) (s0 : MS) : Option (Int32) :=
  jn (fun (t1 : Int32) =>
    ck (ib t1 4) <| bn (s0.2 3 (Int32.toNatClampNeg t1)) fun x3 =>
    bn (a2 - x3) fun x4 =>
    if x4 < 0 then (
      some 0)
    else (
      ck (ib t1 4) <| bn (s0.2 2 (Int32.toNatClampNeg t1)) fun x6 =>
      if x6 < 1 then (
        some 0)
      else (
        ck (ib t1 4) <| bn (s0.2 2 (Int32.toNatClampNeg t1)) fun x8 =>
        ck (nz x8) <|
        if (x4 - x4 / x8 * x8) = 0 then (
          ck (ib t1 4) <| bn (s0.2 1 (Int32.toNatClampNeg t1)) fun x10 =>
          some x10)
        else (
          some 0)))) fun K2 =>
  if (s0.1 0) ≤ a1 then (
    K2 0)
  else (
    K2 a1)
def f_X0_roomIn (n : Nat) (a1 : Int32) (s0 : MS) : Option (Int32) :=
  lp (fun K2 (t1 : Int32 × Int32) =>
    if (s0.1 0) ≤ t1.2 then (
      some t1.1)
    else (
      cl (f_X0_roomOf n t1.2 a1 s0) fun q4 =>
      bn (t1.1 + q4) fun x5 =>
      K2 (x5, (t1.2 + 1)))) n (0, 0)
def f_X0_add (n : Nat) (a1 : Int32) (a2 : Int32) (a3 : Int32) (s0 : MS) : Option (Int32 × MS) :=
  if (s0.1 0) < 4 then (
    ck (ib (s0.1 0) 4) <| bn (ap s0 1 (Int32.toNatClampNeg (s0.1 0)) a1) fun z2 =>
    ck (ib (z2.1 0) 4) <| bn (ap z2 2 (Int32.toNatClampNeg (z2.1 0)) a2) fun z3 =>
    ck (ib (z3.1 0) 4) <| bn (ap z3 3 (Int32.toNatClampNeg (z3.1 0)) a3) fun z4 =>
    bn (sp z4 0 ((z4.1 0) + 1)) fun z5 =>
    some ((z4.1 0), z5))
  else (
    some ((-4), s0))
def f_X6_callsIn (n : Nat) (a1 : Int32) (a2 : Int32) (s0 : MS) : Option (Int32) :=
  if a2 ≤ a1 then (
    ck (nz 10) <|
    jn (fun (t2 : Int32) =>
      if (s0.1 0) = 1 then (
        some (s0.1 2))
      else (
        if (s0.1 0) = 2 then (
          some 0)
        else (
          if (s0.1 0) = 3 then (
            some ((s0.1 2) + t2))
          else (
            if (s0.1 0) = 4 then (
              some 0)
            else (
              if (s0.1 0) = 5 then (
                some (2 * ((s0.1 2) + t2)))
              else (
                some 0)))))) fun K3 =>
    if ((a1 - a2) - (a1 - a2) / 10 * 10) = 0 then (
      K3 5)
    else (
      K3 0))
  else (
    some 0)
def f_X6_asksIn (n : Nat) (a1 : Int32) (a2 : Int32) (s0 : MS) : Option (Int32) :=
  jn (fun (t1 : Int32) =>
    if (s0.1 0) = 2 then (
      some t1)
    else (
      if (s0.1 0) = 3 then (
        some 0)
      else (
        if (s0.1 0) = 4 then (
          some (2 * t1))
        else (
          if (s0.1 0) = 5 then (
            some (s0.1 2))
          else (
            some 1))))) fun K2 =>
  if a2 ≤ a1 then (
    K2 (1 + (s0.1 2)))
  else (
    K2 1)
def f_X6_rankOf (n : Nat) (a1 : Int32) (a2 : Int32) (s0 : MS) : Option (Int32) :=
  jn (fun (t1 : Unit) =>
    some (-a2)) fun K2 =>
  if (s0.1 0) = 3 then (
    K2 ())
  else (
    if (s0.1 0) = 5 then (
      K2 ())
    else (
      if (s0.1 0) = 4 then (
        some a1)
      else (
        some 0)))
def f_X6_isUnder (n : Nat) (a1 : Int32) (s0 : MS) : Option (Int32) :=
  lp (fun K2 (t1 : Int32 × Int32) =>
    jn (fun (t3 : Unit) =>
      if t1.1 = a1 then (
        ck (isz 1) <| some 1)
      else (
        ck (isz 0) <| some 0)) fun K4 =>
    if 6 ≤ t1.2 then (
      K4 ())
    else (
      if t1.1 = a1 then (
        K4 ())
      else (
        cl (f_X7_between n t1.1 0 5) fun q8 =>
        if q8 = 0 then (
          ck (isz 0) <| some 0)
        else (
          ck (ib t1.1 6) <| bn (ct_under (Int32.toNatClampNeg t1.1)) fun x10 =>
          K2 (x10, (t1.2 + 1)))))) n ((s0.1 0), 0)
def f_X5_clear (n : Nat) (s0 : MS) : Option (MS) :=
  bn (sp s0 3 0) fun z1 =>
  some z1
def f_X5_begin (n : Nat) (a1 : Int32) (s0 : MS) : Option (MS) :=
  ck (ib a1 4) <| bn (ap s0 1 (Int32.toNatClampNeg a1) (s0.1 3)) fun z1 =>
  some z1
def f_X5_close (n : Nat) (s0 : MS) : Option (MS) :=
  ck (ib 3 4) <| bn (ap s0 1 (Int32.toNatClampNeg 3) (s0.1 3)) fun z1 =>
  some z1
def f_X5_add (n : Nat) (a1 : Int32) (s0 : MS) : Option (MS) :=
  if (s0.1 3) < 160 then (
    ck (ib (s0.1 3) 160) <| bn (ap s0 0 (Int32.toNatClampNeg (s0.1 3)) a1) fun z2 =>
    bn (sp z2 3 ((z2.1 3) + 1)) fun z3 =>
    some z3)
  else (
    some s0)
def f_X5_joined (n : Nat) (a1 : Int32) (a2 : Int32) (a3 : Int32) : Option (Int32) :=
  if a1 = 42 then (
    some (a2 * a3))
  else (
    if a1 = 43 then (
      some (a2 + a3))
    else (
      if a1 = 45 then (
        some (a2 - a3))
      else (
        if a1 = 60 then (
          if a3 ≤ a2 then (
            some 0)
          else (
            some 1))
        else (
          if a1 = 61 then (
            if a2 = a3 then (
              some 1)
            else (
              some 0))
          else (
            if a1 = 257 then (
              if a2 = 0 then (
                some 0)
              else (
                if a3 = 0 then (
                  some 0)
                else (
                  some 1)))
            else (
              if a2 = 0 then (
                if a3 = 0 then (
                  some 0)
                else (
                  some 1))
              else (
                some 1)))))))
def f_X5_value (n : Nat) (a1 : Int32) (s0 : MS) (s1 : MS) : Option (Int32 × MS) :=
  ck (ib a1 4) <| bn (s0.2 1 (Int32.toNatClampNeg a1)) fun x1 =>
  lp (fun K3 (t2 : Int32 × Int32 × MS) =>
    ck (ib (a1 + 1) 4) <| bn (t2.2.2.2 1 (Int32.toNatClampNeg (a1 + 1))) fun x4 =>
    if x4 ≤ t2.2.1 then (
      if 1 ≤ t2.1 then (
        ck (ib (t2.1 - 1) 160) <| bn (t2.2.2.2 2 (Int32.toNatClampNeg (t2.1 - 1))) fun x7 =>
        some (x7, t2.2.2))
      else (
        some (0, t2.2.2)))
    else (
      ck (ib t2.2.1 160) <| bn (t2.2.2.2 0 (Int32.toNatClampNeg t2.2.1)) fun x8 =>
      jn (fun (t9 : Int32 × MS) =>
        K3 (t9.1, (t2.2.1 + 1), t9.2)) fun K10 =>
      if x8 < 300 then (
        jn (fun (t12 : Unit) =>
          if 1 ≤ t2.1 then (
            ck (ib (t2.1 - 1) 160) <| bn (t2.2.2.2 2 (Int32.toNatClampNeg (t2.1 - 1))) fun x15 =>
            jn (fun (t16 : Int32) =>
              ck (ib (t2.1 - 1) 160) <| bn (ap t2.2.2 2 (Int32.toNatClampNeg (t2.1 - 1)) t16) fun z18 =>
              K10 (t2.1, z18)) fun K17 =>
            if x8 = 259 then (
              K17 (-x15))
            else (
              if x15 = 0 then (
                K17 1)
              else (
                K17 0)))
          else (
            some (0, t2.2.2))) fun K13 =>
        if x8 = 258 then (
          K13 ())
        else (
          if x8 = 259 then (
            K13 ())
          else (
            if 2 ≤ t2.1 then (
              ck (ib ((t2.1 + (-1)) - 1) 160) <| bn (t2.2.2.2 2 (Int32.toNatClampNeg ((t2.1 + (-1)) - 1))) fun x24 =>
              ck (ib (t2.1 + (-1)) 160) <| bn (t2.2.2.2 2 (Int32.toNatClampNeg (t2.1 + (-1)))) fun x25 =>
              cl (f_X5_joined n x8 x24 x25) fun q26 =>
              ck (ib ((t2.1 + (-1)) - 1) 160) <| bn (ap t2.2.2 2 (Int32.toNatClampNeg ((t2.1 + (-1)) - 1)) q26) fun z27 =>
              K10 ((t2.1 + (-1)), z27))
            else (
              some (0, t2.2.2)))))
      else (
        if t2.1 < 160 then (
          jn (fun (t29 : Int32) =>
            ck (ib t2.1 160) <| bn (ap t2.2.2 2 (Int32.toNatClampNeg t2.1) t29) fun z31 =>
            K10 ((t2.1 + 1), z31)) fun K30 =>
          if x8 < 1000 then (
            ck (ib (x8 - 300) 6) <| bn (s1.2 0 (Int32.toNatClampNeg (x8 - 300))) fun x33 =>
            K30 x33)
          else (
            K30 (x8 - 1000)))
        else (
          some (0, t2.2.2))))) n (0, x1, s0)
def f_X3_become (n : Nat) (a1 : Int32) (a2 : Int32) (s0 : MS) : Option (MS) :=
  bn (sp s0 0 a1) fun z1 =>
  bn (sp z1 1 a2) fun z2 =>
  bn (ar z2 2 (filln 40 0 (z2.2 2))) fun z3 =>
  some z3
def f_X3_put (n : Nat) (a1 : Int32) (a2 : Int32) (s0 : MS) : Option (MS) :=
  if (s0.1 0) = 0 then (
    ck (ib a1 40) <| bn (ap s0 2 (Int32.toNatClampNeg a1) (Int8.toInt32 (Int32.toInt8 a2))) fun z5 =>
    some z5)
  else (
    if (s0.1 0) = 1 then (
      ck (ib a1 40) <| bn (ap s0 2 (Int32.toNatClampNeg a1) (Int16.toInt32 (Int32.toInt16 a2))) fun z4 =>
      some z4)
    else (
      ck (ib a1 40) <| bn (ap s0 2 (Int32.toNatClampNeg a1) a2) fun z3 =>
      some z3))
def f_X3_has (n : Nat) (a1 : Int32) (s0 : MS) : Option (Int32) :=
  cl (f_X7_between n a1 0 ((s0.1 1) - 1)) fun q1 =>
  ck (isz q1) <| some q1
def f_X3_hasRow (n : Nat) (a1 : Int32) (a2 : Int32) (s0 : MS) : Option (Int32) :=
  if a2 < 0 then (
    ck (isz 0) <| some 0)
  else (
    cl (f_X7_between n a1 0 (s0.1 1)) fun q2 =>
    if q2 = 0 then (
      ck (isz 0) <| some 0)
    else (
      if ((s0.1 1) - a1) < a2 then (
        ck (isz 0) <| some 0)
      else (
        ck (isz 1) <| some 1)))
def f_X3_allBetween (n : Nat) (a1 : Int32) (a2 : Int32) (s0 : MS) : Option (Int32) :=
  lp (fun K2 (t1 : Int32) =>
    if (s0.1 1) ≤ t1 then (
      ck (isz 1) <| some 1)
    else (
      ck (ib t1 40) <| bn (s0.2 2 (Int32.toNatClampNeg t1)) fun x4 =>
      cl (f_X7_between n x4 a1 a2) fun q5 =>
      if q5 = 0 then (
        ck (isz 0) <| some 0)
      else (
        K2 (t1 + 1)))) n 0
def f_X2_sizeOf (n : Nat) (a1 : Int32) (s0 : MS) : Option (Int32) :=
  if a1 = 4 then (
    some 120)
  else (
    some (s0.1 0))
def f_X2_isShutIn (n : Nat) (a1 : Int32) (s0 : MS) : Option (Int32) :=
  if (s0.1 7) = (-1) then (
    ck (isz 0) <| some 0)
  else (
    cl (f_X7_between n a1 (s0.1 7) (s0.1 8)) fun q2 =>
    if q2 = 0 then (
      ck (isz 0) <| some 0)
    else (
      ck (isz 1) <| some 1))
def f_X2_allUp (n : Nat) (s0 : MS) : Option (Int32) :=
  lp (fun K2 (t1 : Int32 × Int32) =>
    if (s0.1 0) ≤ t1.2 then (
      some t1.1)
    else (
      ck (ib t1.2 6) <| bn (s0.2 1 (Int32.toNatClampNeg t1.2)) fun x4 =>
      bn (t1.1 + x4) fun x5 =>
      K2 (x5, (t1.2 + 1)))) n (0, 0)
def f_X2_rowOf (n : Nat) (a1 : Int32) (s0 : MS) : Option (Option Nat) :=
  if a1 = 0 then (
    some (some 1))
  else (
    if a1 = 1 then (
      some (some 2))
    else (
      if a1 = 2 then (
        some (some 3))
      else (
        if a1 = 3 then (
          some (some 4))
        else (
          if a1 = 4 then (
            some (some 5))
          else (
            some none)))))
def f_X2_addSort (n : Nat) (a1 : Int32) (a2 : Int32) (s0 : MS) : Option (Int32 × MS) :=
  if 0 ≤ a2 then (
    ck (nz 1000) <|
    bn (a2 / 1000) fun x2 =>
    ck (nz 10) <|
    ck (nz 100) <|
    bn ((a2 / 10) - (a2 / 10) / 100 * 100) fun x3 =>
    ck (nz 10) <|
    bn (a2 - a2 / 10 * 10) fun x4 =>
    cl (f_X7_fits n 0 a1) fun q5 =>
    if q5 = 0 then (
      some ((-2), s0))
    else (
      cl (f_X7_fits n 1 x2) fun q7 =>
      if q7 = 0 then (
        some ((-2), s0))
      else (
        cl (f_X7_fits n 2 x3) fun q9 =>
        if q9 = 0 then (
          some ((-2), s0))
        else (
          if (s0.1 0) < 6 then (
            ck (ib (s0.1 0) 6) <| bn (ap s0 1 (Int32.toNatClampNeg (s0.1 0)) a1) fun z12 =>
            ck (ib (z12.1 0) 6) <| bn (ap z12 2 (Int32.toNatClampNeg (z12.1 0)) x2) fun z13 =>
            ck (ib (z13.1 0) 6) <| bn (ap z13 3 (Int32.toNatClampNeg (z13.1 0)) x3) fun z14 =>
            ck (ib (z14.1 0) 6) <| bn (ap z14 4 (Int32.toNatClampNeg (z14.1 0)) x4) fun z15 =>
            bn (sp z15 0 ((z15.1 0) + 1)) fun z16 =>
            some ((z15.1 0), z16))
          else (
            some ((-4), s0))))))
  else (
    some ((-2), s0))
def f_X2_takeOver (n : Nat) (s0 : MS) (s1 : MS) : Option (MS) :=
  ck (cpk 0 6 0 6 (s1.1 0)) <| bn (ar s0 1 (va_cpy (s1.2 1) (s0.2 1) (Int32.toNatClampNeg 0) (Int32.toNatClampNeg 0) (Int32.toNatClampNeg (s1.1 0)))) fun z1 =>
  ck (cpk 0 6 0 6 (s1.1 0)) <| bn (ar z1 2 (va_cpy (s1.2 2) (z1.2 2) (Int32.toNatClampNeg 0) (Int32.toNatClampNeg 0) (Int32.toNatClampNeg (s1.1 0)))) fun z2 =>
  ck (cpk 0 6 0 6 (s1.1 0)) <| bn (ar z2 3 (va_cpy (s1.2 3) (z2.2 3) (Int32.toNatClampNeg 0) (Int32.toNatClampNeg 0) (Int32.toNatClampNeg (s1.1 0)))) fun z3 =>
  ck (cpk 0 6 0 6 (s1.1 0)) <| bn (ar z3 4 (va_cpy (s1.2 4) (z3.2 4) (Int32.toNatClampNeg 0) (Int32.toNatClampNeg 0) (Int32.toNatClampNeg (s1.1 0)))) fun z4 =>
  ck (cpk 0 120 0 120 120) <| bn (ar z4 5 (va_cpy (s1.2 5) (z4.2 5) (Int32.toNatClampNeg 0) (Int32.toNatClampNeg 0) (Int32.toNatClampNeg 120))) fun z5 =>
  bn (sp z5 0 (mmax (z5.1 0) (s1.1 0))) fun z6 =>
  bn (sp z6 6 (s1.1 6)) fun z7 =>
  bn (sp z7 7 (s1.1 7)) fun z8 =>
  bn (sp z8 8 (s1.1 8)) fun z9 =>
  bn (sp z9 9 (s1.1 9)) fun z10 =>
  some z10
def f_X4_append (n : Nat) (a1 : Int32) (s0 : MS) : Option (MS) :=
  if (s0.1 1) < 160 then (
    ck (ib (s0.1 1) 160) <| bn (ap s0 0 (Int32.toNatClampNeg (s0.1 1)) a1) fun z2 =>
    bn (sp z2 1 ((z2.1 1) + 1)) fun z3 =>
    some z3)
  else (
    some s0)
def f_X4_empty (n : Nat) (s0 : MS) : Option (MS) :=
  bn (sp s0 1 0) fun z1 =>
  some z1
def f_X4_isLetter (n : Nat) (a1 : Int32) : Option (Int32) :=
  cl (f_X7_between n a1 97 122) fun q1 =>
  ck (isz q1) <| some q1
def f_X4_isDigit (n : Nat) (a1 : Int32) : Option (Int32) :=
  cl (f_X7_between n a1 48 57) fun q1 =>
  ck (isz q1) <| some q1
def f_X4_signToken (n : Nat) (a1 : Int32) : Option (Int32) :=
  if a1 = 40 then (
    some a1)
  else (
    if a1 = 41 then (
      some a1)
    else (
      if a1 = 42 then (
        some a1)
      else (
        if a1 = 43 then (
          some a1)
        else (
          if a1 = 44 then (
            some 0)
          else (
            if a1 = 45 then (
              some a1)
            else (
              if a1 = 46 then (
                some 0)
              else (
                if a1 = 47 then (
                  some 0)
                else (
                  if a1 = 48 then (
                    some 0)
                  else (
                    if a1 = 49 then (
                      some 0)
                    else (
                      if a1 = 50 then (
                        some 0)
                      else (
                        if a1 = 51 then (
                          some 0)
                        else (
                          if a1 = 52 then (
                            some 0)
                          else (
                            if a1 = 53 then (
                              some 0)
                            else (
                              if a1 = 54 then (
                                some 0)
                              else (
                                if a1 = 55 then (
                                  some 0)
                                else (
                                  if a1 = 56 then (
                                    some 0)
                                  else (
                                    if a1 = 57 then (
                                      some 0)
                                    else (
                                      if a1 = 58 then (
                                        some 0)
                                      else (
                                        if a1 = 59 then (
                                          some a1)
                                        else (
                                          if a1 = 60 then (
                                            some a1)
                                          else (
                                            if a1 = 61 then (
                                              some a1)
                                            else (
                                              some 0))))))))))))))))))))))
def f_X4_numberToken (n : Nat) (s0 : MS) : Option (Int32) :=
  if ((s0.1 2) - (s0.1 4)) ≤ 4 then (
    lp (fun K3 (t2 : Int32 × Int32) =>
      if (s0.1 2) ≤ t2.2 then (
        some (1000 + t2.1))
      else (
        ck (ib t2.2 160) <| bn (s0.2 0 (Int32.toNatClampNeg t2.2)) fun x5 =>
        bn (((10 * t2.1) + x5) - 48) fun x6 =>
        K3 (x6, (t2.2 + 1)))) n (0, (s0.1 4)))
  else (
    some 0)
def f_X4_spells (n : Nat) (a1 : Nat) (s0 : MS) : Option (Int32) :=
  if ((s0.1 2) - (s0.1 4)) = (slen a1) then (
    lp (fun K3 (t2 : Int32) =>
      if (slen a1) ≤ t2 then (
        ck (isz 1) <| some 1)
      else (
        ck (ib ((s0.1 4) + t2) 160) <| bn (s0.2 0 (Int32.toNatClampNeg ((s0.1 4) + t2))) fun x5 =>
        ck (ib t2 (K_len.getD a1 0)) <| bn (schr a1 (Int32.toNatClampNeg t2)) fun x6 =>
        if x5 = x6 then (
          K3 (t2 + 1))
        else (
          ck (isz 0) <| some 0))) n 0)
  else (
    ck (isz 0) <| some 0)
def f_X4_wordToken (n : Nat) (s0 : MS) : Option (Int32) :=
  cl (f_X4_spells n 1 s0) fun q1 =>
  if q1 = 0 then (
    cl (f_X4_spells n 2 s0) fun q3 =>
    if q3 = 0 then (
      cl (f_X4_spells n 3 s0) fun q5 =>
      if q5 = 0 then (
        cl (f_X4_spells n 4 s0) fun q7 =>
        if q7 = 0 then (
          cl (f_X4_spells n 5 s0) fun q9 =>
          if q9 = 0 then (
            cl (f_X4_spells n 6 s0) fun q11 =>
            if q11 = 0 then (
              cl (f_X4_spells n 7 s0) fun q13 =>
              if q13 = 0 then (
                cl (f_X4_spells n 8 s0) fun q15 =>
                if q15 = 0 then (
                  cl (f_X4_spells n 9 s0) fun q17 =>
                  if q17 = 0 then (
                    cl (f_X4_spells n 10 s0) fun q19 =>
                    if q19 = 0 then (
                      cl (f_X4_spells n 11 s0) fun q21 =>
                      if q21 = 0 then (
                        cl (f_X4_spells n 12 s0) fun q23 =>
                        if q23 = 0 then (
                          some 0)
                        else (
                          some 258))
                      else (
                        some 257))
                    else (
                      some 256))
                  else (
                    some 272))
                else (
                  some 271))
              else (
                some 270))
            else (
              some 305))
          else (
            some 304))
        else (
          some 303))
      else (
        some 302))
    else (
      some 301))
  else (
    some 300)
def f_X4_next (n : Nat) (s0 : MS) : Option (MS) :=
  lp (fun K2 (t1 : MS) =>
    jn (fun (t3 : Unit) =>
      bn (sp t1 4 (t1.1 2)) fun z5 =>
      if (z5.1 2) < (z5.1 1) then (
        ck (ib (z5.1 2) 160) <| bn (z5.2 0 (Int32.toNatClampNeg (z5.1 2))) fun x7 =>
        cl (f_X4_isLetter n x7) fun q8 =>
        if q8 = 0 then (
          ck (ib (z5.1 2) 160) <| bn (z5.2 0 (Int32.toNatClampNeg (z5.1 2))) fun x10 =>
          cl (f_X4_isDigit n x10) fun q11 =>
          if q11 = 0 then (
            ck (ib (z5.1 2) 160) <| bn (z5.2 0 (Int32.toNatClampNeg (z5.1 2))) fun x13 =>
            cl (f_X4_signToken n x13) fun q14 =>
            bn (sp z5 3 q14) fun z15 =>
            bn (sp z15 2 ((z15.1 2) + 1)) fun z16 =>
            some z16)
          else (
            lp (fun K18 (t17 : MS) =>
              jn (fun (t19 : Unit) =>
                cl (f_X4_numberToken n t17) fun q21 =>
                bn (sp t17 3 q21) fun z22 =>
                some z22) fun K20 =>
              if (t17.1 1) ≤ (t17.1 2) then (
                K20 ())
              else (
                ck (ib (t17.1 2) 160) <| bn (t17.2 0 (Int32.toNatClampNeg (t17.1 2))) fun x24 =>
                cl (f_X4_isDigit n x24) fun q25 =>
                if q25 = 0 then (
                  K20 ())
                else (
                  bn (sp t17 2 ((t17.1 2) + 1)) fun z27 =>
                  K18 z27))) n z5))
        else (
          lp (fun K29 (t28 : MS) =>
            jn (fun (t30 : Unit) =>
              cl (f_X4_wordToken n t28) fun q32 =>
              bn (sp t28 3 q32) fun z33 =>
              some z33) fun K31 =>
            if (t28.1 1) ≤ (t28.1 2) then (
              K31 ())
            else (
              ck (ib (t28.1 2) 160) <| bn (t28.2 0 (Int32.toNatClampNeg (t28.1 2))) fun x35 =>
              cl (f_X4_isLetter n x35) fun q36 =>
              if q36 = 0 then (
                K31 ())
              else (
                bn (sp t28 2 ((t28.1 2) + 1)) fun z38 =>
                K29 z38))) n z5))
      else (
        bn (sp z5 3 1) fun z39 =>
        some z39)) fun K4 =>
    if (t1.1 1) ≤ (t1.1 2) then (
      K4 ())
    else (
      ck (ib (t1.1 2) 160) <| bn (t1.2 0 (Int32.toNatClampNeg (t1.1 2))) fun x41 =>
      jn (fun (t42 : Unit) =>
        bn (sp t1 2 ((t1.1 2) + 1)) fun z44 =>
        K2 z44) fun K43 =>
      if x41 = 32 then (
        K43 ())
      else (
        ck (ib (t1.1 2) 160) <| bn (t1.2 0 (Int32.toNatClampNeg (t1.1 2))) fun x46 =>
        if x46 = 10 then (
          K43 ())
        else (
          K4 ())))) n s0
def f_X4_refuse (n : Nat) (s0 : MS) : Option (MS) :=
  jn (fun (t1 : MS) =>
    bn (sp t1 3 0) fun z3 =>
    some z3) fun K2 =>
  if (s0.1 5) = (-1) then (
    bn (sp s0 5 (s0.1 4)) fun z5 =>
    K2 z5)
  else (
    K2 s0)
def f_X4_expect (n : Nat) (a1 : Int32) (s0 : MS) : Option (MS) :=
  if (s0.1 3) = a1 then (
    cl (f_X4_next n s0) fun q3 =>
    some q3)
  else (
    cl (f_X4_refuse n s0) fun q2 =>
    some q2)
def f_X4_mayOpen (n : Nat) (a1 : Int32) (s0 : MS) : Option (Int32 × MS) :=
  if 5 ≤ a1 then (
    cl (f_X4_refuse n s0) fun q2 =>
    ck (isz 0) <| some (0, q2))
  else (
    ck (isz 1) <| some (1, s0))
def b_X4_readOr (n : Nat) (rec : Nat → Int32 → MS → MS → Option (MS × MS)) (a2 : Int32) (s0 : MS) (s1 : MS) : Option (MS × MS) :=
  cl (rec 1 a2 s0 s1) fun q1 =>
  lp (fun K3 (t2 : Int32 × MS × MS) =>
    if 160 ≤ t2.1 then (
      some (t2.2.1, t2.2.2))
    else (
      if (t2.2.1.1 3) = 256 then (
        cl (f_X4_next n t2.2.1) fun q6 =>
        cl (rec 1 a2 q6 t2.2.2) fun q7 =>
        cl (f_X5_add n 256 q7.2) fun q8 =>
        K3 ((t2.1 + 1), q7.1, q8))
      else (
        some (t2.2.1, t2.2.2)))) n (0, q1.1, q1.2)
def b_X4_readAnd (n : Nat) (rec : Nat → Int32 → MS → MS → Option (MS × MS)) (a2 : Int32) (s0 : MS) (s1 : MS) : Option (MS × MS) :=
  cl (rec 2 a2 s0 s1) fun q1 =>
  lp (fun K3 (t2 : Int32 × MS × MS) =>
    if 160 ≤ t2.1 then (
      some (t2.2.1, t2.2.2))
    else (
      if (t2.2.1.1 3) = 257 then (
        cl (f_X4_next n t2.2.1) fun q6 =>
        cl (rec 2 a2 q6 t2.2.2) fun q7 =>
        cl (f_X5_add n 257 q7.2) fun q8 =>
        K3 ((t2.1 + 1), q7.1, q8))
      else (
        some (t2.2.1, t2.2.2)))) n (0, q1.1, q1.2)
def b_X4_readNot (n : Nat) (rec : Nat → Int32 → MS → MS → Option (MS × MS)) (a2 : Int32) (s0 : MS) (s1 : MS) : Option (MS × MS) :=
  if (s0.1 3) = 258 then (
    cl (f_X4_mayOpen n a2 s0) fun q10 =>
    if q10.1 = 0 then (
      some (q10.2, s1))
    else (
      cl (f_X4_next n q10.2) fun q12 =>
      cl (rec 2 (a2 + 1) q12 s1) fun q13 =>
      cl (f_X5_add n 258 q13.2) fun q14 =>
      some (q13.1, q14)))
  else (
    cl (rec 3 a2 s0 s1) fun q2 =>
    jn (fun (t3 : Unit) =>
      cl (f_X4_next n q2.1) fun q5 =>
      cl (rec 3 a2 q5 q2.2) fun q6 =>
      cl (f_X5_add n (q2.1.1 3) q6.2) fun q7 =>
      some (q6.1, q7)) fun K4 =>
    if (q2.1.1 3) = 60 then (
      K4 ())
    else (
      if (q2.1.1 3) = 61 then (
        K4 ())
      else (
        some (q2.1, q2.2))))
def b_X4_readSum (n : Nat) (rec : Nat → Int32 → MS → MS → Option (MS × MS)) (a2 : Int32) (s0 : MS) (s1 : MS) : Option (MS × MS) :=
  cl (rec 4 a2 s0 s1) fun q1 =>
  lp (fun K3 (t2 : Int32 × MS × MS) =>
    if 160 ≤ t2.1 then (
      some (t2.2.1, t2.2.2))
    else (
      jn (fun (t5 : Unit) =>
        cl (f_X4_next n t2.2.1) fun q7 =>
        cl (rec 4 a2 q7 t2.2.2) fun q8 =>
        cl (f_X5_add n (t2.2.1.1 3) q8.2) fun q9 =>
        K3 ((t2.1 + 1), q8.1, q9)) fun K6 =>
      if (t2.2.1.1 3) = 43 then (
        K6 ())
      else (
        if (t2.2.1.1 3) = 45 then (
          K6 ())
        else (
          some (t2.2.1, t2.2.2))))) n (0, q1.1, q1.2)
def b_X4_readTerm (n : Nat) (rec : Nat → Int32 → MS → MS → Option (MS × MS)) (a2 : Int32) (s0 : MS) (s1 : MS) : Option (MS × MS) :=
  cl (rec 5 a2 s0 s1) fun q1 =>
  lp (fun K3 (t2 : Int32 × MS × MS) =>
    if 160 ≤ t2.1 then (
      some (t2.2.1, t2.2.2))
    else (
      if (t2.2.1.1 3) = 42 then (
        cl (f_X4_next n t2.2.1) fun q6 =>
        cl (rec 5 a2 q6 t2.2.2) fun q7 =>
        cl (f_X5_add n 42 q7.2) fun q8 =>
        K3 ((t2.1 + 1), q7.1, q8))
      else (
        some (t2.2.1, t2.2.2)))) n (0, q1.1, q1.2)
def b_X4_readOne (n : Nat) (rec : Nat → Int32 → MS → MS → Option (MS × MS)) (a2 : Int32) (s0 : MS) (s1 : MS) : Option (MS × MS) :=
  if (s0.1 3) < 300 then (
    if (s0.1 3) = 45 then (
      cl (f_X4_mayOpen n a2 s0) fun q10 =>
      if q10.1 = 0 then (
        some (q10.2, s1))
      else (
        cl (f_X4_next n q10.2) fun q12 =>
        cl (rec 5 (a2 + 1) q12 s1) fun q13 =>
        cl (f_X5_add n 259 q13.2) fun q14 =>
        some (q13.1, q14)))
    else (
      if (s0.1 3) = 40 then (
        cl (f_X4_mayOpen n a2 s0) fun q5 =>
        if q5.1 = 0 then (
          some (q5.2, s1))
        else (
          cl (f_X4_next n q5.2) fun q7 =>
          cl (rec 0 (a2 + 1) q7 s1) fun q8 =>
          cl (f_X4_expect n 41 q8.1) fun q9 =>
          some (q9, q8.2)))
      else (
        cl (f_X4_refuse n s0) fun q4 =>
        some (q4, s1))))
  else (
    cl (f_X5_add n (s0.1 3) s1) fun q15 =>
    cl (f_X4_next n s0) fun q16 =>
    some (q16, q15))
def f_grp4 (n : Nat) : Nat → Nat → Int32 → MS → MS → Option (MS × MS)
  | 0, _, _, _, _ => none
  | d + 1, w, a, s, t => if w = 0 then b_X4_readOr n (f_grp4 n d) a s t else if w = 1 then b_X4_readAnd n (f_grp4 n d) a s t else if w = 2 then b_X4_readNot n (f_grp4 n d) a s t else if w = 3 then b_X4_readSum n (f_grp4 n d) a s t else if w = 4 then b_X4_readTerm n (f_grp4 n d) a s t else if w = 5 then b_X4_readOne n (f_grp4 n d) a s t else none
def f_X4_readOr (n : Nat) (a : Int32) (s t : MS) : Option (MS × MS) := f_grp4 n 64 0 a s t
def f_X4_readAnd (n : Nat) (a : Int32) (s t : MS) : Option (MS × MS) := f_grp4 n 64 1 a s t
def f_X4_readNot (n : Nat) (a : Int32) (s t : MS) : Option (MS × MS) := f_grp4 n 64 2 a s t
def f_X4_readSum (n : Nat) (a : Int32) (s t : MS) : Option (MS × MS) := f_grp4 n 64 3 a s t
def f_X4_readTerm (n : Nat) (a : Int32) (s t : MS) : Option (MS × MS) := f_grp4 n 64 4 a s t
def f_X4_readOne (n : Nat) (a : Int32) (s t : MS) : Option (MS × MS) := f_grp4 n 64 5 a s t
def f_X4_read (n : Nat) (s0 : MS) (s1 : MS) : Option (Int32 × MS × MS) :=
  bn (sp s0 2 0) fun z1 =>
  bn (sp z1 5 (-1)) fun z2 =>
  cl (f_X5_clear n s1) fun q3 =>
  cl (f_X4_next n z2) fun q4 =>
  lp (fun K6 (t5 : Int32 × MS × MS) =>
    if 3 ≤ t5.1 then (
      cl (f_X5_close n t5.2.2) fun q8 =>
      cl (f_X4_expect n 1 t5.2.1) fun q9 =>
      some ((q9.1 5), q9, q8))
    else (
      cl (f_X4_expect n (270 + t5.1) t5.2.1) fun q10 =>
      cl (f_X5_begin n t5.1 t5.2.2) fun q11 =>
      cl (f_X4_readOr n 0 q10 q11) fun q12 =>
      cl (f_X4_expect n 59 q12.1) fun q13 =>
      K6 ((t5.1 + 1), q13, q12.2))) n (0, q4, q3)
def f_X1_hearWay (n : Nat) (a2 : Int32) (s0 : MS) (s1 : MS) (s2 : MS) : Option (MS) :=
  lp (fun K2 (t1 : Int32 × MS) =>
    if (s2.1 6) ≤ t1.1 then (
      lp (fun K5 (t4 : Int32 × MS) =>
        if (s2.1 0) ≤ t4.1 then (
          some t4.2)
        else (
          ck (ib t4.1 6) <| bn (s2.2 2 (Int32.toNatClampNeg t4.1)) fun x7 =>
          cl (f_X6_rankOf n t4.1 x7 s1) fun q8 =>
          ck (ib t4.1 6) <| bn (ap t4.2 2 (Int32.toNatClampNeg t4.1) q8) fun z9 =>
          K5 ((t4.1 + 1), z9))) n (0, t1.2))
    else (
      cl (f_X6_callsIn n t1.1 a2 s1) fun q10 =>
      ck (ib t1.1 120) <| bn (ap t1.2 0 (Int32.toNatClampNeg t1.1) q10) fun z11 =>
      cl (f_X6_asksIn n t1.1 a2 s1) fun q12 =>
      ck (ib t1.1 120) <| bn (ap z11 1 (Int32.toNatClampNeg t1.1) q12) fun z13 =>
      K2 ((t1.1 + 1), z13))) n (0, s0)
def f_X1_hearSheet (n : Nat) (s0 : MS) (s1 : MS) : Option (MS) :=
  ck (cpk 0 40 0 120 (s1.1 1)) <| bn (ar s0 0 (va_cpy (s1.2 2) (s0.2 0) (Int32.toNatClampNeg 0) (Int32.toNatClampNeg 0) (Int32.toNatClampNeg (s1.1 1)))) fun z1 =>
  some z1
def f_X1_begin (n : Nat) (s0 : MS) (s1 : MS) : Option (MS) :=
  lp (fun K2 (t1 : Int32 × MS) =>
    if (s1.1 0) ≤ t1.1 then (
      bn (ar t1.2 10 (filln 24 0 (t1.2.2 10))) fun z4 =>
      bn (sp z4 9 0) fun z5 =>
      bn (sp z5 11 0) fun z6 =>
      bn (sp z6 12 0) fun z7 =>
      some z7)
    else (
      ck (ib t1.1 6) <| bn (s1.2 1 (Int32.toNatClampNeg t1.1)) fun x8 =>
      ck (ib t1.1 6) <| bn (ap t1.2 4 (Int32.toNatClampNeg t1.1) x8) fun z9 =>
      ck (ib t1.1 6) <| bn (ap z9 6 (Int32.toNatClampNeg t1.1) 0) fun z10 =>
      ck (ib t1.1 6) <| bn (ap z10 7 (Int32.toNatClampNeg t1.1) 0) fun z11 =>
      ck (ib t1.1 6) <|
      bn (ar z11 (20 + Int32.toNatClampNeg t1.1) (filln 120 0 (z11.2 (20 + Int32.toNatClampNeg t1.1)))) fun z13 =>
      K2 ((t1.1 + 1), z13))) n (0, s0)
def f_X1_setNames (n : Nat) (a2 : Int32) (a3 : Int32) (a4 : Int32) (s0 : MS) (s1 : MS) (s2 : MS) : Option (MS) :=
  ck (ib a2 6) <| bn (s0.2 4 (Int32.toNatClampNeg a2)) fun x1 =>
  ck (ib 0 6) <| bn (ap s1 0 (Int32.toNatClampNeg 0) x1) fun z2 =>
  ck (ib 1 6) <| bn (ap z2 0 (Int32.toNatClampNeg 1) a4) fun z3 =>
  ck (ib 2 6) <| bn (ap z3 0 (Int32.toNatClampNeg 2) ((s2.1 6) - a3)) fun z4 =>
  ck (ib a3 120) <| bn (s0.2 1 (Int32.toNatClampNeg a3)) fun x5 =>
  ck (ib 3 6) <| bn (ap z4 0 (Int32.toNatClampNeg 3) x5) fun z6 =>
  ck (ib a2 6) <| bn (s2.2 4 (Int32.toNatClampNeg a2)) fun x7 =>
  ck (ib a3 120) <| bn (s0.2 0 (Int32.toNatClampNeg a3)) fun x8 =>
  ck (nz 10) <|
  ck (ib 4 6) <| bn (ap z6 0 (Int32.toNatClampNeg 4) ((x7 * x8) / 10)) fun z9 =>
  ck (ib a3 120) <| bn (s2.2 5 (Int32.toNatClampNeg a3)) fun x10 =>
  ck (ib 5 6) <| bn (ap z9 0 (Int32.toNatClampNeg 5) x10) fun z11 =>
  some z11
def f_X1_goingOf (n : Nat) (a3 : Int32) (a4 : Int32) (a5 : Int32) (s0 : MS) (s1 : MS) (s2 : MS) (s3 : MS) : Option (Int32 × MS × MS) :=
  cl (f_X1_setNames n a3 a4 a5 s0 s1 s2) fun q1 =>
  cl (f_X5_value n 0 s3 q1) fun q2 =>
  cl (f_X7_bounded n q2.1 (-99) 400) fun q3 =>
  ck (ib a3 6) <| bn (s2.2 3 (Int32.toNatClampNeg a3)) fun x4 =>
  bn (mmax 1 x4) fun x5 =>
  ck (ib a3 6) <| bn (s0.2 4 (Int32.toNatClampNeg a3)) fun x6 =>
  ck (nz x5) <|
  ck (ib a3 6) <| bn (s0.2 4 (Int32.toNatClampNeg a3)) fun x7 =>
  cl (f_X7_bounded n ((x6 / x5) + q3) 0 x7) fun q8 =>
  some (q8, q1, q2.2)
def f_X1_sendPeople (n : Nat) (a3 : Int32) (s0 : MS) (s1 : MS) (s2 : MS) (s3 : MS) : Option (MS × MS × MS) :=
  lp (fun K2 (t1 : Int32 × MS × MS × MS) =>
    if (s2.1 0) ≤ t1.1 then (
      some (t1.2.1, t1.2.2.1, t1.2.2.2))
    else (
      ck (ib t1.1 6) <| bn (t1.2.1.2 4 (Int32.toNatClampNeg t1.1)) fun x4 =>
      jn (fun (t5 : Int32 × MS × MS × MS) =>
        ck (ib t1.1 6) <| bn (s2.2 2 (Int32.toNatClampNeg t1.1)) fun x7 =>
        bn (a3 + x7) fun x8 =>
        ck (ib t1.1 6) <| bn (t5.2.1.2 4 (Int32.toNatClampNeg t1.1)) fun x9 =>
        ck (ib t1.1 6) <| bn (ap t5.2.1 4 (Int32.toNatClampNeg t1.1) (x9 - t5.1)) fun z10 =>
        jn (fun (t11 : MS × MS × MS) =>
          ck (ib t1.1 6) <|
          ck (ib a3 120) <| bn (t11.1.2 (20 + Int32.toNatClampNeg t1.1) (Int32.toNatClampNeg a3)) fun x14 =>
          bn (sp t11.1 9 ((t11.1.1 9) + x14)) fun z15 =>
          K2 ((t1.1 + 1), z15, t11.2.1, t11.2.2)) fun K12 =>
        if 120 ≤ x8 then (
          K12 (z10, t5.2.2.1, t5.2.2.2))
        else (
          ck (ib t1.1 6) <|
          ck (ib x8 120) <| bn (ap z10 (20 + Int32.toNatClampNeg t1.1) (Int32.toNatClampNeg x8) t5.1) fun z18 =>
          K12 (z18, t5.2.2.1, t5.2.2.2))) fun K6 =>
      if x4 = 0 then (
        K6 (0, t1.2.1, t1.2.2.1, t1.2.2.2))
      else (
        cl (f_X1_goingOf n t1.1 a3 (s0.1 9) t1.2.1 t1.2.2.1 s2 t1.2.2.2) fun q20 =>
        K6 (q20.1, t1.2.1, q20.2.1, q20.2.2)))) n (0, s0, s1, s3)
def f_X1_isAhead (n : Nat) (a1 : Int32) (a2 : Int32) (s0 : MS) : Option (Int32) :=
  ck (ib a1 6) <| bn (s0.2 2 (Int32.toNatClampNeg a1)) fun x1 =>
  ck (ib a2 6) <| bn (s0.2 2 (Int32.toNatClampNeg a2)) fun x2 =>
  if x1 = x2 then (
    ck (ib a1 6) <| bn (s0.2 6 (Int32.toNatClampNeg a1)) fun x4 =>
    ck (ib a2 6) <| bn (s0.2 6 (Int32.toNatClampNeg a2)) fun x5 =>
    if x5 ≤ x4 then (
      ck (isz 0) <| some 0)
    else (
      ck (isz 1) <| some 1))
  else (
    ck (ib a1 6) <| bn (s0.2 2 (Int32.toNatClampNeg a1)) fun x7 =>
    ck (ib a2 6) <| bn (s0.2 2 (Int32.toNatClampNeg a2)) fun x8 =>
    if x8 ≤ x7 then (
      ck (isz 0) <| some 0)
    else (
      ck (isz 1) <| some 1))
def f_X1_firstOnes (n : Nat) (a1 : Int32) (a2 : Int32) (s0 : MS) : Option (Int32 × MS) :=
  lp (fun K2 (t1 : Int32 × Int32 × MS) =>
    if a1 ≤ t1.2.1 then (
      some (t1.1, t1.2.2))
    else (
      lp (fun K5 (t4 : MS) =>
        ck (ib t1.2.1 6) <| bn (t4.2 6 (Int32.toNatClampNeg t1.2.1)) fun x6 =>
        jn (fun (t7 : Unit) =>
          ck (ib t1.2.1 6) <| bn (t4.2 6 (Int32.toNatClampNeg t1.2.1)) fun x9 =>
          jn (fun (t10 : Int32) =>
            K2 (t10, (t1.2.1 + 1), t4)) fun K11 =>
          if a2 < x9 then (
            K11 t1.1)
          else (
            jn (fun (t13 : Unit) =>
              K11 t1.2.1) fun K14 =>
            if t1.1 = (-1) then (
              K14 ())
            else (
              cl (f_X1_isAhead n t1.2.1 t1.1 t4) fun q16 =>
              if q16 = 0 then (
                K11 t1.1)
              else (
                K14 ())))) fun K8 =>
        if a2 < x6 then (
          K8 ())
        else (
          ck (ib t1.2.1 6) <|
          ck (ib t1.2.1 6) <| bn (t4.2 6 (Int32.toNatClampNeg t1.2.1)) fun x20 =>
          ck (ib x20 120) <| bn (t4.2 (20 + Int32.toNatClampNeg t1.2.1) (Int32.toNatClampNeg x20)) fun x21 =>
          if x21 = 0 then (
            ck (ib t1.2.1 6) <| bn (t4.2 6 (Int32.toNatClampNeg t1.2.1)) fun x23 =>
            ck (ib t1.2.1 6) <| bn (ap t4 6 (Int32.toNatClampNeg t1.2.1) (x23 + 1)) fun z24 =>
            K5 z24)
          else (
            K8 ()))) n t1.2.2)) n ((-1), 0, s0)
def f_X1_board (n : Nat) (a1 : Int32) (a2 : Int32) (a3 : Int32) (a4 : Int32) (s0 : MS) : Option (MS) :=
  lp (fun K2 (t1 : Int32 × Int32 × MS) =>
    if 60 ≤ t1.2.1 then (
      some t1.2.2)
    else (
      if t1.1 ≤ 0 then (
        some t1.2.2)
      else (
        cl (f_X1_firstOnes n a3 a4 t1.2.2) fun q5 =>
        if q5.1 = (-1) then (
          some q5.2)
        else (
          ck (ib q5.1 6) <|
          ck (ib q5.1 6) <| bn (q5.2.2 6 (Int32.toNatClampNeg q5.1)) fun x8 =>
          ck (ib x8 120) <| bn (q5.2.2 (20 + Int32.toNatClampNeg q5.1) (Int32.toNatClampNeg x8)) fun x9 =>
          bn (mmin t1.1 x9) fun x10 =>
          ck (ib q5.1 6) <|
          ck (ib q5.1 6) <| bn (q5.2.2 6 (Int32.toNatClampNeg q5.1)) fun x12 =>
          ck (ib x12 120) <| bn (q5.2.2 (20 + Int32.toNatClampNeg q5.1) (Int32.toNatClampNeg x12)) fun x13 =>
          ck (ib x12 120) <| bn (ap q5.2 (20 + Int32.toNatClampNeg q5.1) (Int32.toNatClampNeg x12) (x13 - x10)) fun z14 =>
          ck (ib q5.1 6) <| bn (z14.2 7 (Int32.toNatClampNeg q5.1)) fun x15 =>
          ck (ib q5.1 6) <| bn (ap z14 7 (Int32.toNatClampNeg q5.1) (x15 + x10)) fun z16 =>
          ck (ib a1 24) <| bn (z16.2 10 (Int32.toNatClampNeg a1)) fun x17 =>
          ck (ib a1 24) <| bn (ap z16 10 (Int32.toNatClampNeg a1) (x17 + x10)) fun z18 =>
          bn (sp z18 9 ((z18.1 9) - x10)) fun z19 =>
          bn (t1.1 - x10) fun x20 =>
          K2 (x20, (t1.2.1 + 1), z19))))) n (a2, 0, s0)
def f_X1_sendCars (n : Nat) (a3 : Int32) (a5 : Int32) (s0 : MS) (s1 : MS) (s2 : MS) (s3 : MS) (s4 : MS) : Option (MS × MS × MS) :=
  lp (fun K2 (t1 : Int32 × MS × MS × MS) =>
    if a3 ≤ t1.1 then (
      some (t1.2.1, t1.2.2.1, t1.2.2.2))
    else (
      if (t1.2.1.1 9) ≤ 0 then (
        some (t1.2.1, t1.2.2.1, t1.2.2.2))
      else (
        cl (f_X0_roomOf n t1.1 a5 s3) fun q5 =>
        jn (fun (t6 : MS × MS × MS) =>
          K2 ((t1.1 + 1), t6.1, t6.2.1, t6.2.2)) fun K7 =>
        if q5 = 0 then (
          K7 (t1.2.1, t1.2.2.1, t1.2.2.2))
        else (
          cl (f_X1_setNames n 0 a5 (t1.2.1.1 9) t1.2.1 t1.2.2.1 s2) fun q9 =>
          cl (f_X5_value n 1 t1.2.2.2 q9) fun q10 =>
          cl (f_X7_bounded n q10.1 0 60) fun q11 =>
          cl (f_X1_board n t1.1 (mmin (q5 - q11) (t1.2.1.1 9)) (s2.1 0) a5 t1.2.1) fun q12 =>
          K7 (q12, q9, q10.2))))) n (0, s0, s1, s4)
def f_X1_endMinute (n : Nat) (a2 : Int32) (s0 : MS) (s1 : MS) : Option (MS) :=
  lp (fun K2 (t1 : Int32 × MS) =>
    if (s1.1 0) ≤ t1.1 then (
      if (t1.2.1 9) ≤ (t1.2.1 11) then (
        some t1.2)
      else (
        bn (sp t1.2 11 (t1.2.1 9)) fun z5 =>
        bn (sp z5 12 a2) fun z6 =>
        some z6))
    else (
      ck (ib t1.1 6) <|
      ck (ib t1.1 6) <| bn (t1.2.2 7 (Int32.toNatClampNeg t1.1)) fun x8 =>
      ck (ib a2 120) <| bn (ap t1.2 (30 + Int32.toNatClampNeg t1.1) (Int32.toNatClampNeg a2) x8) fun z9 =>
      K2 ((t1.1 + 1), z9))) n (0, s0)
def f_X1_run (n : Nat) (a3 : Int32) (s0 : MS) (s1 : MS) (s2 : MS) (s3 : MS) (s4 : MS) : Option (MS × MS × MS) :=
  cl (f_X1_begin n s0 s2) fun q1 =>
  lp (fun K3 (t2 : Int32 × MS × MS × MS) =>
    if (s2.1 6) ≤ t2.1 then (
      some (t2.2.1, t2.2.2.1, t2.2.2.2))
    else (
      cl (f_X1_sendPeople n t2.1 t2.2.1 t2.2.2.1 s2 t2.2.2.2) fun q5 =>
      cl (f_X2_isShutIn n t2.1 s2) fun q6 =>
      jn (fun (t7 : MS × MS × MS) =>
        cl (f_X1_endMinute n t2.1 t7.1 s2) fun q9 =>
        K3 ((t2.1 + 1), q9, t7.2.1, t7.2.2)) fun K8 =>
      if q6 = 0 then (
        cl (f_X1_sendCars n a3 t2.1 q5.1 q5.2.1 s2 s3 q5.2.2) fun q11 =>
        K8 (q11.1, q11.2.1, q11.2.2))
      else (
        K8 (q5.1, q5.2.1, q5.2.2)))) n (0, q1, s1, s4)
def f_X1_rodeInAll (n : Nat) (s0 : MS) (s1 : MS) : Option (Int32) :=
  lp (fun K2 (t1 : Int32 × Int32) =>
    if (s1.1 0) ≤ t1.2 then (
      some t1.1)
    else (
      ck (ib t1.2 6) <| bn (s0.2 7 (Int32.toNatClampNeg t1.2)) fun x4 =>
      bn (t1.1 + x4) fun x5 =>
      K2 (x5, (t1.2 + 1)))) n (0, 0)
def f_X1_leftOf (n : Nat) (a2 : Int32) (s0 : MS) (s1 : MS) : Option (Int32) :=
  if a2 = (-1) then (
    cl (f_X2_allUp n s1) fun q4 =>
    cl (f_X1_rodeInAll n s0 s1) fun q5 =>
    some (q4 - q5))
  else (
    ck (ib a2 6) <| bn (s1.2 1 (Int32.toNatClampNeg a2)) fun x2 =>
    ck (ib a2 6) <| bn (s0.2 7 (Int32.toNatClampNeg a2)) fun x3 =>
    some (x2 - x3))
def f_X1_downBehind (n : Nat) (a2 : Int32) (a3 : Int32) (s0 : MS) (s1 : MS) : Option (Int32) :=
  if a2 = (-1) then (
    lp (fun K3 (t2 : Int32 × Int32) =>
      if (s1.1 0) ≤ t2.2 then (
        some t2.1)
      else (
        ck (ib t2.2 6) <|
        ck (ib a3 120) <| bn (s0.2 (30 + Int32.toNatClampNeg t2.2) (Int32.toNatClampNeg a3)) fun x6 =>
        bn (t2.1 + x6) fun x7 =>
        K3 (x7, (t2.2 + 1)))) n (0, 0))
  else (
    ck (ib a2 6) <|
    ck (ib a3 120) <| bn (s0.2 (30 + Int32.toNatClampNeg a2) (Int32.toNatClampNeg a3)) fun x9 =>
    some x9)
def f_X1_harmDone (n : Nat) (s0 : MS) (s1 : MS) (s2 : MS) (s3 : MS) : Option (Int64 × MS × MS) :=
  bn (ar s1 0 (filln 6 0 (s1.2 0))) fun z1 =>
  ck (ib 1 6) <| bn (ap z1 0 (Int32.toNatClampNeg 1) (s0.1 9)) fun z2 =>
  lp (fun K4 (t3 : Int64 × Int32 × MS × MS) =>
    if (s2.1 0) ≤ t3.2.1 then (
      some (t3.1, t3.2.2.1, t3.2.2.2))
    else (
      ck (ib t3.2.1 6) <| bn (s0.2 4 (Int32.toNatClampNeg t3.2.1)) fun x6 =>
      ck (ib 0 6) <| bn (ap t3.2.2.1 0 (Int32.toNatClampNeg 0) x6) fun z7 =>
      cl (f_X5_value n 2 t3.2.2.2 z7) fun q8 =>
      cl (f_X7_bounded n q8.1 0 99) fun q9 =>
      cl (f_X1_leftOf n t3.2.1 s0 s2) fun q10 =>
      bn (t3.1 + ((Int32.toInt64 q9) * (Int32.toInt64 q10))) fun x11 =>
      K4 (x11, (t3.2.1 + 1), z7, q8.2))) n (0, 0, z2, s3)
