def f_X8_in (n : Nat) (a1 : Int32) (a2 : Int32) (a3 : Int32) : Option (Int32) :=
  if a1 < a2 then (
    ck (isz 0) <| some 0)
  else (
    if a3 < a1 then (
      ck (isz 0) <| some 0)
    else (
      ck (isz 1) <| some 1))
def f_X8_held (n : Nat) (a1 : Int32) (a2 : Int32) (a3 : Int32) : Option (Int32) :=
  if a2 ≤ a1 then (
    if a1 ≤ a3 then (
      some a1)
    else (
      some a3))
  else (
    some a2)
def f_X8_isSort (n : Nat) (a1 : Int32) (s0 : MS) : Option (Int32) :=
  cl (f_X8_in n a1 0 ((s0.1 1) - 1)) fun q1 =>
  ck (isz q1) <| some q1
def f_X8_isWay (n : Nat) (a1 : Int32) (s0 : MS) : Option (Int32) :=
  cl (f_X8_in n a1 0 ((s0.1 10) - 1)) fun q1 =>
  ck (isz q1) <| some q1
def f_X8_isMinute (n : Nat) (a1 : Int32) : Option (Int32) :=
  cl (f_X8_in n a1 0 119) fun q1 =>
  ck (isz q1) <| some q1
def f_X8_people (n : Nat) (a1 : Int32) (a2 : Int32) (s0 : MS) : Option (Int32 × MS) :=
  cl (f_X8_in n a1 0 400) fun q1 =>
  if q1 = 0 then (
    some ((-2), s0))
  else (
    if a2 < 0 then (
      some ((-2), s0))
    else (
      ck (nz 1000) <|
      if 40 < (a2 / 1000) then (
        some ((-2), s0))
      else (
        ck (nz 10) <|
        ck (nz 100) <|
        cl (f_X8_in n ((a2 / 10) - (a2 / 10) / 100 * 100) 1 60) fun q5 =>
        if q5 = 0 then (
          some ((-2), s0))
        else (
          if (s0.1 1) = 6 then (
            some ((-4), s0))
          else (
            ck (ib (s0.1 1) 6) <| bn (ap s0 2 (Int32.toNatClampNeg (s0.1 1)) a1) fun z8 =>
            ck (nz 1000) <|
            ck (ib (z8.1 1) 6) <| bn (ap z8 3 (Int32.toNatClampNeg (z8.1 1)) (a2 / 1000)) fun z9 =>
            ck (nz 10) <|
            ck (nz 100) <|
            ck (ib (z9.1 1) 6) <| bn (ap z9 4 (Int32.toNatClampNeg (z9.1 1)) ((a2 / 10) - (a2 / 10) / 100 * 100)) fun z10 =>
            ck (nz 10) <|
            ck (ib (z10.1 1) 6) <| bn (ap z10 5 (Int32.toNatClampNeg (z10.1 1)) (a2 - a2 / 10 * 10)) fun z11 =>
            bn (sp z11 1 ((z11.1 1) + 1)) fun z12 =>
            some (((z12.1 1) - 1), z12))))))
def f_X8_car (n : Nat) (a1 : Int32) (a2 : Int32) (a3 : Int32) (s0 : MS) : Option (Int32 × MS) :=
  cl (f_X8_in n a1 1 60) fun q1 =>
  if q1 = 0 then (
    some ((-2), s0))
  else (
    cl (f_X8_in n a2 1 30) fun q3 =>
    if q3 = 0 then (
      some ((-2), s0))
    else (
      cl (f_X8_isMinute n a3) fun q5 =>
      if q5 = 0 then (
        some ((-2), s0))
      else (
        if (s0.1 6) = 4 then (
          some ((-4), s0))
        else (
          ck (ib (s0.1 6) 24) <| bn (ap s0 7 (Int32.toNatClampNeg (s0.1 6)) a1) fun z8 =>
          ck (ib (z8.1 6) 24) <| bn (ap z8 8 (Int32.toNatClampNeg (z8.1 6)) a2) fun z9 =>
          ck (ib (z9.1 6) 24) <| bn (ap z9 9 (Int32.toNatClampNeg (z9.1 6)) a3) fun z10 =>
          bn (sp z10 6 ((z10.1 6) + 1)) fun z11 =>
          some (((z11.1 6) - 1), z11)))))
def f_X8_way (n : Nat) (a1 : Int32) (a2 : Int32) (a3 : Int32) (s0 : MS) : Option (Int32 × MS) :=
  cl (f_X8_in n a1 0 5) fun q1 =>
  if q1 = 0 then (
    some ((-2), s0))
  else (
    cl (f_X8_isMinute n a2) fun q3 =>
    if q3 = 0 then (
      some ((-2), s0))
    else (
      cl (f_X8_in n a3 0 9) fun q5 =>
      if q5 = 0 then (
        some ((-2), s0))
      else (
        if (s0.1 10) = 8 then (
          some ((-4), s0))
        else (
          ck (ib (s0.1 10) 8) <| bn (ap s0 11 (Int32.toNatClampNeg (s0.1 10)) a1) fun z8 =>
          ck (ib (z8.1 10) 8) <| bn (ap z8 12 (Int32.toNatClampNeg (z8.1 10)) a2) fun z9 =>
          ck (ib (z9.1 10) 8) <| bn (ap z9 13 (Int32.toNatClampNeg (z9.1 10)) a3) fun z10 =>
          bn (sp z10 10 ((z10.1 10) + 1)) fun z11 =>
          some (((z11.1 10) - 1), z11)))))
def f_X8_set (n : Nat) (a1 : Int32) (a2 : Int32) (a3 : Int32) (s0 : MS) : Option (Int32 × MS) :=
  if a1 = 0 then (
    cl (f_X8_isSort n a2 s0) fun q2 =>
    if q2 = 0 then (
      some ((-2), s0))
    else (
      cl (f_X8_in n a3 0 400) fun q4 =>
      if q4 = 0 then (
        some ((-2), s0))
      else (
        ck (ib a2 6) <| bn (s0.2 2 (Int32.toNatClampNeg a2)) fun x6 =>
        ck (ib a2 6) <| bn (ap s0 2 (Int32.toNatClampNeg a2) a3) fun z7 =>
        some (x6, z7))))
  else (
    if a1 = 1 then (
      cl (f_X8_isSort n a2 s0) fun q8 =>
      if q8 = 0 then (
        some ((-2), s0))
      else (
        cl (f_X8_in n a3 0 40) fun q10 =>
        if q10 = 0 then (
          some ((-2), s0))
        else (
          ck (ib a2 6) <| bn (s0.2 3 (Int32.toNatClampNeg a2)) fun x12 =>
          ck (ib a2 6) <| bn (ap s0 3 (Int32.toNatClampNeg a2) a3) fun z13 =>
          some (x12, z13))))
    else (
      if a1 = 2 then (
        cl (f_X8_isSort n a2 s0) fun q14 =>
        if q14 = 0 then (
          some ((-2), s0))
        else (
          cl (f_X8_in n a3 1 60) fun q16 =>
          if q16 = 0 then (
            some ((-2), s0))
          else (
            ck (ib a2 6) <| bn (s0.2 4 (Int32.toNatClampNeg a2)) fun x18 =>
            ck (ib a2 6) <| bn (ap s0 4 (Int32.toNatClampNeg a2) a3) fun z19 =>
            some (x18, z19))))
      else (
        if a1 = 3 then (
          cl (f_X8_isSort n a2 s0) fun q20 =>
          if q20 = 0 then (
            some ((-2), s0))
          else (
            cl (f_X8_in n a3 0 9) fun q22 =>
            if q22 = 0 then (
              some ((-2), s0))
            else (
              ck (ib a2 6) <| bn (s0.2 5 (Int32.toNatClampNeg a2)) fun x24 =>
              ck (ib a2 6) <| bn (ap s0 5 (Int32.toNatClampNeg a2) a3) fun z25 =>
              some (x24, z25))))
        else (
          if a1 = 4 then (
            cl (f_X8_isMinute n a2) fun q26 =>
            if q26 = 0 then (
              some ((-2), s0))
            else (
              cl (f_X8_in n a3 0 9) fun q28 =>
              if q28 = 0 then (
                some ((-2), s0))
              else (
                ck (ib a2 120) <| bn (s0.2 14 (Int32.toNatClampNeg a2)) fun x30 =>
                ck (ib a2 120) <| bn (ap s0 14 (Int32.toNatClampNeg a2) a3) fun z31 =>
                some (x30, z31))))
          else (
            if a1 = 5 then (
              cl (f_X8_in n a3 1 120) fun q32 =>
              if q32 = 0 then (
                some ((-2), s0))
              else (
                bn (sp s0 15 a3) fun z34 =>
                some ((s0.1 15), z34)))
            else (
              some ((-2), s0)))))))
def f_X8_shut (n : Nat) (a1 : Int32) (a2 : Int32) (s0 : MS) : Option (Int32 × MS) :=
  jn (fun (t1 : Unit) =>
    bn (sp s0 16 a1) fun z3 =>
    bn (sp z3 17 a2) fun z4 =>
    some (1, z4)) fun K2 =>
  if a1 = (-1) then (
    K2 ())
  else (
    cl (f_X8_isMinute n a1) fun q6 =>
    if q6 = 0 then (
      some ((-2), s0))
    else (
      cl (f_X8_in n a2 a1 119) fun q8 =>
      if q8 = 0 then (
        some ((-2), s0))
      else (
        K2 ())))
def f_X8_isShut (n : Nat) (a1 : Int32) (s0 : MS) : Option (Int32) :=
  if (s0.1 16) < 0 then (
    ck (isz 0) <| some 0)
  else (
    if a1 < (s0.1 16) then (
      ck (isz 0) <| some 0)
    else (
      if (s0.1 17) < a1 then (
        ck (isz 0) <| some 0)
      else (
        ck (isz 1) <| some 1)))
def f_X8_calls (n : Nat) (a1 : Int32) (a2 : Int32) (s0 : MS) : Option (Int32) :=
  if (s0.1 18) < 0 then (
    ck (ib a1 8) <| bn (s0.2 11 (Int32.toNatClampNeg a1)) fun x2 =>
    if x2 = 0 then (
      some 0)
    else (
      ck (ib a1 8) <| bn (s0.2 11 (Int32.toNatClampNeg a1)) fun x4 =>
      if x4 = 2 then (
        some 0)
      else (
        ck (ib a1 8) <| bn (s0.2 11 (Int32.toNatClampNeg a1)) fun x6 =>
        if x6 = 4 then (
          some 0)
        else (
          ck (ib a1 8) <| bn (s0.2 12 (Int32.toNatClampNeg a1)) fun x8 =>
          if x8 ≤ a2 then (
            ck (ib a1 8) <| bn (s0.2 13 (Int32.toNatClampNeg a1)) fun x10 =>
            ck (ib a1 8) <| bn (s0.2 11 (Int32.toNatClampNeg a1)) fun x11 =>
            if x11 = 1 then (
              some x10)
            else (
              ck (ib a1 8) <| bn (s0.2 12 (Int32.toNatClampNeg a1)) fun x13 =>
              ck (nz 10) <|
              jn (fun (t14 : Int32) =>
                ck (ib a1 8) <| bn (s0.2 11 (Int32.toNatClampNeg a1)) fun x16 =>
                if x16 = 3 then (
                  some t14)
                else (
                  some (2 * t14))) fun K15 =>
              if ((a2 - x13) - (a2 - x13) / 10 * 10) = 0 then (
                K15 (x10 + 5))
              else (
                K15 x10)))
          else (
            some 0)))))
  else (
    ck (ib (s0.1 18) 4) <| bn (s0.2 58 (Int32.toNatClampNeg (s0.1 18))) fun x19 =>
    if x19 ≤ a2 then (
      some 0)
    else (
      ck (ib ((40 * (s0.1 18)) + a2) 160) <| bn (s0.2 59 (Int32.toNatClampNeg ((40 * (s0.1 18)) + a2))) fun x21 =>
      some x21))
def f_X8_asks (n : Nat) (a1 : Int32) (a2 : Int32) (s0 : MS) : Option (Int32) :=
  if (s0.1 18) < 0 then (
    ck (ib a1 8) <| bn (s0.2 12 (Int32.toNatClampNeg a1)) fun x2 =>
    jn (fun (t3 : Int32) =>
      ck (ib a1 8) <| bn (s0.2 11 (Int32.toNatClampNeg a1)) fun x5 =>
      if x5 = 2 then (
        some t3)
      else (
        if x5 = 3 then (
          some 0)
        else (
          if x5 = 4 then (
            some (2 * t3))
          else (
            if x5 = 5 then (
              ck (ib a1 8) <| bn (s0.2 13 (Int32.toNatClampNeg a1)) fun x7 =>
              some x7)
            else (
              some 1))))) fun K4 =>
    if a2 < x2 then (
      K4 1)
    else (
      ck (ib a1 8) <| bn (s0.2 13 (Int32.toNatClampNeg a1)) fun x9 =>
      K4 (1 + x9)))
  else (
    some 1)
def f_X8_orderOf (n : Nat) (a1 : Int32) (s0 : MS) : Option (Int32) :=
  if (s0.1 18) < 0 then (
    ck (ib a1 8) <| bn (s0.2 11 (Int32.toNatClampNeg a1)) fun x2 =>
    if x2 = 3 then (
      some 1)
    else (
      ck (ib a1 8) <| bn (s0.2 11 (Int32.toNatClampNeg a1)) fun x4 =>
      if x4 = 5 then (
        some 1)
      else (
        ck (ib a1 8) <| bn (s0.2 11 (Int32.toNatClampNeg a1)) fun x6 =>
        if x6 = 4 then (
          some 2)
        else (
          some 0))))
  else (
    some 0)
def f_X8_told (n : Nat) (a1 : Int32) (a2 : Int32) (a3 : Int32) (s0 : MS) : Option (Int32) :=
  cl (f_X8_isWay n a1 s0) fun q1 =>
  if q1 = 0 then (
    some (-2))
  else (
    cl (f_X8_isMinute n a2) fun q3 =>
    if q3 = 0 then (
      some (-2))
    else (
      if a3 = 0 then (
        ck (ib a1 8) <| bn (s0.2 11 (Int32.toNatClampNeg a1)) fun x6 =>
        some x6)
      else (
        if a3 = 1 then (
          ck (ib a1 8) <| bn (s0.2 12 (Int32.toNatClampNeg a1)) fun x7 =>
          some x7)
        else (
          if a3 = 2 then (
            ck (ib a1 8) <| bn (s0.2 13 (Int32.toNatClampNeg a1)) fun x8 =>
            some x8)
          else (
            if a3 = 3 then (
              cl (f_X8_calls n a1 a2 s0) fun q9 =>
              some q9)
            else (
              if a3 = 4 then (
                cl (f_X8_asks n a1 a2 s0) fun q10 =>
                some q10)
              else (
                some (-2))))))))
def f_X8_feed (n : Nat) (a1 : Int32) (a2 : Int64) (s0 : MS) : Option (Int32 × MS) :=
  cl (f_X8_in n a1 1 8) fun q1 =>
  if q1 = 0 then (
    some ((-2), s0))
  else (
    if ((s0.1 20) + a1) ≤ 160 then (
      lp (fun K5 (t4 : Int32 × MS) =>
        if a1 ≤ t4.1 then (
          some ((t4.2.1 20), t4.2))
        else (
          ck (ib (t4.2.1 20) 160) <| bn (ap t4.2 19 (Int32.toNatClampNeg (t4.2.1 20)) (vp_nar .byte (Int8.toInt32 (Int32.toInt8 (Int64.toInt32 (a2 >>> (Int32.toInt64 (8 * t4.1) &&& 63))))))) fun z7 =>
          bn (sp z7 20 ((z7.1 20) + 1)) fun z8 =>
          K5 ((t4.1 + 1), z8))) n (0, s0))
    else (
      some ((-4), s0)))
def f_X8_isLetter (n : Nat) (a1 : Int32) : Option (Int32) :=
  cl (f_X8_in n a1 97 122) fun q1 =>
  ck (isz q1) <| some q1
def f_X8_isDigit (n : Nat) (a1 : Int32) : Option (Int32) :=
  cl (f_X8_in n a1 48 57) fun q1 =>
  ck (isz q1) <| some q1
def f_X8_wordNow (n : Nat) (s0 : MS) : Option (Int32) :=
  lp (fun K2 (t1 : Int32 × Int32) =>
    if 12 ≤ t1.2 then (
      some (-1))
    else (
      lp (fun K5 (t4 : Int32 × Int32 × Int32) =>
        ck (ib t4.1 53) <| bn (s0.2 35 (Int32.toNatClampNeg t4.1)) fun x6 =>
        if x6 = 32 then (
          jn (fun (t8 : Unit) =>
            K2 ((t4.1 + 1), (t1.2 + 1))) fun K9 =>
          if t4.2.2 = 0 then (
            K9 ())
          else (
            if t4.2.1 = (s0.1 30) then (
              ck (ib t1.2 12) <| bn (s0.2 36 (Int32.toNatClampNeg t1.2)) fun x12 =>
              some x12)
            else (
              K9 ())))
        else (
          jn (fun (t13 : Int32) =>
            K5 ((t4.1 + 1), (t4.2.1 + 1), t13)) fun K14 =>
          jn (fun (t15 : Unit) =>
            K14 0) fun K16 =>
          if (s0.1 30) ≤ t4.2.1 then (
            K16 ())
          else (
            ck (ib t4.2.1 160) <| bn (s0.2 19 (Int32.toNatClampNeg t4.2.1)) fun x18 =>
            ck (ib t4.1 53) <| bn (s0.2 35 (Int32.toNatClampNeg t4.1)) fun x19 =>
            if x18 = x19 then (
              K14 t4.2.2)
            else (
              K16 ())))) n (t1.1, (s0.1 29), 1))) n (0, 0)
def f_X8_next (n : Nat) (s0 : MS) : Option (MS) :=
  bn (sp s0 29 (s0.1 30)) fun z1 =>
  lp (fun K3 (t2 : MS) =>
    jn (fun (t4 : Unit) =>
      bn (sp t2 30 (t2.1 29)) fun z6 =>
      if (z6.1 29) < (z6.1 20) then (
        ck (ib (z6.1 29) 160) <| bn (z6.2 19 (Int32.toNatClampNeg (z6.1 29))) fun x8 =>
        cl (f_X8_isLetter n x8) fun q9 =>
        if q9 = 0 then (
          cl (f_X8_isDigit n x8) fun q11 =>
          if q11 = 0 then (
            bn (sp z6 30 ((z6.1 30) + 1)) fun z13 =>
            bn (sp z13 32 x8) fun z14 =>
            jn (fun (t15 : Int32) =>
              bn (sp z14 31 t15) fun z17 =>
              some z17) fun K16 =>
            jn (fun (t18 : Unit) =>
              K16 3) fun K19 =>
            if x8 = 40 then (
              K19 ())
            else (
              if x8 = 41 then (
                K19 ())
              else (
                if x8 = 59 then (
                  K19 ())
                else (
                  if x8 = 43 then (
                    K19 ())
                  else (
                    if x8 = 45 then (
                      K19 ())
                    else (
                      if x8 = 42 then (
                        K19 ())
                      else (
                        if x8 = 60 then (
                          K19 ())
                        else (
                          if x8 = 61 then (
                            K19 ())
                          else (
                            K16 5)))))))))
          else (
            bn (sp z6 32 0) fun z28 =>
            lp (fun K30 (t29 : MS) =>
              jn (fun (t31 : Unit) =>
                jn (fun (t33 : Int32) =>
                  bn (sp t29 31 t33) fun z35 =>
                  some z35) fun K34 =>
                if ((t29.1 30) - (t29.1 29)) ≤ 4 then (
                  K34 2)
                else (
                  K34 5)) fun K32 =>
              if (t29.1 20) ≤ (t29.1 30) then (
                K32 ())
              else (
                ck (ib (t29.1 30) 160) <| bn (t29.2 19 (Int32.toNatClampNeg (t29.1 30))) fun x38 =>
                cl (f_X8_isDigit n x38) fun q39 =>
                if q39 = 0 then (
                  K32 ())
                else (
                  jn (fun (t41 : MS) =>
                    bn (sp t41 30 ((t41.1 30) + 1)) fun z43 =>
                    K30 z43) fun K42 =>
                  if 4 ≤ ((t29.1 30) - (t29.1 29)) then (
                    K42 t29)
                  else (
                    ck (ib (t29.1 30) 160) <| bn (t29.2 19 (Int32.toNatClampNeg (t29.1 30))) fun x45 =>
                    bn (sp t29 32 (((10 * (t29.1 32)) + x45) - 48)) fun z46 =>
                    K42 z46)))) n z28))
        else (
          lp (fun K48 (t47 : MS) =>
            jn (fun (t49 : Unit) =>
              cl (f_X8_wordNow n t47) fun q51 =>
              bn (sp t47 32 q51) fun z52 =>
              jn (fun (t53 : Int32) =>
                bn (sp z52 31 t53) fun z55 =>
                some z55) fun K54 =>
              if 0 ≤ (z52.1 32) then (
                K54 1)
              else (
                K54 5)) fun K50 =>
            if (t47.1 20) ≤ (t47.1 30) then (
              K50 ())
            else (
              ck (ib (t47.1 30) 160) <| bn (t47.2 19 (Int32.toNatClampNeg (t47.1 30))) fun x58 =>
              cl (f_X8_isLetter n x58) fun q59 =>
              if q59 = 0 then (
                K50 ())
              else (
                bn (sp t47 30 ((t47.1 30) + 1)) fun z61 =>
                K48 z61))) n z6))
      else (
        bn (sp z6 29 (z6.1 20)) fun z62 =>
        bn (sp z62 31 4) fun z63 =>
        some z63)) fun K5 =>
    if (t2.1 20) ≤ (t2.1 29) then (
      K5 ())
    else (
      ck (ib (t2.1 29) 160) <| bn (t2.2 19 (Int32.toNatClampNeg (t2.1 29))) fun x65 =>
      jn (fun (t66 : Unit) =>
        bn (sp t2 29 ((t2.1 29) + 1)) fun z68 =>
        K3 z68) fun K67 =>
      if x65 = 32 then (
        K67 ())
      else (
        ck (ib (t2.1 29) 160) <| bn (t2.2 19 (Int32.toNatClampNeg (t2.1 29))) fun x70 =>
        if x70 = 10 then (
          K67 ())
        else (
          K5 ())))) n z1
def f_X8_faulty (n : Nat) (s0 : MS) : Option (MS) :=
  if 0 ≤ (s0.1 27) then (
    some s0)
  else (
    bn (sp s0 27 (s0.1 29)) fun z2 =>
    some z2)
def f_X8_isSign (n : Nat) (a1 : Int32) (s0 : MS) : Option (Int32) :=
  if 0 ≤ (s0.1 27) then (
    ck (isz 0) <| some 0)
  else (
    if (s0.1 31) = 3 then (
      if (s0.1 32) = a1 then (
        ck (isz 1) <| some 1)
      else (
        ck (isz 0) <| some 0))
    else (
      ck (isz 0) <| some 0))
def f_X8_isKey (n : Nat) (a1 : Int32) (s0 : MS) : Option (Int32) :=
  if 0 ≤ (s0.1 27) then (
    ck (isz 0) <| some 0)
  else (
    if (s0.1 31) = 1 then (
      if (s0.1 32) = a1 then (
        ck (isz 1) <| some 1)
      else (
        ck (isz 0) <| some 0))
    else (
      ck (isz 0) <| some 0))
def f_X8_addStep (n : Nat) (a1 : Int32) (a2 : Int32) (s0 : MS) : Option (MS) :=
  ck (ib (1020 + (s0.1 26)) 1190) <| bn (ap s0 23 (Int32.toNatClampNeg (1020 + (s0.1 26))) a1) fun z1 =>
  ck (ib (1020 + (z1.1 26)) 1190) <| bn (ap z1 24 (Int32.toNatClampNeg (1020 + (z1.1 26))) a2) fun z2 =>
  bn (sp z2 26 ((z2.1 26) + 1)) fun z3 =>
  some z3
def f_X8_opens (n : Nat) (s0 : MS) : Option (Int32 × MS) :=
  if (s0.1 28) = 5 then (
    cl (f_X8_faulty n s0) fun q4 =>
    ck (isz 0) <| some (0, q4))
  else (
    bn (sp s0 28 ((s0.1 28) + 1)) fun z2 =>
    cl (f_X8_next n z2) fun q3 =>
    ck (isz 1) <| some (1, q3))
def b_X8_either (n : Nat) (rec : Nat → MS → Option MS) (s0 : MS) : Option (MS) :=
  cl (rec 1 s0) fun q1 =>
  lp (fun K3 (t2 : MS) =>
    cl (f_X8_isKey n 13 t2) fun q4 =>
    if q4 = 0 then (
      some t2)
    else (
      cl (f_X8_next n t2) fun q6 =>
      cl (rec 1 q6) fun q7 =>
      cl (f_X8_addStep n 5 0 q7) fun q8 =>
      K3 q8)) n q1
def b_X8_all (n : Nat) (rec : Nat → MS → Option MS) (s0 : MS) : Option (MS) :=
  cl (rec 2 s0) fun q1 =>
  lp (fun K3 (t2 : MS) =>
    cl (f_X8_isKey n 14 t2) fun q4 =>
    if q4 = 0 then (
      some t2)
    else (
      cl (f_X8_next n t2) fun q6 =>
      cl (rec 2 q6) fun q7 =>
      cl (f_X8_addStep n 6 0 q7) fun q8 =>
      K3 q8)) n q1
def b_X8_denied (n : Nat) (rec : Nat → MS → Option MS) (s0 : MS) : Option (MS) :=
  cl (f_X8_isKey n 15 s0) fun q1 =>
  if q1 = 0 then (
    cl (rec 3 s0) fun q3 =>
    cl (f_X8_isSign n 60 q3) fun q4 =>
    jn (fun (t5 : Unit) =>
      cl (f_X8_next n q3) fun q7 =>
      cl (rec 3 q7) fun q8 =>
      cl (f_X8_addStep n (q3.1 32) 0 q8) fun q9 =>
      some q9) fun K6 =>
    if q4 = 0 then (
      cl (f_X8_isSign n 61 q3) fun q11 =>
      if q11 = 0 then (
        some q3)
      else (
        K6 ()))
    else (
      K6 ()))
  else (
    cl (f_X8_opens n s0) fun q13 =>
    if q13.1 = 0 then (
      some q13.2)
    else (
      cl (rec 2 q13.2) fun q15 =>
      bn (sp q15 28 ((q15.1 28) - 1)) fun z16 =>
      cl (f_X8_addStep n 3 0 z16) fun q17 =>
      some q17))
def b_X8_sum (n : Nat) (rec : Nat → MS → Option MS) (s0 : MS) : Option (MS) :=
  cl (rec 4 s0) fun q1 =>
  lp (fun K3 (t2 : MS) =>
    cl (f_X8_isSign n 43 t2) fun q4 =>
    jn (fun (t5 : Unit) =>
      cl (f_X8_next n t2) fun q7 =>
      cl (rec 4 q7) fun q8 =>
      cl (f_X8_addStep n (t2.1 32) 0 q8) fun q9 =>
      K3 q9) fun K6 =>
    if q4 = 0 then (
      cl (f_X8_isSign n 45 t2) fun q11 =>
      if q11 = 0 then (
        some t2)
      else (
        K6 ()))
    else (
      K6 ())) n q1
def b_X8_term (n : Nat) (rec : Nat → MS → Option MS) (s0 : MS) : Option (MS) :=
  cl (rec 5 s0) fun q1 =>
  lp (fun K3 (t2 : MS) =>
    cl (f_X8_isSign n 42 t2) fun q4 =>
    if q4 = 0 then (
      some t2)
    else (
      cl (f_X8_next n t2) fun q6 =>
      cl (rec 5 q6) fun q7 =>
      cl (f_X8_addStep n 42 0 q7) fun q8 =>
      K3 q8)) n q1
def b_X8_one (n : Nat) (rec : Nat → MS → Option MS) (s0 : MS) : Option (MS) :=
  if (s0.1 27) < 0 then (
    if (s0.1 31) = 2 then (
      cl (f_X8_addStep n 1 (s0.1 32) s0) fun q27 =>
      cl (f_X8_next n q27) fun q28 =>
      some q28)
    else (
      jn (fun (t3 : Unit) =>
        cl (f_X8_isSign n 45 s0) fun q5 =>
        if q5 = 0 then (
          cl (f_X8_isSign n 40 s0) fun q7 =>
          if q7 = 0 then (
            cl (f_X8_faulty n s0) fun q9 =>
            some q9)
          else (
            cl (f_X8_opens n s0) fun q10 =>
            if q10.1 = 0 then (
              some q10.2)
            else (
              cl (rec 0 q10.2) fun q12 =>
              cl (f_X8_isSign n 41 q12) fun q13 =>
              if q13 = 0 then (
                cl (f_X8_faulty n q12) fun q17 =>
                some q17)
              else (
                bn (sp q12 28 ((q12.1 28) - 1)) fun z15 =>
                cl (f_X8_next n z15) fun q16 =>
                some q16))))
        else (
          cl (f_X8_opens n s0) fun q18 =>
          if q18.1 = 0 then (
            some q18.2)
          else (
            cl (rec 5 q18.2) fun q20 =>
            bn (sp q20 28 ((q20.1 28) - 1)) fun z21 =>
            cl (f_X8_addStep n 4 0 z21) fun q22 =>
            some q22))) fun K4 =>
      if (s0.1 31) = 1 then (
        if 6 ≤ (s0.1 32) then (
          K4 ())
        else (
          cl (f_X8_addStep n 2 (s0.1 32) s0) fun q25 =>
          cl (f_X8_next n q25) fun q26 =>
          some q26))
      else (
        K4 ())))
  else (
    some s0)
def f_grp8 (n : Nat) : Nat → Nat → MS → Option MS
  | 0, _, _ => none
  | d + 1, w, s => if w = 0 then b_X8_either n (f_grp8 n d) s else if w = 1 then b_X8_all n (f_grp8 n d) s else if w = 2 then b_X8_denied n (f_grp8 n d) s else if w = 3 then b_X8_sum n (f_grp8 n d) s else if w = 4 then b_X8_term n (f_grp8 n d) s else if w = 5 then b_X8_one n (f_grp8 n d) s else none
def f_X8_either (n : Nat) (s0 : MS) : Option MS := f_grp8 n 64 0 s0
def f_X8_all (n : Nat) (s0 : MS) : Option MS := f_grp8 n 64 1 s0
def f_X8_denied (n : Nat) (s0 : MS) : Option MS := f_grp8 n 64 2 s0
def f_X8_sum (n : Nat) (s0 : MS) : Option MS := f_grp8 n 64 3 s0
def f_X8_term (n : Nat) (s0 : MS) : Option MS := f_grp8 n 64 4 s0
def f_X8_one (n : Nat) (s0 : MS) : Option MS := f_grp8 n 64 5 s0
def f_X8_rule (n : Nat) (a1 : Int32) (s0 : MS) : Option (MS) :=
  cl (f_X8_isKey n (10 + a1) s0) fun q1 =>
  if q1 = 0 then (
    cl (f_X8_faulty n s0) fun q10 =>
    some q10)
  else (
    cl (f_X8_next n s0) fun q3 =>
    cl (f_X8_either n q3) fun q4 =>
    cl (f_X8_isSign n 59 q4) fun q5 =>
    if q5 = 0 then (
      cl (f_X8_faulty n q4) fun q9 =>
      some q9)
    else (
      cl (f_X8_next n q4) fun q7 =>
      ck (ib (18 + a1) 21) <| bn (ap q7 25 (Int32.toNatClampNeg (18 + a1)) (q7.1 26)) fun z8 =>
      some z8))
def f_X8_text (n : Nat) (s0 : MS) : Option (Int32 × MS) :=
  if (s0.1 21) = 6 then (
    some ((-4), s0))
  else (
    bn (sp s0 30 0) fun z2 =>
    bn (sp z2 27 (-1)) fun z3 =>
    bn (sp z3 28 0) fun z4 =>
    bn (sp z4 26 0) fun z5 =>
    cl (f_X8_next n z5) fun q6 =>
    lp (fun K8 (t7 : Int32 × MS) =>
      jn (fun (t9 : Unit) =>
        jn (fun (t11 : MS) =>
          bn (sp t11 20 0) fun z13 =>
          if (z13.1 27) < 0 then (
            lp (fun K16 (t15 : Int32 × MS) =>
              if (t15.2.1 26) ≤ t15.1 then (
                lp (fun K19 (t18 : Int32 × MS) =>
                  if 3 ≤ t18.1 then (
                    bn (sp t18.2 21 ((t18.2.1 21) + 1)) fun z21 =>
                    some (((z21.1 21) - 1), z21))
                  else (
                    ck (ib (18 + t18.1) 21) <| bn (t18.2.2 25 (Int32.toNatClampNeg (18 + t18.1))) fun x22 =>
                    ck (ib ((3 * (t18.2.1 21)) + t18.1) 21) <| bn (ap t18.2 25 (Int32.toNatClampNeg ((3 * (t18.2.1 21)) + t18.1)) x22) fun z23 =>
                    K19 ((t18.1 + 1), z23))) n (0, t15.2))
              else (
                ck (ib (1020 + t15.1) 1190) <| bn (t15.2.2 23 (Int32.toNatClampNeg (1020 + t15.1))) fun x24 =>
                ck (ib ((170 * (t15.2.1 21)) + t15.1) 1190) <| bn (ap t15.2 23 (Int32.toNatClampNeg ((170 * (t15.2.1 21)) + t15.1)) x24) fun z25 =>
                ck (ib (1020 + t15.1) 1190) <| bn (z25.2 24 (Int32.toNatClampNeg (1020 + t15.1))) fun x26 =>
                ck (ib ((170 * (z25.1 21)) + t15.1) 1190) <| bn (ap z25 24 (Int32.toNatClampNeg ((170 * (z25.1 21)) + t15.1)) x26) fun z27 =>
                K16 ((t15.1 + 1), z27))) n (0, z13))
          else (
            some (((-100) - (z13.1 27)), z13))) fun K12 =>
        if 0 ≤ (t7.2.1 27) then (
          K12 t7.2)
        else (
          if (t7.2.1 31) = 4 then (
            K12 t7.2)
          else (
            cl (f_X8_faulty n t7.2) fun q30 =>
            K12 q30))) fun K10 =>
      if 2 < t7.1 then (
        K10 ())
      else (
        if 0 ≤ (t7.2.1 27) then (
          K10 ())
        else (
          cl (f_X8_rule n t7.1 t7.2) fun q33 =>
          K8 ((t7.1 + 1), q33)))) n (0, q6))
def f_X8_force (n : Nat) (a1 : Int32) (s0 : MS) : Option (Int32 × MS) :=
  cl (f_X8_in n a1 0 ((s0.1 21) - 1)) fun q1 =>
  if q1 = 0 then (
    some ((-2), s0))
  else (
    bn (sp s0 22 a1) fun z3 =>
    some ((s0.1 22), z3))
def f_X8_twoOf (n : Nat) (a1 : Int32) (a2 : Int32) (a3 : Int32) : Option (Int32) :=
  if a1 = 5 then (
    if a2 = 0 then (
      if a3 = 0 then (
        some 0)
      else (
        some 1))
    else (
      some 1))
  else (
    if a1 = 6 then (
      if a2 = 0 then (
        some 0)
      else (
        if a3 = 0 then (
          some 0)
        else (
          some 1)))
    else (
      if a1 = 43 then (
        some (a2 + a3))
      else (
        if a1 = 45 then (
          some (a2 - a3))
        else (
          if a1 = 60 then (
            if a3 ≤ a2 then (
              some 0)
            else (
              some 1))
          else (
            if a1 = 61 then (
              if a2 = a3 then (
                some 1)
              else (
                some 0))
            else (
              some (a2 * a3)))))))
def f_X8_gives (n : Nat) (a1 : Int32) (s0 : MS) : Option (Int32 × MS) :=
  if (s0.1 22) = 0 then (
    if a1 = 0 then (
      ck (ib 4 6) <| bn (s0.2 34 (Int32.toNatClampNeg 4)) fun x35 =>
      ck (ib 5 6) <| bn (s0.2 34 (Int32.toNatClampNeg 5)) fun x36 =>
      some (((x35 * 3) - x36), s0))
    else (
      if a1 = 1 then (
        some (0, s0))
      else (
        some (1, s0))))
  else (
    jn (fun (t2 : Int32) =>
      bn ((170 * (s0.1 22)) + t2) fun x4 =>
      lp (fun K6 (t5 : Int32 × Int32 × MS) =>
        ck (ib ((3 * (t5.2.2.1 22)) + a1) 21) <| bn (t5.2.2.2 25 (Int32.toNatClampNeg ((3 * (t5.2.2.1 22)) + a1))) fun x7 =>
        if ((170 * (t5.2.2.1 22)) + x7) ≤ t5.2.1 then (
          ck (ib 0 170) <| bn (t5.2.2.2 33 (Int32.toNatClampNeg 0)) fun x9 =>
          some (x9, t5.2.2))
        else (
          ck (ib t5.2.1 1190) <| bn (t5.2.2.2 23 (Int32.toNatClampNeg t5.2.1)) fun x10 =>
          jn (fun (t11 : Int32 × MS) =>
            K6 (t11.1, (t5.2.1 + 1), t11.2)) fun K12 =>
          if x10 = 1 then (
            ck (ib t5.2.1 1190) <| bn (t5.2.2.2 24 (Int32.toNatClampNeg t5.2.1)) fun x14 =>
            ck (ib t5.1 170) <| bn (ap t5.2.2 33 (Int32.toNatClampNeg t5.1) x14) fun z15 =>
            K12 ((t5.1 + 1), z15))
          else (
            if x10 = 2 then (
              ck (ib t5.2.1 1190) <| bn (t5.2.2.2 24 (Int32.toNatClampNeg t5.2.1)) fun x16 =>
              ck (ib x16 6) <| bn (t5.2.2.2 34 (Int32.toNatClampNeg x16)) fun x17 =>
              ck (ib t5.1 170) <| bn (ap t5.2.2 33 (Int32.toNatClampNeg t5.1) x17) fun z18 =>
              K12 ((t5.1 + 1), z18))
            else (
              if x10 = 3 then (
                ck (ib (t5.1 - 1) 170) <| bn (t5.2.2.2 33 (Int32.toNatClampNeg (t5.1 - 1))) fun x19 =>
                jn (fun (t20 : Int32) =>
                  ck (ib (t5.1 - 1) 170) <| bn (ap t5.2.2 33 (Int32.toNatClampNeg (t5.1 - 1)) t20) fun z22 =>
                  K12 (t5.1, z22)) fun K21 =>
                if x19 = 0 then (
                  K21 1)
                else (
                  K21 0))
              else (
                if x10 = 4 then (
                  ck (ib (t5.1 - 1) 170) <| bn (t5.2.2.2 33 (Int32.toNatClampNeg (t5.1 - 1))) fun x24 =>
                  ck (ib (t5.1 - 1) 170) <| bn (ap t5.2.2 33 (Int32.toNatClampNeg (t5.1 - 1)) (-x24)) fun z25 =>
                  K12 (t5.1, z25))
                else (
                  ck (ib t5.2.1 1190) <| bn (t5.2.2.2 23 (Int32.toNatClampNeg t5.2.1)) fun x26 =>
                  ck (ib (t5.1 - 2) 170) <| bn (t5.2.2.2 33 (Int32.toNatClampNeg (t5.1 - 2))) fun x27 =>
                  ck (ib (t5.1 - 1) 170) <| bn (t5.2.2.2 33 (Int32.toNatClampNeg (t5.1 - 1))) fun x28 =>
                  cl (f_X8_twoOf n x26 x27 x28) fun q29 =>
                  ck (ib (t5.1 - 2) 170) <| bn (ap t5.2.2 33 (Int32.toNatClampNeg (t5.1 - 2)) q29) fun z30 =>
                  K12 ((t5.1 + (-1)), z30))))))) n (0, x4, s0)) fun K3 =>
    if a1 = 0 then (
      K3 0)
    else (
      ck (ib (((3 * (s0.1 22)) + a1) - 1) 21) <| bn (s0.2 25 (Int32.toNatClampNeg (((3 * (s0.1 22)) + a1) - 1))) fun x32 =>
      K3 x32))
def f_X8_waitingNow (n : Nat) (s0 : MS) : Option (Int32) :=
  lp (fun K2 (t1 : Int32 × Int32) =>
    if (120 * (s0.1 1)) ≤ t1.2 then (
      some t1.1)
    else (
      ck (ib t1.2 720) <| bn (s0.2 39 (Int32.toNatClampNeg t1.2)) fun x4 =>
      bn (t1.1 + x4) fun x5 =>
      K2 (x5, (t1.2 + 1)))) n (0, 0)
def f_X8_findFacts (n : Nat) (a1 : Int32) (a2 : Int32) (a3 : Int32) (a4 : Int32) (a5 : Int32) (s0 : MS) : Option (MS) :=
  jn (fun (t1 : Int32) =>
    ck (ib 0 6) <| bn (ap s0 34 (Int32.toNatClampNeg 0) t1) fun z3 =>
    ck (ib 1 6) <| bn (ap z3 34 (Int32.toNatClampNeg 1) a4) fun z4 =>
    ck (ib 2 6) <| bn (ap z4 34 (Int32.toNatClampNeg 2) a5) fun z5 =>
    cl (f_X8_asks n a1 a3 z5) fun q6 =>
    ck (ib 3 6) <| bn (ap z5 34 (Int32.toNatClampNeg 3) q6) fun z7 =>
    jn (fun (t8 : Int32) =>
      ck (ib 4 6) <| bn (ap z7 34 (Int32.toNatClampNeg 4) t8) fun z10 =>
      ck (ib a3 120) <| bn (z10.2 14 (Int32.toNatClampNeg a3)) fun x11 =>
      ck (ib 5 6) <| bn (ap z10 34 (Int32.toNatClampNeg 5) x11) fun z12 =>
      some z12) fun K9 =>
    if (z7.1 1) = 0 then (
      K9 0)
    else (
      ck (ib a2 6) <| bn (z7.2 5 (Int32.toNatClampNeg a2)) fun x14 =>
      cl (f_X8_calls n a1 a3 z7) fun q15 =>
      ck (nz 10) <|
      K9 ((x14 * q15) / 10))) fun K2 =>
  if (s0.1 1) = 0 then (
    K2 0)
  else (
    ck (ib a2 6) <| bn (s0.2 37 (Int32.toNatClampNeg a2)) fun x17 =>
    K2 x17)
def f_X8_goes (n : Nat) (a1 : Int32) (a2 : Int32) (s0 : MS) : Option (Int32) :=
  ck (ib a1 24) <| bn (s0.2 9 (Int32.toNatClampNeg a1)) fun x1 =>
  if a2 < x1 then (
    ck (isz 0) <| some 0)
  else (
    ck (ib a1 24) <| bn (s0.2 9 (Int32.toNatClampNeg a1)) fun x3 =>
    ck (ib a1 24) <| bn (s0.2 8 (Int32.toNatClampNeg a1)) fun x4 =>
    ck (nz x4) <|
    if ((a2 - x3) - (a2 - x3) / x4 * x4) = 0 then (
      cl (f_X8_isShut n a2 s0) fun q6 =>
      if q6 = 0 then (
        ck (isz 1) <| some 1)
      else (
        ck (isz 0) <| some 0))
    else (
      ck (isz 0) <| some 0))
def f_X8_isAhead (n : Nat) (a1 : Int32) (a2 : Int32) (a3 : Int32) (a4 : Int32) (a5 : Int32) (s0 : MS) : Option (Int32) :=
  jn (fun (t1 : Unit) =>
    jn (fun (t3 : Unit) =>
      if a3 = a5 then (
        if a4 ≤ a2 then (
          ck (isz 0) <| some 0)
        else (
          ck (isz 1) <| some 1))
      else (
        if a5 ≤ a3 then (
          ck (isz 0) <| some 0)
        else (
          ck (isz 1) <| some 1))) fun K4 =>
    if a1 = 2 then (
      if a2 = a4 then (
        K4 ())
      else (
        if a4 ≤ a2 then (
          ck (isz 0) <| some 0)
        else (
          ck (isz 1) <| some 1)))
    else (
      K4 ())) fun K2 =>
  if a1 = 1 then (
    ck (ib a2 6) <| bn (s0.2 3 (Int32.toNatClampNeg a2)) fun x12 =>
    ck (ib a4 6) <| bn (s0.2 3 (Int32.toNatClampNeg a4)) fun x13 =>
    if x12 = x13 then (
      K2 ())
    else (
      ck (ib a2 6) <| bn (s0.2 3 (Int32.toNatClampNeg a2)) fun x15 =>
      ck (ib a4 6) <| bn (s0.2 3 (Int32.toNatClampNeg a4)) fun x16 =>
      if x15 ≤ x16 then (
        ck (isz 0) <| some 0)
      else (
        ck (isz 1) <| some 1)))
  else (
    K2 ())
def f_X8_load (n : Nat) (a1 : Int32) (a2 : Int32) (a3 : Int32) (a4 : Int32) (s0 : MS) : Option (MS) :=
  lp (fun K2 (t1 : Int32 × MS) =>
    if t1.1 ≤ 0 then (
      some t1.2)
    else (
      lp (fun K5 (t4 : Int32 × Int32) =>
        if (120 * (t1.2.1 1)) ≤ t4.2 then (
          if 0 ≤ t4.1 then (
            ck (ib t4.1 720) <| bn (t1.2.2 39 (Int32.toNatClampNeg t4.1)) fun x8 =>
            jn (fun (t9 : Int32) =>
              ck (ib t4.1 720) <| bn (t1.2.2 39 (Int32.toNatClampNeg t4.1)) fun x11 =>
              ck (ib t4.1 720) <| bn (ap t1.2 39 (Int32.toNatClampNeg t4.1) (x11 - t9)) fun z12 =>
              ck (nz 120) <|
              ck (ib (t4.1 / 120) 6) <| bn (z12.2 42 (Int32.toNatClampNeg (t4.1 / 120))) fun x13 =>
              ck (ib (t4.1 / 120) 6) <| bn (ap z12 42 (Int32.toNatClampNeg (t4.1 / 120)) (x13 + t9)) fun z14 =>
              ck (ib a1 24) <| bn (z14.2 40 (Int32.toNatClampNeg a1)) fun x15 =>
              ck (ib a1 24) <| bn (ap z14 40 (Int32.toNatClampNeg a1) (x15 + t9)) fun z16 =>
              bn (t1.1 - t9) fun x17 =>
              K2 (x17, z16)) fun K10 =>
            if t1.1 ≤ x8 then (
              K10 t1.1)
            else (
              ck (ib t4.1 720) <| bn (t1.2.2 39 (Int32.toNatClampNeg t4.1)) fun x19 =>
              K10 x19))
          else (
            some t1.2))
        else (
          ck (ib t4.2 720) <| bn (t1.2.2 39 (Int32.toNatClampNeg t4.2)) fun x20 =>
          jn (fun (t21 : Int32) =>
            K5 (t21, (t4.2 + 1))) fun K22 =>
          if x20 ≤ 0 then (
            K22 t4.1)
          else (
            jn (fun (t24 : Unit) =>
              K22 t4.2) fun K25 =>
            if t4.1 < 0 then (
              K25 ())
            else (
              ck (nz 120) <|
              ck (nz 120) <|
              ck (nz 120) <|
              ck (nz 120) <|
              cl (f_X8_isAhead n a3 (t4.2 / 120) (t4.2 - t4.2 / 120 * 120) (t4.1 / 120) (t4.1 - t4.1 / 120 * 120) t1.2) fun q27 =>
              if q27 = 0 then (
                K22 t4.1)
              else (
                K25 ()))))) n ((-1), 0))) n (a2, s0)
def f_X8_goMinute (n : Nat) (a1 : Int32) (a2 : Int32) (s0 : MS) : Option (MS) :=
  cl (f_X8_waitingNow n s0) fun q1 =>
  lp (fun K3 (t2 : Int32 × MS) =>
    if (t2.2.1 1) ≤ t2.1 then (
      lp (fun K6 (t5 : Int32 × MS) =>
        if (t5.2.1 1) ≤ t5.1 then (
          lp (fun K9 (t8 : Int32 × MS) =>
            if (t8.2.1 45) ≤ t8.1 then (
              cl (f_X8_waitingNow n t8.2) fun q11 =>
              jn (fun (t12 : MS) =>
                lp (fun K15 (t14 : Int32 × MS) =>
                  if (t14.2.1 1) ≤ t14.1 then (
                    some t14.2)
                  else (
                    ck (ib t14.1 6) <| bn (t14.2.2 42 (Int32.toNatClampNeg t14.1)) fun x17 =>
                    ck (ib ((120 * t14.1) + a2) 720) <| bn (ap t14.2 41 (Int32.toNatClampNeg ((120 * t14.1) + a2)) x17) fun z18 =>
                    K15 ((t14.1 + 1), z18))) n (0, t12)) fun K13 =>
              if q11 ≤ (t8.2.1 43) then (
                K13 t8.2)
              else (
                bn (sp t8.2 43 q11) fun z20 =>
                bn (sp z20 44 a2) fun z21 =>
                K13 z21))
            else (
              cl (f_X8_goes n t8.1 a2 t8.2) fun q22 =>
              jn (fun (t23 : MS) =>
                K9 ((t8.1 + 1), t23)) fun K24 =>
              if q22 = 0 then (
                K24 t8.2)
              else (
                cl (f_X8_waitingNow n t8.2) fun q26 =>
                cl (f_X8_findFacts n a1 0 a2 q26 ((t8.2.1 15) - a2) t8.2) fun q27 =>
                ck (ib t8.1 24) <| bn (q27.2 7 (Int32.toNatClampNeg t8.1)) fun x28 =>
                cl (f_X8_gives n 1 q27) fun q29 =>
                cl (f_X8_held n q29.1 0 60) fun q30 =>
                bn (x28 - q30) fun x31 =>
                if x31 ≤ 0 then (
                  K24 q29.2)
                else (
                  cl (f_X8_orderOf n a1 q29.2) fun q33 =>
                  cl (f_X8_load n t8.1 x31 q33 a2 q29.2) fun q34 =>
                  K24 q34)))) n (0, t5.2))
        else (
          ck (ib ((120 * t5.1) + a2) 720) <| bn (t5.2.2 39 (Int32.toNatClampNeg ((120 * t5.1) + a2))) fun x35 =>
          ck (ib ((160 * t5.1) + a2) 960) <| bn (t5.2.2 38 (Int32.toNatClampNeg ((160 * t5.1) + a2))) fun x36 =>
          ck (ib ((120 * t5.1) + a2) 720) <| bn (ap t5.2 39 (Int32.toNatClampNeg ((120 * t5.1) + a2)) (x35 + x36)) fun z37 =>
          ck (ib ((160 * t5.1) + a2) 960) <| bn (ap z37 38 (Int32.toNatClampNeg ((160 * t5.1) + a2)) 0) fun z38 =>
          K6 ((t5.1 + 1), z38))) n (0, t2.2))
    else (
      cl (f_X8_findFacts n a1 t2.1 a2 q1 ((t2.2.1 15) - a2) t2.2) fun q39 =>
      ck (ib t2.1 6) <| bn (q39.2 37 (Int32.toNatClampNeg t2.1)) fun x40 =>
      ck (ib t2.1 6) <| bn (q39.2 4 (Int32.toNatClampNeg t2.1)) fun x41 =>
      ck (nz x41) <|
      cl (f_X8_gives n 0 q39) fun q42 =>
      cl (f_X8_held n q42.1 (-99) 400) fun q43 =>
      ck (ib t2.1 6) <| bn (q42.2.2 37 (Int32.toNatClampNeg t2.1)) fun x44 =>
      cl (f_X8_held n ((x40 / x41) + q43) 0 x44) fun q45 =>
      ck (ib t2.1 6) <| bn (q42.2.2 37 (Int32.toNatClampNeg t2.1)) fun x46 =>
      ck (ib t2.1 6) <| bn (ap q42.2 37 (Int32.toNatClampNeg t2.1) (x46 - q45)) fun z47 =>
      ck (ib t2.1 6) <| bn (z47.2 3 (Int32.toNatClampNeg t2.1)) fun x48 =>
      ck (ib (((160 * t2.1) + a2) + x48) 960) <| bn (z47.2 38 (Int32.toNatClampNeg (((160 * t2.1) + a2) + x48))) fun x49 =>
      ck (ib (((160 * t2.1) + a2) + x48) 960) <| bn (ap z47 38 (Int32.toNatClampNeg (((160 * t2.1) + a2) + x48)) (x49 + q45)) fun z50 =>
      K3 ((t2.1 + 1), z50))) n (0, s0)
def f_X8_day (n : Nat) (a1 : Int32) (a2 : Int32) (s0 : MS) : Option (MS) :=
  bn (sp s0 45 a2) fun z1 =>
  bn (sp z1 43 0) fun z2 =>
  bn (sp z2 44 0) fun z3 =>
  lp (fun K5 (t4 : Int32 × MS) =>
    if 960 ≤ t4.1 then (
      lp (fun K8 (t7 : Int32 × MS) =>
        if 720 ≤ t7.1 then (
          lp (fun K11 (t10 : Int32 × MS) =>
            if 24 ≤ t10.1 then (
              lp (fun K14 (t13 : Int32 × MS) =>
                if (t13.2.1 1) ≤ t13.1 then (
                  lp (fun K17 (t16 : Int32 × MS) =>
                    if (t16.2.1 15) ≤ t16.1 then (
                      some t16.2)
                    else (
                      cl (f_X8_goMinute n a1 t16.1 t16.2) fun q19 =>
                      K17 ((t16.1 + 1), q19))) n (0, t13.2))
                else (
                  ck (ib t13.1 6) <| bn (t13.2.2 2 (Int32.toNatClampNeg t13.1)) fun x20 =>
                  ck (ib t13.1 6) <| bn (ap t13.2 37 (Int32.toNatClampNeg t13.1) x20) fun z21 =>
                  ck (ib t13.1 6) <| bn (ap z21 42 (Int32.toNatClampNeg t13.1) 0) fun z22 =>
                  K14 ((t13.1 + 1), z22))) n (0, t10.2))
            else (
              ck (ib t10.1 24) <| bn (ap t10.2 40 (Int32.toNatClampNeg t10.1) 0) fun z23 =>
              K11 ((t10.1 + 1), z23))) n (0, t7.2))
        else (
          ck (ib t7.1 720) <| bn (ap t7.2 39 (Int32.toNatClampNeg t7.1) 0) fun z24 =>
          K8 ((t7.1 + 1), z24))) n (0, t4.2))
    else (
      ck (ib t4.1 960) <| bn (ap t4.2 38 (Int32.toNatClampNeg t4.1) 0) fun z25 =>
      K5 ((t4.1 + 1), z25))) n (0, z3)
def f_X8_leftOf (n : Nat) (a1 : Int32) (s0 : MS) : Option (Int32) :=
  ck (ib a1 6) <| bn (s0.2 2 (Int32.toNatClampNeg a1)) fun x1 =>
  ck (ib a1 6) <| bn (s0.2 42 (Int32.toNatClampNeg a1)) fun x2 =>
  some (x1 - x2)
def f_X8_leftOfAll (n : Nat) (s0 : MS) : Option (Int32) :=
  lp (fun K2 (t1 : Int32 × Int32) =>
    if (s0.1 1) ≤ t1.2 then (
      some t1.1)
    else (
      cl (f_X8_leftOf n t1.2 s0) fun q4 =>
      bn (t1.1 + q4) fun x5 =>
      K2 (x5, (t1.2 + 1)))) n (0, 0)
def f_X8_left (n : Nat) (a1 : Int32) (a2 : Int32) (s0 : MS) : Option (Int32 × MS) :=
  cl (f_X8_isWay n a1 s0) fun q1 =>
  if q1 = 0 then (
    some ((-2), s0))
  else (
    jn (fun (t3 : Unit) =>
      cl (f_X8_day n a1 (s0.1 6) s0) fun q5 =>
      if a2 = (-1) then (
        cl (f_X8_leftOfAll n q5) fun q8 =>
        some (q8, q5))
      else (
        cl (f_X8_leftOf n a2 q5) fun q7 =>
        some (q7, q5))) fun K4 =>
    if a2 = (-1) then (
      K4 ())
    else (
      cl (f_X8_isSort n a2 s0) fun q10 =>
      if q10 = 0 then (
        some ((-2), s0))
      else (
        K4 ())))
def f_X8_harmOf (n : Nat) (a1 : Int32) (s0 : MS) : Option (Int64 × MS) :=
  cl (f_X8_day n a1 (s0.1 6) s0) fun q1 =>
  cl (f_X8_waitingNow n q1) fun q2 =>
  lp (fun K4 (t3 : Int64 × Int32 × MS) =>
    if (t3.2.2.1 1) ≤ t3.2.1 then (
      some (t3.1, t3.2.2))
    else (
      lp (fun K7 (t6 : Int32 × MS) =>
        if 6 ≤ t6.1 then (
          ck (ib t3.2.1 6) <| bn (t6.2.2 37 (Int32.toNatClampNeg t3.2.1)) fun x9 =>
          ck (ib 0 6) <| bn (ap t6.2 34 (Int32.toNatClampNeg 0) x9) fun z10 =>
          ck (ib 1 6) <| bn (ap z10 34 (Int32.toNatClampNeg 1) q2) fun z11 =>
          cl (f_X8_gives n 2 z11) fun q12 =>
          cl (f_X8_held n q12.1 0 99) fun q13 =>
          cl (f_X8_leftOf n t3.2.1 q12.2) fun q14 =>
          bn (t3.1 + ((Int32.toInt64 q13) * (Int32.toInt64 q14))) fun x15 =>
          K4 (x15, (t3.2.1 + 1), q12.2))
        else (
          ck (ib t6.1 6) <| bn (ap t6.2 34 (Int32.toNatClampNeg t6.1) 0) fun z16 =>
          K7 ((t6.1 + 1), z16))) n (0, t3.2.2))) n (0, 0, q1)
def f_X8_harm (n : Nat) (a1 : Int32) (s0 : MS) : Option (Int64 × MS) :=
  cl (f_X8_isWay n a1 s0) fun q1 =>
  if q1 = 0 then (
    some ((-4611686018427387904), s0))
  else (
    cl (f_X8_harmOf n a1 s0) fun q3 =>
    some (q3.1, q3.2))
def f_X8_rode (n : Nat) (a1 : Int32) (a2 : Int32) (s0 : MS) : Option (Int32 × MS) :=
  cl (f_X8_isWay n a1 s0) fun q1 =>
  if q1 = 0 then (
    some ((-2), s0))
  else (
    jn (fun (t3 : Unit) =>
      cl (f_X8_day n a1 (s0.1 6) s0) fun q5 =>
      lp (fun K7 (t6 : Int32 × Int32) =>
        if (q5.1 6) ≤ t6.2 then (
          some (t6.1, q5))
        else (
          jn (fun (t9 : Int32) =>
            K7 (t9, (t6.2 + 1))) fun K10 =>
          jn (fun (t11 : Unit) =>
            ck (ib t6.2 24) <| bn (q5.2 40 (Int32.toNatClampNeg t6.2)) fun x13 =>
            bn (t6.1 + x13) fun x14 =>
            K10 x14) fun K12 =>
          if a2 = (-1) then (
            K12 ())
          else (
            if t6.2 = a2 then (
              K12 ())
            else (
              K10 t6.1)))) n (0, 0)) fun K4 =>
    if a2 = (-1) then (
      K4 ())
    else (
      cl (f_X8_in n a2 0 ((s0.1 6) - 1)) fun q18 =>
      if q18 = 0 then (
        some ((-2), s0))
      else (
        K4 ())))
def f_X8_waits (n : Nat) (a1 : Int32) (a2 : Int32) (s0 : MS) : Option (Int32 × MS) :=
  cl (f_X8_isWay n a1 s0) fun q1 =>
  if q1 = 0 then (
    some ((-2), s0))
  else (
    cl (f_X8_in n a2 0 1) fun q3 =>
    if q3 = 0 then (
      some ((-2), s0))
    else (
      cl (f_X8_day n a1 (s0.1 6) s0) fun q5 =>
      if a2 = 0 then (
        some ((q5.1 43), q5))
      else (
        some ((q5.1 44), q5))))
def f_X8_down (n : Nat) (a1 : Int32) (a2 : Int32) (a3 : Int32) (s0 : MS) : Option (Int32 × MS) :=
  cl (f_X8_isWay n a1 s0) fun q1 =>
  if q1 = 0 then (
    some ((-2), s0))
  else (
    jn (fun (t3 : Unit) =>
      cl (f_X8_in n a3 0 ((s0.1 15) - 1)) fun q5 =>
      if q5 = 0 then (
        some ((-2), s0))
      else (
        cl (f_X8_day n a1 (s0.1 6) s0) fun q7 =>
        lp (fun K9 (t8 : Int32 × Int32) =>
          if (q7.1 1) ≤ t8.2 then (
            some (t8.1, q7))
          else (
            jn (fun (t11 : Int32) =>
              K9 (t11, (t8.2 + 1))) fun K12 =>
            jn (fun (t13 : Unit) =>
              ck (ib ((120 * t8.2) + a3) 720) <| bn (q7.2 41 (Int32.toNatClampNeg ((120 * t8.2) + a3))) fun x15 =>
              bn (t8.1 + x15) fun x16 =>
              K12 x16) fun K14 =>
            if a2 = (-1) then (
              K14 ())
            else (
              if t8.2 = a2 then (
                K14 ())
              else (
                K12 t8.1)))) n (0, 0))) fun K4 =>
    if a2 = (-1) then (
      K4 ())
    else (
      cl (f_X8_isSort n a2 s0) fun q20 =>
      if q20 = 0 then (
        some ((-2), s0))
      else (
        K4 ())))
def f_X8_behind (n : Nat) (a1 : Int32) (a2 : Int32) (s0 : MS) : Option (Int32 × MS) :=
  cl (f_X8_isWay n a1 s0) fun q1 =>
  if q1 = 0 then (
    some ((-2), s0))
  else (
    cl (f_X8_in n a2 0 2400) fun q3 =>
    if q3 = 0 then (
      some ((-2), s0))
    else (
      cl (f_X8_day n a1 (s0.1 6) s0) fun q5 =>
      lp (fun K7 (t6 : Int32) =>
        if (q5.1 15) ≤ t6 then (
          some ((-1), q5))
        else (
          lp (fun K10 (t9 : Int32 × Int32) =>
            if (q5.1 1) ≤ t9.2 then (
              if t9.1 < a2 then (
                K7 (t6 + 1))
              else (
                some (t6, q5)))
            else (
              ck (ib ((120 * t9.2) + t6) 720) <| bn (q5.2 41 (Int32.toNatClampNeg ((120 * t9.2) + t6))) fun x13 =>
              bn (t9.1 + x13) fun x14 =>
              K10 (x14, (t9.2 + 1)))) n (0, 0))) n 0))
def f_X8_latest (n : Nat) (a1 : Int32) (a2 : Int32) (s0 : MS) : Option (Int32 × MS) :=
  cl (f_X8_isWay n a1 s0) fun q1 =>
  if q1 = 0 then (
    some ((-2), s0))
  else (
    cl (f_X8_in n a2 0 2400) fun q3 =>
    if q3 = 0 then (
      some ((-2), s0))
    else (
      ck (ib a1 8) <| bn (s0.2 12 (Int32.toNatClampNeg a1)) fun x5 =>
      bn ((s0.1 15) - 1) fun x6 =>
      lp (fun K8 (t7 : Int32 × Int32 × MS) =>
        jn (fun (t9 : Unit) =>
          ck (ib a1 8) <| bn (ap t7.2.2 12 (Int32.toNatClampNeg a1) x5) fun z11 =>
          some (t7.1, z11)) fun K10 =>
        if t7.2.1 < 0 then (
          K10 ())
        else (
          if 0 ≤ t7.1 then (
            K10 ())
          else (
            ck (ib a1 8) <| bn (ap t7.2.2 12 (Int32.toNatClampNeg a1) t7.2.1) fun z14 =>
            cl (f_X8_day n a1 (z14.1 6) z14) fun q15 =>
            cl (f_X8_leftOfAll n q15) fun q16 =>
            jn (fun (t17 : Int32) =>
              K8 (t17, (t7.2.1 + (-1)), q15)) fun K18 =>
            if a2 < q16 then (
              K18 t7.1)
            else (
              K18 t7.2.1)))) n ((-1), x6, s0)))
def f_X8_more (n : Nat) (a1 : Int32) (a2 : Int32) (s0 : MS) : Option (Int32 × MS) :=
  cl (f_X8_isWay n a1 s0) fun q1 =>
  if q1 = 0 then (
    some ((-2), s0))
  else (
    cl (f_X8_in n a2 0 2400) fun q3 =>
    if q3 = 0 then (
      some ((-2), s0))
    else (
      if (s0.1 6) = 0 then (
        some ((-2), s0))
      else (
        lp (fun K7 (t6 : Int32 × MS) =>
          if 20 < t6.1 then (
            some ((-1), t6.2))
          else (
            jn (fun (t9 : MS) =>
              cl (f_X8_day n a1 ((t9.1 6) + t6.1) t9) fun q11 =>
              cl (f_X8_leftOfAll n q11) fun q12 =>
              if a2 < q12 then (
                K7 ((t6.1 + 1), q11))
              else (
                some (t6.1, q11))) fun K10 =>
            if t6.1 ≤ 0 then (
              K10 t6.2)
            else (
              ck (ib 0 24) <| bn (t6.2.2 7 (Int32.toNatClampNeg 0)) fun x15 =>
              ck (ib (((t6.2.1 6) + t6.1) - 1) 24) <| bn (ap t6.2 7 (Int32.toNatClampNeg (((t6.2.1 6) + t6.1) - 1)) x15) fun z16 =>
              ck (ib 0 24) <| bn (z16.2 8 (Int32.toNatClampNeg 0)) fun x17 =>
              ck (ib (((z16.1 6) + t6.1) - 1) 24) <| bn (ap z16 8 (Int32.toNatClampNeg (((z16.1 6) + t6.1) - 1)) x17) fun z18 =>
              ck (ib 0 24) <| bn (z18.2 9 (Int32.toNatClampNeg 0)) fun x19 =>
              ck (ib (((z18.1 6) + t6.1) - 1) 24) <| bn (ap z18 9 (Int32.toNatClampNeg (((z18.1 6) + t6.1) - 1)) x19) fun z20 =>
              K10 z20))) n (0, s0))))
def f_X8_choose (n : Nat) (a1 : Int32) (s0 : MS) : Option (Int64 × MS) :=
  cl (f_X8_in n a1 0 1) fun q1 =>
  if q1 = 0 then (
    some ((-4611686018427387904), s0))
  else (
    if (s0.1 10) = 0 then (
      some ((-4611686018427387904), s0))
    else (
      lp (fun K5 (t4 : Int32 × Int64 × Int32 × MS) =>
        if (t4.2.2.2.1 10) ≤ t4.2.2.1 then (
          if a1 = 0 then (
            some ((Int32.toInt64 t4.1), t4.2.2.2))
          else (
            some (t4.2.1, t4.2.2.2)))
        else (
          cl (f_X8_harmOf n t4.2.2.1 t4.2.2.2) fun q8 =>
          jn (fun (t9 : Int32 × Int64) =>
            K5 (t9.1, t9.2, (t4.2.2.1 + 1), q8.2)) fun K10 =>
          jn (fun (t11 : Unit) =>
            K10 (t4.2.2.1, q8.1)) fun K12 =>
          if t4.2.2.1 ≤ 0 then (
            K12 ())
          else (
            if (lg_cmp q8.1 t4.2.1) < 0 then (
              K12 ())
            else (
              K10 (t4.1, t4.2.1))))) n (0, 0, 0, s0)))
def f_X8_must (n : Nat) (s0 : MS) : Option (Int32) :=
  lp (fun K2 (t1 : Int32 × Int32) =>
    if (s0.1 6) ≤ t1.2 then (
      lp (fun K5 (t4 : Int32 × Int32) =>
        if (s0.1 1) ≤ t4.2 then (
          some t4.1)
        else (
          ck (ib t4.2 6) <| bn (s0.2 2 (Int32.toNatClampNeg t4.2)) fun x7 =>
          bn (t4.1 - x7) fun x8 =>
          K5 (x8, (t4.2 + 1)))) n (t1.1, 0))
    else (
      lp (fun K10 (t9 : Int32 × Int32) =>
        if (s0.1 15) ≤ t9.2 then (
          K2 (t9.1, (t1.2 + 1)))
        else (
          cl (f_X8_goes n t1.2 t9.2 s0) fun q12 =>
          jn (fun (t13 : Int32) =>
            K10 (t13, (t9.2 + 1))) fun K14 =>
          if q12 = 0 then (
            K14 t9.1)
          else (
            ck (ib t1.2 24) <| bn (s0.2 7 (Int32.toNatClampNeg t1.2)) fun x16 =>
            bn (t9.1 + x16) fun x17 =>
            K14 x17))) n (t1.1, 0))) n (0, 0)
def f_X8_latestUp (n : Nat) (a1 : Int32) (s0 : MS) : Option (Int32) :=
  cl (f_X8_isSort n a1 s0) fun q1 =>
  if q1 = 0 then (
    some (-2))
  else (
    lp (fun K4 (t3 : Int32 × Int32) =>
      if (s0.1 6) ≤ t3.2 then (
        ck (ib a1 6) <| bn (s0.2 3 (Int32.toNatClampNeg a1)) fun x6 =>
        if x6 ≤ t3.1 then (
          ck (ib a1 6) <| bn (s0.2 3 (Int32.toNatClampNeg a1)) fun x8 =>
          some (t3.1 - x8))
        else (
          some (-1)))
      else (
        lp (fun K10 (t9 : Int32 × Int32) =>
          if (s0.1 15) ≤ t9.2 then (
            K4 (t9.1, (t3.2 + 1)))
          else (
            cl (f_X8_goes n t3.2 t9.2 s0) fun q12 =>
            jn (fun (t13 : Int32) =>
              K10 (t13, (t9.2 + 1))) fun K14 =>
            if q12 = 0 then (
              K14 t9.1)
            else (
              if t9.2 ≤ t9.1 then (
                K14 t9.1)
              else (
                K14 t9.2)))) n (t3.1, 0))) n ((-1), 0))
def f_X8_isSheet (n : Nat) (a1 : Int32) : Option (Int32) :=
  cl (f_X8_in n a1 0 3) fun q1 =>
  ck (isz q1) <| some q1
def f_X8_judge (n : Nat) (a1 : Int32) (s0 : MS) : Option (Int32 × MS) :=
  cl (f_X8_isSheet n a1) fun q1 =>
  if q1 = 0 then (
    some ((-2), s0))
  else (
    ck (ib a1 4) <| bn (s0.2 57 (Int32.toNatClampNeg a1)) fun x3 =>
    if 0 ≤ x3 then (
      lp (fun K6 (t5 : Int32) =>
        ck (ib a1 4) <| bn (s0.2 58 (Int32.toNatClampNeg a1)) fun x7 =>
        if x7 ≤ t5 then (
          bn (sp s0 18 a1) fun z9 =>
          cl (f_X8_day n 0 (z9.1 6) z9) fun q10 =>
          bn (sp q10 18 (-1)) fun z11 =>
          cl (f_X8_leftOfAll n z11) fun q12 =>
          some (q12, z11))
        else (
          ck (ib ((40 * a1) + t5) 160) <| bn (s0.2 59 (Int32.toNatClampNeg ((40 * a1) + t5))) fun x13 =>
          cl (f_X8_in n x13 0 99) fun q14 =>
          if q14 = 0 then (
            some ((-2), s0))
          else (
            K6 (t5 + 1)))) n 0)
    else (
      some ((-11), s0)))
def f_X8_image (n : Nat) (s0 : MS) : Option (Int32 × MS) :=
  bn (sp s0 46 1) fun z1 =>
  bn (sp z1 47 (z1.1 15)) fun z2 =>
  bn (sp z2 48 (z2.1 16)) fun z3 =>
  bn (sp z3 49 (z3.1 17)) fun z4 =>
  bn (sp z4 50 (z4.1 22)) fun z5 =>
  bn (sp z5 51 (z5.1 1)) fun z6 =>
  lp (fun K8 (t7 : Int32 × MS) =>
    if 6 ≤ t7.1 then (
      lp (fun K11 (t10 : Int32 × MS) =>
        if 120 ≤ t10.1 then (
          some ((t10.2.1 1), t10.2))
        else (
          ck (ib t10.1 120) <| bn (t10.2.2 14 (Int32.toNatClampNeg t10.1)) fun x13 =>
          ck (ib t10.1 120) <| bn (ap t10.2 56 (Int32.toNatClampNeg t10.1) x13) fun z14 =>
          K11 ((t10.1 + 1), z14))) n (0, t7.2))
    else (
      ck (ib t7.1 6) <| bn (t7.2.2 2 (Int32.toNatClampNeg t7.1)) fun x15 =>
      ck (ib t7.1 6) <| bn (ap t7.2 52 (Int32.toNatClampNeg t7.1) x15) fun z16 =>
      ck (ib t7.1 6) <| bn (z16.2 3 (Int32.toNatClampNeg t7.1)) fun x17 =>
      ck (ib t7.1 6) <| bn (ap z16 53 (Int32.toNatClampNeg t7.1) x17) fun z18 =>
      ck (ib t7.1 6) <| bn (z18.2 4 (Int32.toNatClampNeg t7.1)) fun x19 =>
      ck (ib t7.1 6) <| bn (ap z18 54 (Int32.toNatClampNeg t7.1) x19) fun z20 =>
      ck (ib t7.1 6) <| bn (z20.2 5 (Int32.toNatClampNeg t7.1)) fun x21 =>
      ck (ib t7.1 6) <| bn (ap z20 55 (Int32.toNatClampNeg t7.1) x21) fun z22 =>
      K8 ((t7.1 + 1), z22))) n (0, z6)
def f_X8_back (n : Nat) (s0 : MS) : Option (Int32 × MS) :=
  if (s0.1 46) = 0 then (
    some ((-3), s0))
  else (
    bn (sp s0 15 (s0.1 47)) fun z2 =>
    bn (sp z2 16 (z2.1 48)) fun z3 =>
    bn (sp z3 17 (z3.1 49)) fun z4 =>
    bn (sp z4 22 (z4.1 50)) fun z5 =>
    lp (fun K7 (t6 : Int32 × MS) =>
      if (t6.2.1 51) ≤ t6.1 then (
        lp (fun K10 (t9 : Int32 × MS) =>
          if 120 ≤ t9.1 then (
            some ((t9.2.1 1), t9.2))
          else (
            ck (ib t9.1 120) <| bn (t9.2.2 56 (Int32.toNatClampNeg t9.1)) fun x12 =>
            ck (ib t9.1 120) <| bn (ap t9.2 14 (Int32.toNatClampNeg t9.1) x12) fun z13 =>
            K10 ((t9.1 + 1), z13))) n (0, t6.2))
      else (
        ck (ib t6.1 6) <| bn (t6.2.2 52 (Int32.toNatClampNeg t6.1)) fun x14 =>
        ck (ib t6.1 6) <| bn (ap t6.2 2 (Int32.toNatClampNeg t6.1) x14) fun z15 =>
        ck (ib t6.1 6) <| bn (z15.2 53 (Int32.toNatClampNeg t6.1)) fun x16 =>
        ck (ib t6.1 6) <| bn (ap z15 3 (Int32.toNatClampNeg t6.1) x16) fun z17 =>
        ck (ib t6.1 6) <| bn (z17.2 54 (Int32.toNatClampNeg t6.1)) fun x18 =>
        ck (ib t6.1 6) <| bn (ap z17 4 (Int32.toNatClampNeg t6.1) x18) fun z19 =>
        ck (ib t6.1 6) <| bn (z19.2 55 (Int32.toNatClampNeg t6.1)) fun x20 =>
        ck (ib t6.1 6) <| bn (ap z19 5 (Int32.toNatClampNeg t6.1) x20) fun z21 =>
        K7 ((t6.1 + 1), z21))) n (0, z5))
def f_X8_allUp (n : Nat) (s0 : MS) : Option (Int32) :=
  lp (fun K2 (t1 : Int32 × Int32) =>
    if (s0.1 1) ≤ t1.2 then (
      some t1.1)
    else (
      ck (ib t1.2 6) <| bn (s0.2 2 (Int32.toNatClampNeg t1.2)) fun x4 =>
      bn (t1.1 + x4) fun x5 =>
      K2 (x5, (t1.2 + 1)))) n (0, 0)
def f_X8_count (n : Nat) (a1 : Int32) (s0 : MS) : Option (Int32) :=
  if a1 = 0 then (
    some (s0.1 1))
  else (
    if a1 = 1 then (
      some (s0.1 6))
    else (
      if a1 = 2 then (
        some (s0.1 10))
      else (
        if a1 = 3 then (
          some (s0.1 15))
        else (
          if a1 = 4 then (
            some (s0.1 21))
          else (
            if a1 = 5 then (
              some (s0.1 20))
            else (
              if a1 = 6 then (
                some (s0.1 22))
              else (
                if a1 = 7 then (
                  cl (f_X8_allUp n s0) fun q2 =>
                  some q2)
                else (
                  some (-2)))))))))
def f_X8_sheet (n : Nat) (a1 : Int32) (a2 : Int32) (a3 : Int32) (s0 : MS) : Option (Int32 × MS) :=
  cl (f_X8_isSheet n a1) fun q1 =>
  if q1 = 0 then (
    some ((-2), s0))
  else (
    cl (f_X8_in n a2 (-1) 2) fun q3 =>
    if q3 = 0 then (
      some ((-2), s0))
    else (
      if a2 = (-1) then (
        ck (ib a1 4) <| bn (ap s0 57 (Int32.toNatClampNeg a1) (-1)) fun z14 =>
        some (1, z14))
      else (
        if a3 ≤ 40 then (
          if 0 ≤ a3 then (
            ck (ib a1 4) <| bn (ap s0 57 (Int32.toNatClampNeg a1) a2) fun z8 =>
            ck (ib a1 4) <| bn (ap z8 58 (Int32.toNatClampNeg a1) a3) fun z9 =>
            lp (fun K11 (t10 : Int32 × MS) =>
              if a3 ≤ t10.1 then (
                some (1, t10.2))
              else (
                ck (ib ((40 * a1) + t10.1) 160) <| bn (ap t10.2 59 (Int32.toNatClampNeg ((40 * a1) + t10.1)) 0) fun z13 =>
                K11 ((t10.1 + 1), z13))) n (0, z9))
          else (
            some ((-14), s0)))
        else (
          some ((-2), s0)))))
def f_X8_cell (n : Nat) (a1 : Int32) (a2 : Int32) (a3 : Int32) (s0 : MS) : Option (Int32 × MS) :=
  cl (f_X8_isSheet n a1) fun q1 =>
  if q1 = 0 then (
    some ((-2), s0))
  else (
    ck (ib a1 4) <| bn (s0.2 57 (Int32.toNatClampNeg a1)) fun x3 =>
    if 0 ≤ x3 then (
      ck (ib a1 4) <| bn (s0.2 58 (Int32.toNatClampNeg a1)) fun x5 =>
      cl (f_X8_in n a2 0 (x5 - 1)) fun q6 =>
      if q6 = 0 then (
        some ((-12), s0))
      else (
        ck (ib a1 4) <| bn (s0.2 57 (Int32.toNatClampNeg a1)) fun x8 =>
        jn (fun (t9 : Int32) =>
          ck (ib ((40 * a1) + a2) 160) <| bn (ap s0 59 (Int32.toNatClampNeg ((40 * a1) + a2)) t9) fun z11 =>
          some (1, z11)) fun K10 =>
        if x8 = 0 then (
          K10 (Int8.toInt32 (Int32.toInt8 a3)))
        else (
          ck (ib a1 4) <| bn (s0.2 57 (Int32.toNatClampNeg a1)) fun x13 =>
          if x13 = 1 then (
            K10 (Int16.toInt32 (Int32.toInt16 a3)))
          else (
            K10 a3))))
    else (
      some ((-11), s0)))
def f_X8_copy (n : Nat) (a1 : Int32) (a2 : Int32) (a3 : Int32) (a4 : Int32) (a5 : Int32) (s0 : MS) : Option (Int32 × MS) :=
  cl (f_X8_isSheet n a1) fun q1 =>
  if q1 = 0 then (
    some ((-2), s0))
  else (
    cl (f_X8_isSheet n a3) fun q3 =>
    if q3 = 0 then (
      some ((-2), s0))
    else (
      ck (ib a1 4) <| bn (s0.2 57 (Int32.toNatClampNeg a1)) fun x5 =>
      if x5 < 0 then (
        some ((-11), s0))
      else (
        ck (ib a3 4) <| bn (s0.2 57 (Int32.toNatClampNeg a3)) fun x7 =>
        if 0 ≤ x7 then (
          ck (ib a1 4) <| bn (s0.2 57 (Int32.toNatClampNeg a1)) fun x9 =>
          ck (ib a3 4) <| bn (s0.2 57 (Int32.toNatClampNeg a3)) fun x10 =>
          if x9 = x10 then (
            if a5 < 0 then (
              some ((-12), s0))
            else (
              if a2 < 0 then (
                some ((-12), s0))
              else (
                if a4 < 0 then (
                  some ((-12), s0))
                else (
                  ck (ib a1 4) <| bn (s0.2 58 (Int32.toNatClampNeg a1)) fun x15 =>
                  if 0 < (lg_cmp ((Int32.toInt64 a2) + (Int32.toInt64 a5)) (Int32.toInt64 x15)) then (
                    some ((-12), s0))
                  else (
                    ck (ib a3 4) <| bn (s0.2 58 (Int32.toNatClampNeg a3)) fun x17 =>
                    if (lg_cmp ((Int32.toInt64 a4) + (Int32.toInt64 a5)) (Int32.toInt64 x17)) ≤ 0 then (
                      lp (fun K20 (t19 : Int32 × MS) =>
                        if a5 ≤ t19.1 then (
                          lp (fun K23 (t22 : Int32 × MS) =>
                            if a5 ≤ t22.1 then (
                              some (a5, t22.2))
                            else (
                              ck (ib t22.1 40) <| bn (t22.2.2 60 (Int32.toNatClampNeg t22.1)) fun x25 =>
                              ck (ib (((40 * a3) + a4) + t22.1) 160) <| bn (ap t22.2 59 (Int32.toNatClampNeg (((40 * a3) + a4) + t22.1)) x25) fun z26 =>
                              K23 ((t22.1 + 1), z26))) n (0, t19.2))
                        else (
                          ck (ib (((40 * a1) + a2) + t19.1) 160) <| bn (t19.2.2 59 (Int32.toNatClampNeg (((40 * a1) + a2) + t19.1))) fun x27 =>
                          ck (ib t19.1 40) <| bn (ap t19.2 60 (Int32.toNatClampNeg t19.1) x27) fun z28 =>
                          K20 ((t19.1 + 1), z28))) n (0, s0))
                    else (
                      some ((-12), s0)))))))
          else (
            some ((-13), s0)))
        else (
          some ((-11), s0)))))
def f_X8_sorts (n : Nat) (a1 : Int32) (a2 : Int32) (a3 : Int32) (a4 : Int32) (s0 : MS) : Option (Int32 × MS) :=
  cl (f_X8_isSheet n a1) fun q1 =>
  if q1 = 0 then (
    some ((-2), s0))
  else (
    cl (f_X8_in n a2 0 2) fun q3 =>
    if q3 = 0 then (
      some ((-2), s0))
    else (
      cl (f_X8_in n a4 0 8) fun q5 =>
      if q5 = 0 then (
        some ((-2), s0))
      else (
        ck (ib a1 4) <| bn (s0.2 57 (Int32.toNatClampNeg a1)) fun x7 =>
        jn (fun (t8 : Unit) =>
          ck (ib a1 4) <| bn (s0.2 57 (Int32.toNatClampNeg a1)) fun x10 =>
          if 0 ≤ x10 then (
            lp (fun K13 (t12 : Int32 × Int32 × MS) =>
              if a4 ≤ t12.2.1 then (
                some (t12.1, t12.2.2))
              else (
                bn ((Int32.toInt64 a3) + (Int32.toInt64 (2 * t12.2.1))) fun x15 =>
                if (lg_cmp x15 0) < 0 then (
                  some ((-12), t12.2.2))
                else (
                  ck (ib a1 4) <| bn (t12.2.2.2 58 (Int32.toNatClampNeg a1)) fun x17 =>
                  if (lg_cmp (x15 + 1) (Int32.toInt64 x17)) < 0 then (
                    bn ((40 * a1) + (Int64.toInt32 x15)) fun x19 =>
                    ck (ib x19 160) <| bn (t12.2.2.2 59 (Int32.toNatClampNeg x19)) fun x20 =>
                    ck (ib (x19 + 1) 160) <| bn (t12.2.2.2 59 (Int32.toNatClampNeg (x19 + 1))) fun x21 =>
                    cl (f_X8_people n x20 x21 t12.2.2) fun q22 =>
                    jn (fun (t23 : Int32) =>
                      K13 (t23, (t12.2.1 + 1), q22.2)) fun K24 =>
                    if q22.1 < 0 then (
                      K24 t12.1)
                    else (
                      K24 (t12.1 + 1)))
                  else (
                    some ((-12), t12.2.2))))) n (0, 0, s0))
          else (
            some ((-11), s0))) fun K9 =>
        if x7 < 0 then (
          K9 ())
        else (
          ck (ib a1 4) <| bn (s0.2 57 (Int32.toNatClampNeg a1)) fun x27 =>
          if x27 = a2 then (
            K9 ())
          else (
            some ((-13), s0))))))
def f_X8_isUnder (n : Nat) (a1 : Int32) (a2 : Int32) : Option (Int32) :=
  if a2 = 0 then (
    ck (isz 1) <| some 1)
  else (
    if a1 = a2 then (
      ck (isz 1) <| some 1)
    else (
      jn (fun (t3 : Unit) =>
        jn (fun (t5 : Unit) =>
          if a2 = 2 then (
            if a1 = 4 then (
              ck (isz 1) <| some 1)
            else (
              ck (isz 0) <| some 0))
          else (
            ck (isz 0) <| some 0)) fun K6 =>
        if a2 = 3 then (
          if a1 = 5 then (
            ck (isz 1) <| some 1)
          else (
            K6 ()))
        else (
          K6 ())) fun K4 =>
      if a2 = 1 then (
        if a1 = 3 then (
          ck (isz 1) <| some 1)
        else (
          if a1 = 5 then (
            ck (isz 1) <| some 1)
          else (
            K4 ())))
      else (
        K4 ())))
def f_X8_taken (n : Nat) (a1 : Int32) (a2 : Int32) (s0 : MS) : Option (Int32) :=
  cl (f_X8_in n a2 0 5) fun q1 =>
  if q1 = 0 then (
    some (-2))
  else (
    cl (f_X8_isWay n a1 s0) fun q3 =>
    if q3 = 0 then (
      some (-11))
    else (
      ck (ib a1 8) <| bn (s0.2 11 (Int32.toNatClampNeg a1)) fun x5 =>
      cl (f_X8_isUnder n x5 a2) fun q6 =>
      if q6 = 0 then (
        some (-13))
      else (
        ck (ib a1 8) <| bn (s0.2 13 (Int32.toNatClampNeg a1)) fun x8 =>
        some x8)))
