def f_X8_in (n : Nat) (a1 : Int32) (a2 : Int32) (a3 : Int32) : Option (Int32) :=
  if a1 < a2 then (
    ck (isz 0) <| some 0)
  else (
    if a3 < a1 then (
      ck (isz 0) <| some 0)
    else (
      ck (isz 1) <| some 1))
def f_X8_held (n : Nat) (a1 : Int32) (a2 : Int32) (a3 : Int32) : Option (Int32) :=
  if a2 ≤ a1 then (
    if a1 ≤ a3 then (
      some a1)
    else (
      some a3))
  else (
    some a2)
def f_X8_isSort (n : Nat) (a1 : Int32) (s0 : MS) : Option (Int32) :=
  cl (f_X8_in n a1 0 ((s0.1 1) - 1)) fun q1 =>
  ck (isz q1) <| some q1
def f_X8_people (n : Nat) (a1 : Int32) (a2 : Int32) (s0 : MS) : Option (Int32 × MS) :=
  cl (f_X8_in n a1 0 400) fun q1 =>
  if q1 = 0 then (
    some ((-2), s0))
  else (
    if a2 < 0 then (
      some ((-2), s0))
    else (
      ck (nz 1000) <|
      if 40 < (a2 / 1000) then (
        some ((-2), s0))
      else (
        ck (nz 10) <|
        ck (nz 100) <|
        cl (f_X8_in n ((a2 / 10) - (a2 / 10) / 100 * 100) 1 60) fun q5 =>
        if q5 = 0 then (
          some ((-2), s0))
        else (
          if (s0.1 1) = 6 then (
            some ((-4), s0))
          else (
            ck (ib (s0.1 1) 6) <| bn (ap s0 2 ((s0.1 1)).toNatClampNeg a1) fun s8 =>
            ck (nz 1000) <|
            ck (ib (s8.1 1) 6) <| bn (ap s8 3 ((s8.1 1)).toNatClampNeg (a2 / 1000)) fun s9 =>
            ck (nz 10) <|
            ck (nz 100) <|
            ck (ib (s9.1 1) 6) <| bn (ap s9 4 ((s9.1 1)).toNatClampNeg ((a2 / 10) - (a2 / 10) / 100 * 100)) fun s10 =>
            ck (nz 10) <|
            ck (ib (s10.1 1) 6) <| bn (ap s10 5 ((s10.1 1)).toNatClampNeg (a2 - a2 / 10 * 10)) fun s11 =>
            bn (sp s11 1 ((s11.1 1) + 1)) fun s12 =>
            some (((s12.1 1) - 1), s12))))))
def f_X8_waitingNow (n : Nat) (s0 : MS) : Option (Int32) :=
  lp (fun K2 (t1 : Int32 × Int32) =>
    if (120 * (s0.1 1)) ≤ t1.2 then (
      some t1.1)
    else (
      ck (ib t1.2 720) <| bn (s0.2 39 (t1.2).toNatClampNeg) fun x4 =>
      bn (t1.1 + x4) fun x5 =>
      K2 (x5, (t1.2 + 1)))) n (0, 0)
def f_X8_isAhead (n : Nat) (a1 : Int32) (a2 : Int32) (a3 : Int32) (a4 : Int32) (a5 : Int32) (s0 : MS) : Option (Int32) :=
  jn (fun (t1 : Unit) =>
    jn (fun (t3 : Unit) =>
      if a3 = a5 then (
        if a4 ≤ a2 then (
          ck (isz 0) <| some 0)
        else (
          ck (isz 1) <| some 1))
      else (
        if a5 ≤ a3 then (
          ck (isz 0) <| some 0)
        else (
          ck (isz 1) <| some 1))) fun K4 =>
    if a1 = 2 then (
      if a2 = a4 then (
        K4 ())
      else (
        if a4 ≤ a2 then (
          ck (isz 0) <| some 0)
        else (
          ck (isz 1) <| some 1)))
    else (
      K4 ())) fun K2 =>
  if a1 = 1 then (
    ck (ib a2 6) <| bn (s0.2 3 (a2).toNatClampNeg) fun x12 =>
    ck (ib a4 6) <| bn (s0.2 3 (a4).toNatClampNeg) fun x13 =>
    if x12 = x13 then (
      K2 ())
    else (
      ck (ib a2 6) <| bn (s0.2 3 (a2).toNatClampNeg) fun x15 =>
      ck (ib a4 6) <| bn (s0.2 3 (a4).toNatClampNeg) fun x16 =>
      if x15 ≤ x16 then (
        ck (isz 0) <| some 0)
      else (
        ck (isz 1) <| some 1)))
  else (
    K2 ())
def f_X8_load (n : Nat) (a1 : Int32) (a2 : Int32) (a3 : Int32) (a4 : Int32) (s0 : MS) : Option (MS) :=
  lp (fun K2 (t1 : Int32 × MS) =>
    if t1.1 ≤ 0 then (
      some t1.2)
    else (
      lp (fun K5 (t4 : Int32 × Int32) =>
        if (120 * (t1.2.1 1)) ≤ t4.2 then (
          if 0 ≤ t4.1 then (
            ck (ib t4.1 720) <| bn (t1.2.2 39 (t4.1).toNatClampNeg) fun x8 =>
            jn (fun (t9 : Int32) =>
              ck (ib t4.1 720) <| bn (t1.2.2 39 (t4.1).toNatClampNeg) fun x11 =>
              ck (ib t4.1 720) <| bn (ap t1.2 39 (t4.1).toNatClampNeg (x11 - t9)) fun s12 =>
              ck (nz 120) <|
              ck (ib (t4.1 / 120) 6) <| bn (s12.2 42 ((t4.1 / 120)).toNatClampNeg) fun x13 =>
              ck (ib (t4.1 / 120) 6) <| bn (ap s12 42 ((t4.1 / 120)).toNatClampNeg (x13 + t9)) fun s14 =>
              ck (ib a1 24) <| bn (s14.2 40 (a1).toNatClampNeg) fun x15 =>
              ck (ib a1 24) <| bn (ap s14 40 (a1).toNatClampNeg (x15 + t9)) fun s16 =>
              bn (t1.1 - t9) fun x17 =>
              K2 (x17, s16)) fun K10 =>
            if t1.1 ≤ x8 then (
              K10 t1.1)
            else (
              ck (ib t4.1 720) <| bn (t1.2.2 39 (t4.1).toNatClampNeg) fun x19 =>
              K10 x19))
          else (
            some t1.2))
        else (
          ck (ib t4.2 720) <| bn (t1.2.2 39 (t4.2).toNatClampNeg) fun x20 =>
          jn (fun (t21 : Int32) =>
            K5 (t21, (t4.2 + 1))) fun K22 =>
          if x20 ≤ 0 then (
            K22 t4.1)
          else (
            jn (fun (t24 : Unit) =>
              K22 t4.2) fun K25 =>
            if t4.1 < 0 then (
              K25 ())
            else (
              ck (nz 120) <|
              ck (nz 120) <|
              ck (nz 120) <|
              ck (nz 120) <|
              cl (f_X8_isAhead n a3 (t4.2 / 120) (t4.2 - t4.2 / 120 * 120) (t4.1 / 120) (t4.1 - t4.1 / 120 * 120) t1.2) fun q27 =>
              if q27 = 0 then (
                K22 t4.1)
              else (
                K25 ()))))) n ((-1), 0))) n (a2, s0)
def f_X8_leftOf (n : Nat) (a1 : Int32) (s0 : MS) : Option (Int32) :=
  ck (ib a1 6) <| bn (s0.2 2 (a1).toNatClampNeg) fun x1 =>
  ck (ib a1 6) <| bn (s0.2 42 (a1).toNatClampNeg) fun x2 =>
  some (x1 - x2)
def f_X8_leftOfAll (n : Nat) (s0 : MS) : Option (Int32) :=
  lp (fun K2 (t1 : Int32 × Int32) =>
    if (s0.1 1) ≤ t1.2 then (
      some t1.1)
    else (
      cl (f_X8_leftOf n t1.2 s0) fun q4 =>
      bn (t1.1 + q4) fun x5 =>
      K2 (x5, (t1.2 + 1)))) n (0, 0)
