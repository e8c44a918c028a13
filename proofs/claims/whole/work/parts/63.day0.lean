def spK (n : Nat) (a3 : Int32) (s2 : MS) (K2 : (Int32 × MS × MS × MS) → Option (MS × MS × MS)) (t1 : Int32 × MS × MS × MS) (t5 : Int32 × MS × MS × MS) : Option (MS × MS × MS) :=
  ck (ib t1.1 6) <| bn (s2.2 2 (Int32.toNatClampNeg t1.1)) fun x7 =>
  bn (a3 + x7) fun x8 =>
  ck (ib t1.1 6) <| bn (t5.2.1.2 4 (Int32.toNatClampNeg t1.1)) fun x9 =>
  ck (ib t1.1 6) <| bn (ap t5.2.1 4 (Int32.toNatClampNeg t1.1) (x9 - t5.1)) fun z10 =>
  jn (fun (t11 : MS × MS × MS) =>
    ck (ib t1.1 6) <|
    ck (ib a3 120) <| bn (t11.1.2 (20 + Int32.toNatClampNeg t1.1) (Int32.toNatClampNeg a3)) fun x14 =>
    bn (sp t11.1 9 ((t11.1.1 9) + x14)) fun z15 =>
    K2 ((t1.1 + 1), z15, t11.2.1, t11.2.2)) fun K12 =>
  if 120 ≤ x8 then (
    K12 (z10, t5.2.2.1, t5.2.2.2))
  else (
    ck (ib t1.1 6) <|
    ck (ib x8 120) <| bn (ap z10 (20 + Int32.toNatClampNeg t1.1) (Int32.toNatClampNeg x8) t5.1) fun z18 =>
    K12 (z18, t5.2.2.1, t5.2.2.2))
def spF (n : Nat) (a3 : Int32) (s0 : MS) (s2 : MS) : ((Int32 × MS × MS × MS) → Option (MS × MS × MS)) → (Int32 × MS × MS × MS) → Option (MS × MS × MS) := fun K2 (t1 : Int32 × MS × MS × MS) =>
  if (s2.1 0) ≤ t1.1 then (
    some (t1.2.1, t1.2.2.1, t1.2.2.2))
  else (
    ck (ib t1.1 6) <| bn (t1.2.1.2 4 (Int32.toNatClampNeg t1.1)) fun x4 =>
    jn (fun (t5 : Int32 × MS × MS × MS) =>
      ck (ib t1.1 6) <| bn (s2.2 2 (Int32.toNatClampNeg t1.1)) fun x7 =>
      bn (a3 + x7) fun x8 =>
      ck (ib t1.1 6) <| bn (t5.2.1.2 4 (Int32.toNatClampNeg t1.1)) fun x9 =>
      ck (ib t1.1 6) <| bn (ap t5.2.1 4 (Int32.toNatClampNeg t1.1) (x9 - t5.1)) fun z10 =>
      jn (fun (t11 : MS × MS × MS) =>
        ck (ib t1.1 6) <|
        ck (ib a3 120) <| bn (t11.1.2 (20 + Int32.toNatClampNeg t1.1) (Int32.toNatClampNeg a3)) fun x14 =>
        bn (sp t11.1 9 ((t11.1.1 9) + x14)) fun z15 =>
        K2 ((t1.1 + 1), z15, t11.2.1, t11.2.2)) fun K12 =>
      if 120 ≤ x8 then (
        K12 (z10, t5.2.2.1, t5.2.2.2))
      else (
        ck (ib t1.1 6) <|
        ck (ib x8 120) <| bn (ap z10 (20 + Int32.toNatClampNeg t1.1) (Int32.toNatClampNeg x8) t5.1) fun z18 =>
        K12 (z18, t5.2.2.1, t5.2.2.2))) fun K6 =>
    if x4 = 0 then (
      K6 (0, t1.2.1, t1.2.2.1, t1.2.2.2))
    else (
      cl (f_X1_goingOf n t1.1 a3 (s0.1 9) t1.2.1 t1.2.2.1 s2 t1.2.2.2) fun q20 =>
      K6 (q20.1, t1.2.1, q20.2.1, q20.2.2)))
def gP (n : Nat) (a1 : Int32) (a2 : Int32) (q1 : Int32) : ((Int32 × MS) → Option MS) → (Int32 × MS) → Option MS := fun K3 (t2 : Int32 × MS) =>
  if (t2.2.1 1) ≤ t2.1 then (
    lp (fun K6 (t5 : Int32 × MS) =>
      if (t5.2.1 1) ≤ t5.1 then (
        lp (fun K9 (t8 : Int32 × MS) =>
          if (t8.2.1 45) ≤ t8.1 then (
            cl (f_X8_waitingNow n t8.2) fun q11 =>
            jn (fun (t12 : MS) =>
              lp (fun K15 (t14 : Int32 × MS) =>
                if (t14.2.1 1) ≤ t14.1 then (
                  some t14.2)
                else (
                  ck (ib t14.1 6) <| bn (t14.2.2 42 (Int32.toNatClampNeg t14.1)) fun x17 =>
                  ck (ib ((120 * t14.1) + a2) 720) <| bn (ap t14.2 41 (Int32.toNatClampNeg ((120 * t14.1) + a2)) x17) fun z18 =>
                  K15 ((t14.1 + 1), z18))) n (0, t12)) fun K13 =>
            if q11 ≤ (t8.2.1 43) then (
              K13 t8.2)
            else (
              bn (sp t8.2 43 q11) fun z20 =>
              bn (sp z20 44 a2) fun z21 =>
              K13 z21))
          else (
            cl (f_X8_goes n t8.1 a2 t8.2) fun q22 =>
            jn (fun (t23 : MS) =>
              K9 ((t8.1 + 1), t23)) fun K24 =>
            if q22 = 0 then (
              K24 t8.2)
            else (
              cl (f_X8_waitingNow n t8.2) fun q26 =>
              cl (f_X8_findFacts n a1 0 a2 q26 ((t8.2.1 15) - a2) t8.2) fun q27 =>
              ck (ib t8.1 24) <| bn (q27.2 7 (Int32.toNatClampNeg t8.1)) fun x28 =>
              cl (f_X8_gives n 1 q27) fun q29 =>
              cl (f_X8_held n q29.1 0 60) fun q30 =>
              bn (x28 - q30) fun x31 =>
              if x31 ≤ 0 then (
                K24 q29.2)
              else (
                cl (f_X8_orderOf n a1 q29.2) fun q33 =>
                cl (f_X8_load n t8.1 x31 q33 a2 q29.2) fun q34 =>
                K24 q34)))) n (0, t5.2))
      else (
        ck (ib ((120 * t5.1) + a2) 720) <| bn (t5.2.2 39 (Int32.toNatClampNeg ((120 * t5.1) + a2))) fun x35 =>
        ck (ib ((160 * t5.1) + a2) 960) <| bn (t5.2.2 38 (Int32.toNatClampNeg ((160 * t5.1) + a2))) fun x36 =>
        ck (ib ((120 * t5.1) + a2) 720) <| bn (ap t5.2 39 (Int32.toNatClampNeg ((120 * t5.1) + a2)) (x35 + x36)) fun z37 =>
        ck (ib ((160 * t5.1) + a2) 960) <| bn (ap z37 38 (Int32.toNatClampNeg ((160 * t5.1) + a2)) 0) fun z38 =>
        K6 ((t5.1 + 1), z38))) n (0, t2.2))
  else (
    cl (f_X8_findFacts n a1 t2.1 a2 q1 ((t2.2.1 15) - a2) t2.2) fun q39 =>
    ck (ib t2.1 6) <| bn (q39.2 37 (Int32.toNatClampNeg t2.1)) fun x40 =>
    ck (ib t2.1 6) <| bn (q39.2 4 (Int32.toNatClampNeg t2.1)) fun x41 =>
    ck (nz x41) <|
    cl (f_X8_gives n 0 q39) fun q42 =>
    cl (f_X8_held n q42.1 (-99) 400) fun q43 =>
    ck (ib t2.1 6) <| bn (q42.2.2 37 (Int32.toNatClampNeg t2.1)) fun x44 =>
    cl (f_X8_held n ((x40 / x41) + q43) 0 x44) fun q45 =>
    ck (ib t2.1 6) <| bn (q42.2.2 37 (Int32.toNatClampNeg t2.1)) fun x46 =>
    ck (ib t2.1 6) <| bn (ap q42.2 37 (Int32.toNatClampNeg t2.1) (x46 - q45)) fun z47 =>
    ck (ib t2.1 6) <| bn (z47.2 3 (Int32.toNatClampNeg t2.1)) fun x48 =>
    ck (ib (((160 * t2.1) + a2) + x48) 960) <| bn (z47.2 38 (Int32.toNatClampNeg (((160 * t2.1) + a2) + x48))) fun x49 =>
    ck (ib (((160 * t2.1) + a2) + x48) 960) <| bn (ap z47 38 (Int32.toNatClampNeg (((160 * t2.1) + a2) + x48)) (x49 + q45)) fun z50 =>
    K3 ((t2.1 + 1), z50))
def gC (n : Nat) (a1 : Int32) (a2 : Int32) : ((Int32 × MS) → Option MS) → (Int32 × MS) → Option MS := fun K6 (t5 : Int32 × MS) =>
  if (t5.2.1 1) ≤ t5.1 then (
    lp (fun K9 (t8 : Int32 × MS) =>
      if (t8.2.1 45) ≤ t8.1 then (
        cl (f_X8_waitingNow n t8.2) fun q11 =>
        jn (fun (t12 : MS) =>
          lp (fun K15 (t14 : Int32 × MS) =>
            if (t14.2.1 1) ≤ t14.1 then (
              some t14.2)
            else (
              ck (ib t14.1 6) <| bn (t14.2.2 42 (Int32.toNatClampNeg t14.1)) fun x17 =>
              ck (ib ((120 * t14.1) + a2) 720) <| bn (ap t14.2 41 (Int32.toNatClampNeg ((120 * t14.1) + a2)) x17) fun z18 =>
              K15 ((t14.1 + 1), z18))) n (0, t12)) fun K13 =>
        if q11 ≤ (t8.2.1 43) then (
          K13 t8.2)
        else (
          bn (sp t8.2 43 q11) fun z20 =>
          bn (sp z20 44 a2) fun z21 =>
          K13 z21))
      else (
        cl (f_X8_goes n t8.1 a2 t8.2) fun q22 =>
        jn (fun (t23 : MS) =>
          K9 ((t8.1 + 1), t23)) fun K24 =>
        if q22 = 0 then (
          K24 t8.2)
        else (
          cl (f_X8_waitingNow n t8.2) fun q26 =>
          cl (f_X8_findFacts n a1 0 a2 q26 ((t8.2.1 15) - a2) t8.2) fun q27 =>
          ck (ib t8.1 24) <| bn (q27.2 7 (Int32.toNatClampNeg t8.1)) fun x28 =>
          cl (f_X8_gives n 1 q27) fun q29 =>
          cl (f_X8_held n q29.1 0 60) fun q30 =>
          bn (x28 - q30) fun x31 =>
          if x31 ≤ 0 then (
            K24 q29.2)
          else (
            cl (f_X8_orderOf n a1 q29.2) fun q33 =>
            cl (f_X8_load n t8.1 x31 q33 a2 q29.2) fun q34 =>
            K24 q34)))) n (0, t5.2))
  else (
    ck (ib ((120 * t5.1) + a2) 720) <| bn (t5.2.2 39 (Int32.toNatClampNeg ((120 * t5.1) + a2))) fun x35 =>
    ck (ib ((160 * t5.1) + a2) 960) <| bn (t5.2.2 38 (Int32.toNatClampNeg ((160 * t5.1) + a2))) fun x36 =>
    ck (ib ((120 * t5.1) + a2) 720) <| bn (ap t5.2 39 (Int32.toNatClampNeg ((120 * t5.1) + a2)) (x35 + x36)) fun z37 =>
    ck (ib ((160 * t5.1) + a2) 960) <| bn (ap z37 38 (Int32.toNatClampNeg ((160 * t5.1) + a2)) 0) fun z38 =>
    K6 ((t5.1 + 1), z38))
def gK (n : Nat) (a1 : Int32) (a2 : Int32) : ((Int32 × MS) → Option MS) → (Int32 × MS) → Option MS := fun K9 (t8 : Int32 × MS) =>
  if (t8.2.1 45) ≤ t8.1 then (
    cl (f_X8_waitingNow n t8.2) fun q11 =>
    jn (fun (t12 : MS) =>
      lp (fun K15 (t14 : Int32 × MS) =>
        if (t14.2.1 1) ≤ t14.1 then (
          some t14.2)
        else (
          ck (ib t14.1 6) <| bn (t14.2.2 42 (Int32.toNatClampNeg t14.1)) fun x17 =>
          ck (ib ((120 * t14.1) + a2) 720) <| bn (ap t14.2 41 (Int32.toNatClampNeg ((120 * t14.1) + a2)) x17) fun z18 =>
          K15 ((t14.1 + 1), z18))) n (0, t12)) fun K13 =>
    if q11 ≤ (t8.2.1 43) then (
      K13 t8.2)
    else (
      bn (sp t8.2 43 q11) fun z20 =>
      bn (sp z20 44 a2) fun z21 =>
      K13 z21))
  else (
    cl (f_X8_goes n t8.1 a2 t8.2) fun q22 =>
    jn (fun (t23 : MS) =>
      K9 ((t8.1 + 1), t23)) fun K24 =>
    if q22 = 0 then (
      K24 t8.2)
    else (
      cl (f_X8_waitingNow n t8.2) fun q26 =>
      cl (f_X8_findFacts n a1 0 a2 q26 ((t8.2.1 15) - a2) t8.2) fun q27 =>
      ck (ib t8.1 24) <| bn (q27.2 7 (Int32.toNatClampNeg t8.1)) fun x28 =>
      cl (f_X8_gives n 1 q27) fun q29 =>
      cl (f_X8_held n q29.1 0 60) fun q30 =>
      bn (x28 - q30) fun x31 =>
      if x31 ≤ 0 then (
        K24 q29.2)
      else (
        cl (f_X8_orderOf n a1 q29.2) fun q33 =>
        cl (f_X8_load n t8.1 x31 q33 a2 q29.2) fun q34 =>
        K24 q34)))
def gE (n : Nat) (a2 : Int32) (t12 : MS) : Option MS :=
  lp (fun K15 (t14 : Int32 × MS) =>
    if (t14.2.1 1) ≤ t14.1 then (
      some t14.2)
    else (
      ck (ib t14.1 6) <| bn (t14.2.2 42 (Int32.toNatClampNeg t14.1)) fun x17 =>
      ck (ib ((120 * t14.1) + a2) 720) <| bn (ap t14.2 41 (Int32.toNatClampNeg ((120 * t14.1) + a2)) x17) fun z18 =>
      K15 ((t14.1 + 1), z18))) n (0, t12)
def gD (n : Nat) (a2 : Int32) : ((Int32 × MS) → Option MS) → (Int32 × MS) → Option MS := fun K15 (t14 : Int32 × MS) =>
  if (t14.2.1 1) ≤ t14.1 then (
    some t14.2)
  else (
    ck (ib t14.1 6) <| bn (t14.2.2 42 (Int32.toNatClampNeg t14.1)) fun x17 =>
    ck (ib ((120 * t14.1) + a2) 720) <| bn (ap t14.2 41 (Int32.toNatClampNeg ((120 * t14.1) + a2)) x17) fun z18 =>
    K15 ((t14.1 + 1), z18))
def scF (n : Nat) (a3 : Int32) (a5 : Int32) (s2 : MS) (s3 : MS) : ((Int32 × MS × MS × MS) → Option (MS × MS × MS)) → (Int32 × MS × MS × MS) → Option (MS × MS × MS) := fun K2 (t1 : Int32 × MS × MS × MS) =>
  if a3 ≤ t1.1 then (
    some (t1.2.1, t1.2.2.1, t1.2.2.2))
  else (
    if (t1.2.1.1 9) ≤ 0 then (
      some (t1.2.1, t1.2.2.1, t1.2.2.2))
    else (
      cl (f_X0_roomOf n t1.1 a5 s3) fun q5 =>
      jn (fun (t6 : MS × MS × MS) =>
        K2 ((t1.1 + 1), t6.1, t6.2.1, t6.2.2)) fun K7 =>
      if q5 = 0 then (
        K7 (t1.2.1, t1.2.2.1, t1.2.2.2))
      else (
        cl (f_X1_setNames n 0 a5 (t1.2.1.1 9) t1.2.1 t1.2.2.1 s2) fun q9 =>
        cl (f_X5_value n 1 t1.2.2.2 q9) fun q10 =>
        cl (f_X7_bounded n q10.1 0 60) fun q11 =>
        cl (f_X1_board n t1.1 (mmin (q5 - q11) (t1.2.1.1 9)) (s2.1 0) a5 t1.2.1) fun q12 =>
        K7 (q12, q9, q10.2))))
def brF (n : Nat) (a1 : Int32) (a3 : Int32) (a4 : Int32) : ((Int32 × Int32 × MS) → Option MS) → (Int32 × Int32 × MS) → Option MS := fun K2 (t1 : Int32 × Int32 × MS) =>
  if 60 ≤ t1.2.1 then (
    some t1.2.2)
  else (
    if t1.1 ≤ 0 then (
      some t1.2.2)
    else (
      cl (f_X1_firstOnes n a3 a4 t1.2.2) fun q5 =>
      if q5.1 = (-1) then (
        some q5.2)
      else (
        ck (ib q5.1 6) <|
        ck (ib q5.1 6) <| bn (q5.2.2 6 (Int32.toNatClampNeg q5.1)) fun x8 =>
        ck (ib x8 120) <| bn (q5.2.2 (20 + Int32.toNatClampNeg q5.1) (Int32.toNatClampNeg x8)) fun x9 =>
        bn (mmin t1.1 x9) fun x10 =>
        ck (ib q5.1 6) <|
        ck (ib q5.1 6) <| bn (q5.2.2 6 (Int32.toNatClampNeg q5.1)) fun x12 =>
        ck (ib x12 120) <| bn (q5.2.2 (20 + Int32.toNatClampNeg q5.1) (Int32.toNatClampNeg x12)) fun x13 =>
        ck (ib x12 120) <| bn (ap q5.2 (20 + Int32.toNatClampNeg q5.1) (Int32.toNatClampNeg x12) (x13 - x10)) fun z14 =>
        ck (ib q5.1 6) <| bn (z14.2 7 (Int32.toNatClampNeg q5.1)) fun x15 =>
        ck (ib q5.1 6) <| bn (ap z14 7 (Int32.toNatClampNeg q5.1) (x15 + x10)) fun z16 =>
        ck (ib a1 24) <| bn (z16.2 10 (Int32.toNatClampNeg a1)) fun x17 =>
        ck (ib a1 24) <| bn (ap z16 10 (Int32.toNatClampNeg a1) (x17 + x10)) fun z18 =>
        bn (sp z18 9 ((z18.1 9) - x10)) fun z19 =>
        bn (t1.1 - x10) fun x20 =>
        K2 (x20, (t1.2.1 + 1), z19))))
def foF (n : Nat) (a1 : Int32) (a2 : Int32) : ((Int32 × Int32 × MS) → Option (Int32 × MS)) → (Int32 × Int32 × MS) → Option (Int32 × MS) := fun K2 (t1 : Int32 × Int32 × MS) =>
  if a1 ≤ t1.2.1 then (
    some (t1.1, t1.2.2))
  else (
    lp (fun K5 (t4 : MS) =>
      ck (ib t1.2.1 6) <| bn (t4.2 6 (Int32.toNatClampNeg t1.2.1)) fun x6 =>
      jn (fun (t7 : Unit) =>
        ck (ib t1.2.1 6) <| bn (t4.2 6 (Int32.toNatClampNeg t1.2.1)) fun x9 =>
        jn (fun (t10 : Int32) =>
          K2 (t10, (t1.2.1 + 1), t4)) fun K11 =>
        if a2 < x9 then (
          K11 t1.1)
        else (
          jn (fun (t13 : Unit) =>
            K11 t1.2.1) fun K14 =>
          if t1.1 = (-1) then (
            K14 ())
          else (
            cl (f_X1_isAhead n t1.2.1 t1.1 t4) fun q16 =>
            if q16 = 0 then (
              K11 t1.1)
            else (
              K14 ())))) fun K8 =>
      if a2 < x6 then (
        K8 ())
      else (
        ck (ib t1.2.1 6) <|
        ck (ib t1.2.1 6) <| bn (t4.2 6 (Int32.toNatClampNeg t1.2.1)) fun x20 =>
        ck (ib x20 120) <| bn (t4.2 (20 + Int32.toNatClampNeg t1.2.1) (Int32.toNatClampNeg x20)) fun x21 =>
        if x21 = 0 then (
          ck (ib t1.2.1 6) <| bn (t4.2 6 (Int32.toNatClampNeg t1.2.1)) fun x23 =>
          ck (ib t1.2.1 6) <| bn (ap t4 6 (Int32.toNatClampNeg t1.2.1) (x23 + 1)) fun z24 =>
          K5 z24)
        else (
          K8 ()))) n t1.2.2)
def foI (n : Nat) (a2 : Int32) (K2 : (Int32 × Int32 × MS) → Option (Int32 × MS)) (t1 : Int32 × Int32 × MS) : ((MS) → Option (Int32 × MS)) → (MS) → Option (Int32 × MS) := fun K5 (t4 : MS) =>
  ck (ib t1.2.1 6) <| bn (t4.2 6 (Int32.toNatClampNeg t1.2.1)) fun x6 =>
  jn (fun (t7 : Unit) =>
    ck (ib t1.2.1 6) <| bn (t4.2 6 (Int32.toNatClampNeg t1.2.1)) fun x9 =>
    jn (fun (t10 : Int32) =>
      K2 (t10, (t1.2.1 + 1), t4)) fun K11 =>
    if a2 < x9 then (
      K11 t1.1)
    else (
      jn (fun (t13 : Unit) =>
        K11 t1.2.1) fun K14 =>
      if t1.1 = (-1) then (
        K14 ())
      else (
        cl (f_X1_isAhead n t1.2.1 t1.1 t4) fun q16 =>
        if q16 = 0 then (
          K11 t1.1)
        else (
          K14 ())))) fun K8 =>
  if a2 < x6 then (
    K8 ())
  else (
    ck (ib t1.2.1 6) <|
    ck (ib t1.2.1 6) <| bn (t4.2 6 (Int32.toNatClampNeg t1.2.1)) fun x20 =>
    ck (ib x20 120) <| bn (t4.2 (20 + Int32.toNatClampNeg t1.2.1) (Int32.toNatClampNeg x20)) fun x21 =>
    if x21 = 0 then (
      ck (ib t1.2.1 6) <| bn (t4.2 6 (Int32.toNatClampNeg t1.2.1)) fun x23 =>
      ck (ib t1.2.1 6) <| bn (ap t4 6 (Int32.toNatClampNeg t1.2.1) (x23 + 1)) fun z24 =>
      K5 z24)
    else (
      K8 ()))
def ldF (n : Nat) (a1 : Int32) (a3 : Int32) : ((Int32 × MS) → Option MS) → (Int32 × MS) → Option MS := fun K2 (t1 : Int32 × MS) =>
  if t1.1 ≤ 0 then (
    some t1.2)
  else (
    lp (fun K5 (t4 : Int32 × Int32) =>
      if (120 * (t1.2.1 1)) ≤ t4.2 then (
        if 0 ≤ t4.1 then (
          ck (ib t4.1 720) <| bn (t1.2.2 39 (Int32.toNatClampNeg t4.1)) fun x8 =>
          jn (fun (t9 : Int32) =>
            ck (ib t4.1 720) <| bn (t1.2.2 39 (Int32.toNatClampNeg t4.1)) fun x11 =>
            ck (ib t4.1 720) <| bn (ap t1.2 39 (Int32.toNatClampNeg t4.1) (x11 - t9)) fun z12 =>
            ck (nz 120) <|
            ck (ib (t4.1 / 120) 6) <| bn (z12.2 42 (Int32.toNatClampNeg (t4.1 / 120))) fun x13 =>
            ck (ib (t4.1 / 120) 6) <| bn (ap z12 42 (Int32.toNatClampNeg (t4.1 / 120)) (x13 + t9)) fun z14 =>
            ck (ib a1 24) <| bn (z14.2 40 (Int32.toNatClampNeg a1)) fun x15 =>
            ck (ib a1 24) <| bn (ap z14 40 (Int32.toNatClampNeg a1) (x15 + t9)) fun z16 =>
            bn (t1.1 - t9) fun x17 =>
            K2 (x17, z16)) fun K10 =>
          if t1.1 ≤ x8 then (
            K10 t1.1)
          else (
            ck (ib t4.1 720) <| bn (t1.2.2 39 (Int32.toNatClampNeg t4.1)) fun x19 =>
            K10 x19))
        else (
          some t1.2))
      else (
        ck (ib t4.2 720) <| bn (t1.2.2 39 (Int32.toNatClampNeg t4.2)) fun x20 =>
        jn (fun (t21 : Int32) =>
          K5 (t21, (t4.2 + 1))) fun K22 =>
        if x20 ≤ 0 then (
          K22 t4.1)
        else (
          jn (fun (t24 : Unit) =>
            K22 t4.2) fun K25 =>
          if t4.1 < 0 then (
            K25 ())
          else (
            ck (nz 120) <|
            ck (nz 120) <|
            ck (nz 120) <|
            ck (nz 120) <|
            cl (f_X8_isAhead n a3 (t4.2 / 120) (t4.2 - t4.2 / 120 * 120) (t4.1 / 120) (t4.1 - t4.1 / 120 * 120) t1.2) fun q27 =>
            if q27 = 0 then (
              K22 t4.1)
            else (
              K25 ()))))) n ((-1), 0))
def ldI (n : Nat) (a1 : Int32) (a3 : Int32) (K2 : (Int32 × MS) → Option MS) (t1 : Int32 × MS) : ((Int32 × Int32) → Option MS) → (Int32 × Int32) → Option MS := fun K5 (t4 : Int32 × Int32) =>
  if (120 * (t1.2.1 1)) ≤ t4.2 then (
    if 0 ≤ t4.1 then (
      ck (ib t4.1 720) <| bn (t1.2.2 39 (Int32.toNatClampNeg t4.1)) fun x8 =>
      jn (fun (t9 : Int32) =>
        ck (ib t4.1 720) <| bn (t1.2.2 39 (Int32.toNatClampNeg t4.1)) fun x11 =>
        ck (ib t4.1 720) <| bn (ap t1.2 39 (Int32.toNatClampNeg t4.1) (x11 - t9)) fun z12 =>
        ck (nz 120) <|
        ck (ib (t4.1 / 120) 6) <| bn (z12.2 42 (Int32.toNatClampNeg (t4.1 / 120))) fun x13 =>
        ck (ib (t4.1 / 120) 6) <| bn (ap z12 42 (Int32.toNatClampNeg (t4.1 / 120)) (x13 + t9)) fun z14 =>
        ck (ib a1 24) <| bn (z14.2 40 (Int32.toNatClampNeg a1)) fun x15 =>
        ck (ib a1 24) <| bn (ap z14 40 (Int32.toNatClampNeg a1) (x15 + t9)) fun z16 =>
        bn (t1.1 - t9) fun x17 =>
        K2 (x17, z16)) fun K10 =>
      if t1.1 ≤ x8 then (
        K10 t1.1)
      else (
        ck (ib t4.1 720) <| bn (t1.2.2 39 (Int32.toNatClampNeg t4.1)) fun x19 =>
        K10 x19))
    else (
      some t1.2))
  else (
    ck (ib t4.2 720) <| bn (t1.2.2 39 (Int32.toNatClampNeg t4.2)) fun x20 =>
    jn (fun (t21 : Int32) =>
      K5 (t21, (t4.2 + 1))) fun K22 =>
    if x20 ≤ 0 then (
      K22 t4.1)
    else (
      jn (fun (t24 : Unit) =>
        K22 t4.2) fun K25 =>
      if t4.1 < 0 then (
        K25 ())
      else (
        ck (nz 120) <|
        ck (nz 120) <|
        ck (nz 120) <|
        ck (nz 120) <|
        cl (f_X8_isAhead n a3 (t4.2 / 120) (t4.2 - t4.2 / 120 * 120) (t4.1 / 120) (t4.1 - t4.1 / 120 * 120) t1.2) fun q27 =>
        if q27 = 0 then (
          K22 t4.1)
        else (
          K25 ()))))
def emF (n : Nat) (a2 : Int32) (s1 : MS) : ((Int32 × MS) → Option MS) → (Int32 × MS) → Option MS := fun K2 (t1 : Int32 × MS) =>
  if (s1.1 0) ≤ t1.1 then (
    if (t1.2.1 9) ≤ (t1.2.1 11) then (
      some t1.2)
    else (
      bn (sp t1.2 11 (t1.2.1 9)) fun z5 =>
      bn (sp z5 12 a2) fun z6 =>
      some z6))
  else (
    ck (ib t1.1 6) <|
    ck (ib t1.1 6) <| bn (t1.2.2 7 (Int32.toNatClampNeg t1.1)) fun x8 =>
    ck (ib a2 120) <| bn (ap t1.2 (30 + Int32.toNatClampNeg t1.1) (Int32.toNatClampNeg a2) x8) fun z9 =>
    K2 ((t1.1 + 1), z9))
def ruF (n : Nat) (a3 : Int32) (s2 : MS) (s3 : MS) : ((Int32 × MS × MS × MS) → Option (MS × MS × MS)) → (Int32 × MS × MS × MS) → Option (MS × MS × MS) := fun K3 (t2 : Int32 × MS × MS × MS) =>
  if (s2.1 6) ≤ t2.1 then (
    some (t2.2.1, t2.2.2.1, t2.2.2.2))
  else (
    cl (f_X1_sendPeople n t2.1 t2.2.1 t2.2.2.1 s2 t2.2.2.2) fun q5 =>
    cl (f_X2_isShutIn n t2.1 s2) fun q6 =>
    jn (fun (t7 : MS × MS × MS) =>
      cl (f_X1_endMinute n t2.1 t7.1 s2) fun q9 =>
      K3 ((t2.1 + 1), q9, t7.2.1, t7.2.2)) fun K8 =>
    if q6 = 0 then (
      cl (f_X1_sendCars n a3 t2.1 q5.1 q5.2.1 s2 s3 q5.2.2) fun q11 =>
      K8 (q11.1, q11.2.1, q11.2.2))
    else (
      K8 (q5.1, q5.2.1, q5.2.2)))
-- THE DAY: sums, names, facts
theorem sumI_upd (f : Nat → Int32) (i : Nat) (x : Int32) : ∀ k, i < k → sumI (fun u => if u = i then x else f u) k = sumI f k + (x - f i) := by
  intro k
  induction k with
  | zero => intro h; omega
  | succ k ih =>
    intro h
    by_cases e : i = k
    · subst e
      rw [sumI_s, sumI_s, sumI_congr (g := f) i (fun u hu => if_neg (by omega))]
      rw [if_pos rfl, Int32.add_assoc, Int32.add_comm (f i) (x - f i), Int32.sub_add_cancel]
    · rw [sumI_s, sumI_s, ih (by omega), if_neg (by omega)]
      ac_rfl
theorem sumI_sub (f g : Nat → Int32) : ∀ k, sumI (fun i => f i - g i) k = sumI f k - sumI g k
  | 0 => by show (0 : Int32) = 0 - 0; decide
  | k + 1 => by
    rw [sumI_s, sumI_s, sumI_s, sumI_sub f g k]
    simp only [Int32.sub_eq_add_neg, Int32.neg_add]
    ac_rfl
theorem sumI_split (f : Nat → Int32) (a : Nat) : ∀ b, sumI f (a + b) = sumI f a + sumI (fun i => f (a + i)) b
  | 0 => by rw [sumI_0, Int32.add_zero]; rfl
  | b + 1 => by
    show sumI f (a + b) + f (a + b) = _
    rw [sumI_split f a b, sumI_s, Int32.add_assoc]
def hd (lo hi v : Int32) : Int32 := mmax lo (mmin hi v)
theorem c_bd (n : Nat) (v lo hi : Int32) : f_X7_bounded n v lo hi = some (hd lo hi v) := rfl
theorem hd_i (lo hi v : Int32) : (hd lo hi v).toInt = max lo.toInt (min hi.toInt v.toInt) := by
  unfold hd; rw [mmax_i, mmin_i]
theorem m_held (n : Nat) (v lo hi : Int32) (h : lo.toInt ≤ hi.toInt) : f_X8_held n v lo hi = some (hd lo hi v) := by
  unfold f_X8_held
  by_cases h1 : lo ≤ v
  · rw [if_pos h1]
    rw [le_i] at h1
    by_cases h2 : v ≤ hi
    · rw [if_pos h2]
      rw [le_i] at h2
      exact congrArg some (Int32.toInt_inj.mp (by rw [hd_i]; omega))
    · rw [if_neg h2]
      rw [le_i] at h2
      exact congrArg some (Int32.toInt_inj.mp (by rw [hd_i]; omega))
  · rw [if_neg h1]
    rw [le_i] at h1
    exact congrArg some (Int32.toInt_inj.mp (by rw [hd_i]; omega))
theorem hd_IR (lo hi v : Int32) (h : lo.toInt ≤ hi.toInt) : IR (hd lo hi v) lo.toInt hi.toInt := by
  constructor <;> rw [hd_i] <;> omega
/-- the day writes nothing else -/
def DA (s s' : MS) : Prop := (∀ k, k ≠ 43 → k ≠ 44 → s'.1 k = s.1 k) ∧ ∀ k, k < 33 ∨ k = 35 ∨ k = 36 ∨ 42 < k → s'.2 k = s.2 k
theorem DA_rf (s : MS) : DA s s := ⟨fun _ _ _ => rfl, fun _ _ => rfl⟩
theorem DA_tr {s t u : MS} (h : DA s t) (g : DA t u) : DA s u := ⟨fun k h1 h2 => (g.1 k h1 h2).trans (h.1 k h1 h2), fun k hk => (g.2 k hk).trans (h.2 k hk)⟩
theorem DA_ap (s : MS) (k i : Nat) (x : Int32) (h : k = 33 ∨ k = 34 ∨ (37 ≤ k ∧ k ≤ 42)) : DA s (ap s k i x) := ⟨fun _ _ _ => rfl, fun j hj => by funext t; rw [ap2, if_neg (by omega)]⟩
theorem calls_da {s s' : MS} (h : DA s s') (n : Nat) (w m : Int32) : f_X8_calls n w m s' = f_X8_calls n w m s := by
  unfold f_X8_calls
  rw [h.1 18 (by decide) (by decide), h.2 11 (by omega), h.2 12 (by omega), h.2 13 (by omega), h.2 58 (by omega), h.2 59 (by omega)]
theorem asks_da {s s' : MS} (h : DA s s') (n : Nat) (w m : Int32) : f_X8_asks n w m s' = f_X8_asks n w m s := by
  unfold f_X8_asks
  rw [h.1 18 (by decide) (by decide), h.2 11 (by omega), h.2 12 (by omega), h.2 13 (by omega)]
theorem order_da {s s' : MS} (h : DA s s') (n : Nat) (w : Int32) : f_X8_orderOf n w s' = f_X8_orderOf n w s := by
  unfold f_X8_orderOf
  rw [h.1 18 (by decide) (by decide), h.2 11 (by omega)]
theorem goes_da {s s' : MS} (h : DA s s') (n : Nat) (c m : Int32) : f_X8_goes n c m s' = f_X8_goes n c m s := by
  unfold f_X8_goes f_X8_isShut
  rw [h.1 16 (by decide) (by decide), h.1 17 (by decide) (by decide), h.2 8 (by omega), h.2 9 (by omega)]
theorem m_wait (n : Nat) (hn : 721 ≤ n) (s : MS) (K : Nat) (h1 : s.1 1 = nI K) (hK : K ≤ 6) : f_X8_waitingNow n s = some (sumI (s.2 39) (120 * K)) := by
  have e : (120 : Int32) * nI K = nI (120 * K) := by rw [show (120 : Int32) = nI 120 from rfl, nI_mu]
  unfold f_X8_waitingNow
  refine lp_st (120 * K) (fun j => (sumI (s.2 39) j, nI j)) (fun j hj self => ?_) (fun self => ?_) n (by omega) rfl
  · dsimp only
    rw [h1, e, if_neg (nI_ge hj (by omega)), ib_j (by omega) (by omega), ck_t, bn_def, bn_def, nI_clamp (by omega), nI_succ]
    rfl
  · dsimp only
    rw [h1, e, if_pos (Int32.le_refl _)]
theorem c_names (n i m : Nat) (wait : Int32) (D N h : MS) (hi : i < 6) (hm : m < 120) : ∃ N', f_X1_setNames n (nI i) (nI m) wait D N h = some N' ∧ N'.2 0 0 = D.2 4 i ∧ N'.2 0 1 = wait ∧ N'.2 0 2 = h.1 6 - nI m ∧ N'.2 0 3 = D.2 1 m ∧ N'.2 0 4 = (h.2 4 i * D.2 0 m) / 10 ∧ N'.2 0 5 = h.2 5 m := by
  unfold f_X1_setNames
  rw [ib_j hi (by omega), ib_j hm (by omega), nI_clamp (by omega), nI_clamp (by omega), nz10, show ib 0 6 = true by decide, show ib 1 6 = true by decide, show ib 2 6 = true by decide, show ib 3 6 = true by decide, show ib 4 6 = true by decide, show ib 5 6 = true by decide, show (0 : Int32).toNatClampNeg = 0 by decide, show (1 : Int32).toNatClampNeg = 1 by decide, show (2 : Int32).toNatClampNeg = 2 by decide, show (3 : Int32).toNatClampNeg = 3 by decide, show (4 : Int32).toNatClampNeg = 4 by decide, show (5 : Int32).toNatClampNeg = 5 by decide]
  simp only [ck_t, bn_def]
  refine ⟨_, rfl, ?_, ?_, ?_, ?_, ?_, ?_⟩ <;> simp [ap2]
theorem m_facts (n i m : Nat) (w wait lf : Int32) (s : MS) (cv av : Int32) (hi : i < 6) (hm : m < 120) (hc : f_X8_calls n w (nI m) s = some cv) (ha : f_X8_asks n w (nI m) s = some av) : ∃ s', f_X8_findFacts n w (nI i) (nI m) wait lf s = some s' ∧ s'.1 = s.1 ∧ (∀ q, q ≠ 34 → s'.2 q = s.2 q) ∧ (s.1 1 = 0 ∨ (s'.2 34 0 = s.2 37 i ∧ s'.2 34 4 = (s.2 5 i * cv) / 10)) ∧ s'.2 34 1 = wait ∧ s'.2 34 2 = lf ∧ s'.2 34 3 = av ∧ s'.2 34 5 = s.2 14 m := by
  unfold f_X8_findFacts
  rw [ib_j hi (by omega), ib_j hm (by omega), nI_clamp (by omega), nI_clamp (by omega), nz10, show ib 0 6 = true by decide, show ib 1 6 = true by decide, show ib 2 6 = true by decide, show ib 3 6 = true by decide, show ib 4 6 = true by decide, show ib 5 6 = true by decide, show (0 : Int32).toNatClampNeg = 0 by decide, show (1 : Int32).toNatClampNeg = 1 by decide, show (2 : Int32).toNatClampNeg = 2 by decide, show (3 : Int32).toNatClampNeg = 3 by decide, show (4 : Int32).toNatClampNeg = 4 by decide, show (5 : Int32).toNatClampNeg = 5 by decide]
  simp only [ck_t, bn_def, jn_def]
  have ca : ∀ x y z, f_X8_asks n w (nI m) (ap (ap (ap s 34 0 x) 34 1 y) 34 2 z) = some av := fun x y z => by
    rw [asks_da (DA_tr (DA_ap s 34 0 x (by omega)) (DA_tr (DA_ap _ 34 1 y (by omega)) (DA_ap _ 34 2 z (by omega)))), ha]
  have cc : ∀ x y z v, f_X8_calls n w (nI m) (ap (ap (ap (ap s 34 0 x) 34 1 y) 34 2 z) 34 3 v) = some cv := fun x y z v => by
    rw [calls_da (DA_tr (DA_ap s 34 0 x (by omega)) (DA_tr (DA_ap _ 34 1 y (by omega)) (DA_tr (DA_ap _ 34 2 z (by omega)) (DA_ap _ 34 3 v (by omega))))), hc]
  by_cases h0 : s.1 1 = 0
  · rw [if_pos h0, ca, cl_some, ap1, ap1, ap1, ap1, if_pos h0]
    refine ⟨_, rfl, rfl, fun q hq => ?_, Or.inl h0, ?_, ?_, ?_, ?_⟩
    · funext u; simp [ap2, hq]
    · simp [ap2]
    · simp [ap2]
    · simp [ap2]
    · simp [ap2]
  · rw [if_neg h0, ca, cl_some, ap1, ap1, ap1, ap1, if_neg h0, cc, cl_some]
    refine ⟨_, rfl, rfl, fun q hq => ?_, Or.inr ⟨?_, ?_⟩, ?_, ?_, ?_, ?_⟩
    · funext u; simp [ap2, hq]
    · simp [ap2]
    · simp [ap2]
    · simp [ap2]
    · simp [ap2]
    · simp [ap2]
    · simp [ap2]
theorem lp_two_to {X Y ρ σ : Type} {F : (X → Option ρ) → X → Option ρ} {G : (Y → Option σ) → Y → Option σ} (k : Nat) (I : Nat → X → Y → Prop) (outF : X → Option ρ) (outG : Y → Option σ) (step : ∀ j x y, j < k → I j x y → ∃ x' y', I (j + 1) x' y' ∧ (∀ self, F self x = self x') ∧ ∀ self, G self y = self y') (stop : ∀ x y, I k x y → (∀ self, F self x = outF x) ∧ ∀ self, G self y = outG y) (n : Nat) (hn : k < n) (x0 : X) (y0 : Y) (h0 : I 0 x0 y0) : ∃ x y, I k x y ∧ lp F n x0 = outF x ∧ lp G n y0 = outG y := by
  have go : ∀ (d j : Nat) (x : X) (y : Y) (n : Nat), j + d = k → d < n → I j x y → ∃ x' y', I k x' y' ∧ lp F n x = outF x' ∧ lp G n y = outG y' := by
    intro d
    induction d with
    | zero =>
      intro j x y n hj hn hI
      have e : j = k := by omega
      subst e
      obtain ⟨n, rfl⟩ : ∃ m, n = m + 1 := ⟨n - 1, by omega⟩
      obtain ⟨h1, h2⟩ := stop x y hI
      exact ⟨x, y, hI, by rw [lp_s]; exact h1 _, by rw [lp_s]; exact h2 _⟩
    | succ d ih =>
      intro j x y n hj hn hI
      obtain ⟨n, rfl⟩ : ∃ m, n = m + 1 := ⟨n - 1, by omega⟩
      obtain ⟨x', y', h1, h2, h3⟩ := step j x y (by omega) hI
      obtain ⟨x2, y2, g1, g2, g3⟩ := ih (j + 1) x' y' n (by omega) (by omega) h1
      exact ⟨x2, y2, g1, by rw [lp_s, h2]; exact g2, by rw [lp_s, h3]; exact g3⟩
  exact go k 0 x0 y0 n (by omega) hn h0
