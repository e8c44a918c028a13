/-- the law over the pure functions: () if it answers true -/
def f_law (n : Nat) (L : Nat) (xs : Nat → Int32) (nw0 : Nat) (c0 : CS) (sm0 : MS) : Option Unit :=
  lp (fun K2 (t1 : Int32 × Nat × CS × MS × Nat) =>
    ck (decide (t1.2.2.2.2 < 65)) <| ck (decide (t1.2.1 < 100)) <|
    if ((nI L) - 6) < t1.1 then (
      some ())
    else (
      ck (ib t1.1 L) <| bn (xs (Int32.toNatClampNeg t1.1)) fun x4 =>
      jn (fun (t5 : Nat × CS × MS × Nat) =>
        K2 ((t1.1 + 6), t5.1, t5.2.1, t5.2.2.1, t5.2.2.2)) fun K6 =>
      if (x4 &&& 31) = 0 then (
        ck (ib (t1.1 + 1) L) <| bn (xs (Int32.toNatClampNeg (t1.1 + 1))) fun x8 =>
        ck (ib (t1.1 + 2) L) <| bn (xs (Int32.toNatClampNeg (t1.1 + 2))) fun x9 =>
        cl (f_X7_people n t1.2.1 x8 x9 t1.2.2.1) fun q10 =>
        ck (ib (t1.1 + 1) L) <| bn (xs (Int32.toNatClampNeg (t1.1 + 1))) fun x11 =>
        ck (ib (t1.1 + 2) L) <| bn (xs (Int32.toNatClampNeg (t1.1 + 2))) fun x12 =>
        cl (f_X8_people n x11 x12 t1.2.2.2.1) fun q13 =>
        if q10.1 = q13.1 then (
          K6 (t1.2.1, q10.2, q13.2, (t1.2.2.2.2 + 1)))
        else (
          none))
      else (
        if (x4 &&& 31) = 1 then (
          ck (ib (t1.1 + 1) L) <| bn (xs (Int32.toNatClampNeg (t1.1 + 1))) fun x15 =>
          ck (ib (t1.1 + 2) L) <| bn (xs (Int32.toNatClampNeg (t1.1 + 2))) fun x16 =>
          ck (ib (t1.1 + 3) L) <| bn (xs (Int32.toNatClampNeg (t1.1 + 3))) fun x17 =>
          cl (f_X7_car n t1.2.1 x15 x16 x17 t1.2.2.1) fun q18 =>
          ck (ib (t1.1 + 1) L) <| bn (xs (Int32.toNatClampNeg (t1.1 + 1))) fun x19 =>
          ck (ib (t1.1 + 2) L) <| bn (xs (Int32.toNatClampNeg (t1.1 + 2))) fun x20 =>
          ck (ib (t1.1 + 3) L) <| bn (xs (Int32.toNatClampNeg (t1.1 + 3))) fun x21 =>
          cl (f_X8_car n x19 x20 x21 t1.2.2.2.1) fun q22 =>
          if q18.1 = q22.1 then (
            K6 (t1.2.1, q18.2, q22.2, (t1.2.2.2.2 + 1)))
          else (
            none))
        else (
          if (x4 &&& 31) = 2 then (
            ck (ib (t1.1 + 1) L) <| bn (xs (Int32.toNatClampNeg (t1.1 + 1))) fun x24 =>
            ck (ib (t1.1 + 2) L) <| bn (xs (Int32.toNatClampNeg (t1.1 + 2))) fun x25 =>
            ck (ib (t1.1 + 3) L) <| bn (xs (Int32.toNatClampNeg (t1.1 + 3))) fun x26 =>
            cl (f_X7_way n t1.2.1 x24 x25 x26 t1.2.2.1) fun q27 =>
            ck (ib (t1.1 + 1) L) <| bn (xs (Int32.toNatClampNeg (t1.1 + 1))) fun x28 =>
            ck (ib (t1.1 + 2) L) <| bn (xs (Int32.toNatClampNeg (t1.1 + 2))) fun x29 =>
            ck (ib (t1.1 + 3) L) <| bn (xs (Int32.toNatClampNeg (t1.1 + 3))) fun x30 =>
            cl (f_X8_way n x28 x29 x30 t1.2.2.2.1) fun q31 =>
            if q27.1 = q31.1 then (
              K6 ((cond q27.2.1 (t1.2.1 + 1) t1.2.1), q27.2.2, q31.2, (t1.2.2.2.2 + 1)))
            else (
              none))
          else (
            if (x4 &&& 31) = 3 then (
              ck (ib (t1.1 + 1) L) <| bn (xs (Int32.toNatClampNeg (t1.1 + 1))) fun x33 =>
              ck (ib (t1.1 + 2) L) <| bn (xs (Int32.toNatClampNeg (t1.1 + 2))) fun x34 =>
              ck (ib (t1.1 + 3) L) <| bn (xs (Int32.toNatClampNeg (t1.1 + 3))) fun x35 =>
              cl (f_X7_set n t1.2.1 x33 x34 x35 t1.2.2.1) fun q36 =>
              ck (ib (t1.1 + 1) L) <| bn (xs (Int32.toNatClampNeg (t1.1 + 1))) fun x37 =>
              ck (ib (t1.1 + 2) L) <| bn (xs (Int32.toNatClampNeg (t1.1 + 2))) fun x38 =>
              ck (ib (t1.1 + 3) L) <| bn (xs (Int32.toNatClampNeg (t1.1 + 3))) fun x39 =>
              cl (f_X8_set n x37 x38 x39 t1.2.2.2.1) fun q40 =>
              if q36.1 = q40.1 then (
                K6 (t1.2.1, q36.2, q40.2, (t1.2.2.2.2 + 1)))
              else (
                none))
            else (
              if (x4 &&& 31) = 4 then (
                ck (ib (t1.1 + 1) L) <| bn (xs (Int32.toNatClampNeg (t1.1 + 1))) fun x42 =>
                ck (ib (t1.1 + 2) L) <| bn (xs (Int32.toNatClampNeg (t1.1 + 2))) fun x43 =>
                cl (f_X7_shut n t1.2.1 x42 x43 t1.2.2.1) fun q44 =>
                ck (ib (t1.1 + 1) L) <| bn (xs (Int32.toNatClampNeg (t1.1 + 1))) fun x45 =>
                ck (ib (t1.1 + 2) L) <| bn (xs (Int32.toNatClampNeg (t1.1 + 2))) fun x46 =>
                cl (f_X8_shut n x45 x46 t1.2.2.2.1) fun q47 =>
                if q44.1 = q47.1 then (
                  K6 (t1.2.1, q44.2, q47.2, (t1.2.2.2.2 + 1)))
                else (
                  none))
              else (
                if (x4 &&& 31) = 5 then (
                  ck (ib (t1.1 + 1) L) <| bn (xs (Int32.toNatClampNeg (t1.1 + 1))) fun x49 =>
                  ck (ib (t1.1 + 2) L) <| bn (xs (Int32.toNatClampNeg (t1.1 + 2))) fun x50 =>
                  ck (ib (t1.1 + 3) L) <| bn (xs (Int32.toNatClampNeg (t1.1 + 3))) fun x51 =>
                  cl (f_X7_told n t1.2.1 x49 x50 x51 t1.2.2.1) fun q52 =>
                  ck (ib (t1.1 + 1) L) <| bn (xs (Int32.toNatClampNeg (t1.1 + 1))) fun x53 =>
                  ck (ib (t1.1 + 2) L) <| bn (xs (Int32.toNatClampNeg (t1.1 + 2))) fun x54 =>
                  ck (ib (t1.1 + 3) L) <| bn (xs (Int32.toNatClampNeg (t1.1 + 3))) fun x55 =>
                  cl (f_X8_told n x53 x54 x55 t1.2.2.2.1) fun q56 =>
                  if q52 = q56 then (
                    K6 (t1.2.1, t1.2.2.1, t1.2.2.2.1, (t1.2.2.2.2 + 1)))
                  else (
                    none))
                else (
                  if (x4 &&& 31) = 6 then (
                    ck (ib (t1.1 + 1) L) <| bn (xs (Int32.toNatClampNeg (t1.1 + 1))) fun x58 =>
                    ck (ib (t1.1 + 2) L) <| bn (xs (Int32.toNatClampNeg (t1.1 + 2))) fun x59 =>
                    ck (ib (t1.1 + 3) L) <| bn (xs (Int32.toNatClampNeg (t1.1 + 3))) fun x60 =>
                    cl (f_X7_feed n t1.2.1 x58 (((Int32.toInt64 x59) <<< (Int32.toInt64 32 &&& 63)) ||| ((Int32.toInt64 x60) &&& 4294967295)) t1.2.2.1) fun q61 =>
                    ck (ib (t1.1 + 1) L) <| bn (xs (Int32.toNatClampNeg (t1.1 + 1))) fun x62 =>
                    ck (ib (t1.1 + 2) L) <| bn (xs (Int32.toNatClampNeg (t1.1 + 2))) fun x63 =>
                    ck (ib (t1.1 + 3) L) <| bn (xs (Int32.toNatClampNeg (t1.1 + 3))) fun x64 =>
                    cl (f_X8_feed n x62 (((Int32.toInt64 x63) <<< (Int32.toInt64 32 &&& 63)) ||| ((Int32.toInt64 x64) &&& 4294967295)) t1.2.2.2.1) fun q65 =>
                    if q61.1 = q65.1 then (
                      K6 (t1.2.1, q61.2, q65.2, (t1.2.2.2.2 + 1)))
                    else (
                      none))
                  else (
                    if (x4 &&& 31) = 7 then (
                      cl (f_X7_text n t1.2.1 t1.2.2.1) fun q67 =>
                      cl (f_X8_text n t1.2.2.2.1) fun q68 =>
                      if q67.1 = q68.1 then (
                        K6 (t1.2.1, q67.2, q68.2, (t1.2.2.2.2 + 1)))
                      else (
                        none))
                    else (
                      if (x4 &&& 31) = 8 then (
                        ck (ib (t1.1 + 1) L) <| bn (xs (Int32.toNatClampNeg (t1.1 + 1))) fun x70 =>
                        cl (f_X7_force n t1.2.1 x70 t1.2.2.1) fun q71 =>
                        ck (ib (t1.1 + 1) L) <| bn (xs (Int32.toNatClampNeg (t1.1 + 1))) fun x72 =>
                        cl (f_X8_force n x72 t1.2.2.2.1) fun q73 =>
                        if q71.1 = q73.1 then (
                          K6 (t1.2.1, q71.2, q73.2, (t1.2.2.2.2 + 1)))
                        else (
                          none))
                      else (
                        if (x4 &&& 31) = 9 then (
                          ck (ib (t1.1 + 1) L) <| bn (xs (Int32.toNatClampNeg (t1.1 + 1))) fun x75 =>
                          ck (ib (t1.1 + 2) L) <| bn (xs (Int32.toNatClampNeg (t1.1 + 2))) fun x76 =>
                          cl (f_X7_left n t1.2.1 x75 x76 t1.2.2.1) fun q77 =>
                          ck (ib (t1.1 + 1) L) <| bn (xs (Int32.toNatClampNeg (t1.1 + 1))) fun x78 =>
                          ck (ib (t1.1 + 2) L) <| bn (xs (Int32.toNatClampNeg (t1.1 + 2))) fun x79 =>
                          cl (f_X8_left n x78 x79 t1.2.2.2.1) fun q80 =>
                          if q77.1 = q80.1 then (
                            K6 (t1.2.1, q77.2, q80.2, (t1.2.2.2.2 + 1)))
                          else (
                            none))
                        else (
                          if (x4 &&& 31) = 10 then (
                            ck (ib (t1.1 + 1) L) <| bn (xs (Int32.toNatClampNeg (t1.1 + 1))) fun x82 =>
                            cl (f_X7_harm n t1.2.1 x82 t1.2.2.1) fun q83 =>
                            ck (ib (t1.1 + 1) L) <| bn (xs (Int32.toNatClampNeg (t1.1 + 1))) fun x84 =>
                            cl (f_X8_harm n x84 t1.2.2.2.1) fun q85 =>
                            if (lg_cmp q83.1 q85.1) = 0 then (
                              K6 (t1.2.1, q83.2, q85.2, (t1.2.2.2.2 + 1)))
                            else (
                              none))
                          else (
                            if (x4 &&& 31) = 11 then (
                              ck (ib (t1.1 + 1) L) <| bn (xs (Int32.toNatClampNeg (t1.1 + 1))) fun x87 =>
                              ck (ib (t1.1 + 2) L) <| bn (xs (Int32.toNatClampNeg (t1.1 + 2))) fun x88 =>
                              cl (f_X7_rode n t1.2.1 x87 x88 t1.2.2.1) fun q89 =>
                              ck (ib (t1.1 + 1) L) <| bn (xs (Int32.toNatClampNeg (t1.1 + 1))) fun x90 =>
                              ck (ib (t1.1 + 2) L) <| bn (xs (Int32.toNatClampNeg (t1.1 + 2))) fun x91 =>
                              cl (f_X8_rode n x90 x91 t1.2.2.2.1) fun q92 =>
                              if q89.1 = q92.1 then (
                                K6 (t1.2.1, q89.2, q92.2, (t1.2.2.2.2 + 1)))
                              else (
                                none))
                            else (
                              if (x4 &&& 31) = 12 then (
                                ck (ib (t1.1 + 1) L) <| bn (xs (Int32.toNatClampNeg (t1.1 + 1))) fun x94 =>
                                ck (ib (t1.1 + 2) L) <| bn (xs (Int32.toNatClampNeg (t1.1 + 2))) fun x95 =>
                                cl (f_X7_waits n t1.2.1 x94 x95 t1.2.2.1) fun q96 =>
                                ck (ib (t1.1 + 1) L) <| bn (xs (Int32.toNatClampNeg (t1.1 + 1))) fun x97 =>
                                ck (ib (t1.1 + 2) L) <| bn (xs (Int32.toNatClampNeg (t1.1 + 2))) fun x98 =>
                                cl (f_X8_waits n x97 x98 t1.2.2.2.1) fun q99 =>
                                if q96.1 = q99.1 then (
                                  K6 (t1.2.1, q96.2, q99.2, (t1.2.2.2.2 + 1)))
                                else (
                                  none))
                              else (
                                if (x4 &&& 31) = 13 then (
                                  ck (ib (t1.1 + 1) L) <| bn (xs (Int32.toNatClampNeg (t1.1 + 1))) fun x101 =>
                                  ck (ib (t1.1 + 2) L) <| bn (xs (Int32.toNatClampNeg (t1.1 + 2))) fun x102 =>
                                  ck (ib (t1.1 + 3) L) <| bn (xs (Int32.toNatClampNeg (t1.1 + 3))) fun x103 =>
                                  cl (f_X7_down n t1.2.1 x101 x102 x103 t1.2.2.1) fun q104 =>
                                  ck (ib (t1.1 + 1) L) <| bn (xs (Int32.toNatClampNeg (t1.1 + 1))) fun x105 =>
                                  ck (ib (t1.1 + 2) L) <| bn (xs (Int32.toNatClampNeg (t1.1 + 2))) fun x106 =>
                                  ck (ib (t1.1 + 3) L) <| bn (xs (Int32.toNatClampNeg (t1.1 + 3))) fun x107 =>
                                  cl (f_X8_down n x105 x106 x107 t1.2.2.2.1) fun q108 =>
                                  if q104.1 = q108.1 then (
                                    K6 (t1.2.1, q104.2, q108.2, (t1.2.2.2.2 + 1)))
                                  else (
                                    none))
                                else (
                                  if (x4 &&& 31) = 14 then (
                                    ck (ib (t1.1 + 1) L) <| bn (xs (Int32.toNatClampNeg (t1.1 + 1))) fun x110 =>
                                    ck (ib (t1.1 + 2) L) <| bn (xs (Int32.toNatClampNeg (t1.1 + 2))) fun x111 =>
                                    cl (f_X7_behind n t1.2.1 x110 x111 t1.2.2.1) fun q112 =>
                                    ck (ib (t1.1 + 1) L) <| bn (xs (Int32.toNatClampNeg (t1.1 + 1))) fun x113 =>
                                    ck (ib (t1.1 + 2) L) <| bn (xs (Int32.toNatClampNeg (t1.1 + 2))) fun x114 =>
                                    cl (f_X8_behind n x113 x114 t1.2.2.2.1) fun q115 =>
                                    if q112.1 = q115.1 then (
                                      K6 (t1.2.1, q112.2, q115.2, (t1.2.2.2.2 + 1)))
                                    else (
                                      none))
                                  else (
                                    if (x4 &&& 31) = 15 then (
                                      ck (ib (t1.1 + 1) L) <| bn (xs (Int32.toNatClampNeg (t1.1 + 1))) fun x117 =>
                                      ck (ib (t1.1 + 2) L) <| bn (xs (Int32.toNatClampNeg (t1.1 + 2))) fun x118 =>
                                      cl (f_X7_latest n t1.2.1 x117 x118 t1.2.2.1) fun q119 =>
                                      ck (ib (t1.1 + 1) L) <| bn (xs (Int32.toNatClampNeg (t1.1 + 1))) fun x120 =>
                                      ck (ib (t1.1 + 2) L) <| bn (xs (Int32.toNatClampNeg (t1.1 + 2))) fun x121 =>
                                      cl (f_X8_latest n x120 x121 t1.2.2.2.1) fun q122 =>
                                      if q119.1 = q122.1 then (
                                        K6 (t1.2.1, q119.2, q122.2, (t1.2.2.2.2 + 1)))
                                      else (
                                        none))
                                    else (
                                      if (x4 &&& 31) = 16 then (
                                        ck (ib (t1.1 + 1) L) <| bn (xs (Int32.toNatClampNeg (t1.1 + 1))) fun x124 =>
                                        ck (ib (t1.1 + 2) L) <| bn (xs (Int32.toNatClampNeg (t1.1 + 2))) fun x125 =>
                                        cl (f_X7_more n t1.2.1 x124 x125 t1.2.2.1) fun q126 =>
                                        ck (ib (t1.1 + 1) L) <| bn (xs (Int32.toNatClampNeg (t1.1 + 1))) fun x127 =>
                                        ck (ib (t1.1 + 2) L) <| bn (xs (Int32.toNatClampNeg (t1.1 + 2))) fun x128 =>
                                        cl (f_X8_more n x127 x128 t1.2.2.2.1) fun q129 =>
                                        if q126.1 = q129.1 then (
                                          K6 (t1.2.1, q126.2, q129.2, (t1.2.2.2.2 + 1)))
                                        else (
                                          none))
                                      else (
                                        if (x4 &&& 31) = 17 then (
                                          ck (ib (t1.1 + 1) L) <| bn (xs (Int32.toNatClampNeg (t1.1 + 1))) fun x131 =>
                                          cl (f_X7_choose n t1.2.1 x131 t1.2.2.1) fun q132 =>
                                          ck (ib (t1.1 + 1) L) <| bn (xs (Int32.toNatClampNeg (t1.1 + 1))) fun x133 =>
                                          cl (f_X8_choose n x133 t1.2.2.2.1) fun q134 =>
                                          if (lg_cmp q132.1 q134.1) = 0 then (
                                            K6 (t1.2.1, q132.2, q134.2, (t1.2.2.2.2 + 1)))
                                          else (
                                            none))
                                        else (
                                          if (x4 &&& 31) = 18 then (
                                            cl (f_X7_must n t1.2.1 t1.2.2.1) fun q136 =>
                                            cl (f_X8_must n t1.2.2.2.1) fun q137 =>
                                            if q136 = q137 then (
                                              K6 (t1.2.1, t1.2.2.1, t1.2.2.2.1, (t1.2.2.2.2 + 1)))
                                            else (
                                              none))
                                          else (
                                            if (x4 &&& 31) = 19 then (
                                              ck (ib (t1.1 + 1) L) <| bn (xs (Int32.toNatClampNeg (t1.1 + 1))) fun x139 =>
                                              cl (f_X7_latestUp n t1.2.1 x139 t1.2.2.1) fun q140 =>
                                              ck (ib (t1.1 + 1) L) <| bn (xs (Int32.toNatClampNeg (t1.1 + 1))) fun x141 =>
                                              cl (f_X8_latestUp n x141 t1.2.2.2.1) fun q142 =>
                                              if q140 = q142 then (
                                                K6 (t1.2.1, t1.2.2.1, t1.2.2.2.1, (t1.2.2.2.2 + 1)))
                                              else (
                                                none))
                                            else (
                                              if (x4 &&& 31) = 20 then (
                                                ck (ib (t1.1 + 1) L) <| bn (xs (Int32.toNatClampNeg (t1.1 + 1))) fun x144 =>
                                                cl (f_X7_judge n t1.2.1 x144 t1.2.2.1) fun q145 =>
                                                ck (ib (t1.1 + 1) L) <| bn (xs (Int32.toNatClampNeg (t1.1 + 1))) fun x146 =>
                                                cl (f_X8_judge n x146 t1.2.2.2.1) fun q147 =>
                                                if q145.1 = q147.1 then (
                                                  K6 (t1.2.1, q145.2, q147.2, (t1.2.2.2.2 + 1)))
                                                else (
                                                  none))
                                              else (
                                                if (x4 &&& 31) = 21 then (
                                                  cl (f_X7_image n t1.2.1 t1.2.2.1) fun q149 =>
                                                  cl (f_X8_image n t1.2.2.2.1) fun q150 =>
                                                  if q149.1 = q150.1 then (
                                                    K6 (t1.2.1, q149.2, q150.2, (t1.2.2.2.2 + 1)))
                                                  else (
                                                    none))
                                                else (
                                                  if (x4 &&& 31) = 22 then (
                                                    cl (f_X7_back n t1.2.1 t1.2.2.1) fun q152 =>
                                                    cl (f_X8_back n t1.2.2.2.1) fun q153 =>
                                                    if q152.1 = q153.1 then (
                                                      K6 (t1.2.1, q152.2, q153.2, (t1.2.2.2.2 + 1)))
                                                    else (
                                                      none))
                                                  else (
                                                    if (x4 &&& 31) = 23 then (
                                                      ck (ib (t1.1 + 1) L) <| bn (xs (Int32.toNatClampNeg (t1.1 + 1))) fun x155 =>
                                                      cl (f_X7_count n t1.2.1 x155 t1.2.2.1) fun q156 =>
                                                      ck (ib (t1.1 + 1) L) <| bn (xs (Int32.toNatClampNeg (t1.1 + 1))) fun x157 =>
                                                      cl (f_X8_count n x157 t1.2.2.2.1) fun q158 =>
                                                      if q156 = q158 then (
                                                        K6 (t1.2.1, t1.2.2.1, t1.2.2.2.1, (t1.2.2.2.2 + 1)))
                                                      else (
                                                        none))
                                                    else (
                                                      if (x4 &&& 31) = 24 then (
                                                        ck (ib (t1.1 + 1) L) <| bn (xs (Int32.toNatClampNeg (t1.1 + 1))) fun x160 =>
                                                        ck (ib (t1.1 + 2) L) <| bn (xs (Int32.toNatClampNeg (t1.1 + 2))) fun x161 =>
                                                        ck (ib (t1.1 + 3) L) <| bn (xs (Int32.toNatClampNeg (t1.1 + 3))) fun x162 =>
                                                        cl (f_X7_sheet n t1.2.1 x160 x161 x162 t1.2.2.1) fun q163 =>
                                                        ck (ib (t1.1 + 1) L) <| bn (xs (Int32.toNatClampNeg (t1.1 + 1))) fun x164 =>
                                                        ck (ib (t1.1 + 2) L) <| bn (xs (Int32.toNatClampNeg (t1.1 + 2))) fun x165 =>
                                                        ck (ib (t1.1 + 3) L) <| bn (xs (Int32.toNatClampNeg (t1.1 + 3))) fun x166 =>
                                                        cl (f_X8_sheet n x164 x165 x166 t1.2.2.2.1) fun q167 =>
                                                        if q163.1 = q167.1 then (
                                                          K6 (t1.2.1, q163.2, q167.2, (t1.2.2.2.2 + 1)))
                                                        else (
                                                          none))
                                                      else (
                                                        if (x4 &&& 31) = 25 then (
                                                          ck (ib (t1.1 + 1) L) <| bn (xs (Int32.toNatClampNeg (t1.1 + 1))) fun x169 =>
                                                          ck (ib (t1.1 + 2) L) <| bn (xs (Int32.toNatClampNeg (t1.1 + 2))) fun x170 =>
                                                          ck (ib (t1.1 + 3) L) <| bn (xs (Int32.toNatClampNeg (t1.1 + 3))) fun x171 =>
                                                          cl (f_X7_cell n t1.2.1 x169 x170 x171 t1.2.2.1) fun q172 =>
                                                          ck (ib (t1.1 + 1) L) <| bn (xs (Int32.toNatClampNeg (t1.1 + 1))) fun x173 =>
                                                          ck (ib (t1.1 + 2) L) <| bn (xs (Int32.toNatClampNeg (t1.1 + 2))) fun x174 =>
                                                          ck (ib (t1.1 + 3) L) <| bn (xs (Int32.toNatClampNeg (t1.1 + 3))) fun x175 =>
                                                          cl (f_X8_cell n x173 x174 x175 t1.2.2.2.1) fun q176 =>
                                                          if q172.1 = q176.1 then (
                                                            K6 (t1.2.1, q172.2, q176.2, (t1.2.2.2.2 + 1)))
                                                          else (
                                                            none))
                                                        else (
                                                          if (x4 &&& 31) = 26 then (
                                                            ck (ib (t1.1 + 1) L) <| bn (xs (Int32.toNatClampNeg (t1.1 + 1))) fun x178 =>
                                                            ck (ib (t1.1 + 2) L) <| bn (xs (Int32.toNatClampNeg (t1.1 + 2))) fun x179 =>
                                                            ck (ib (t1.1 + 3) L) <| bn (xs (Int32.toNatClampNeg (t1.1 + 3))) fun x180 =>
                                                            ck (ib (t1.1 + 4) L) <| bn (xs (Int32.toNatClampNeg (t1.1 + 4))) fun x181 =>
                                                            ck (ib (t1.1 + 5) L) <| bn (xs (Int32.toNatClampNeg (t1.1 + 5))) fun x182 =>
                                                            cl (f_X7_copy n t1.2.1 x178 x179 x180 x181 x182 t1.2.2.1) fun q183 =>
                                                            ck (ib (t1.1 + 1) L) <| bn (xs (Int32.toNatClampNeg (t1.1 + 1))) fun x184 =>
                                                            ck (ib (t1.1 + 2) L) <| bn (xs (Int32.toNatClampNeg (t1.1 + 2))) fun x185 =>
                                                            ck (ib (t1.1 + 3) L) <| bn (xs (Int32.toNatClampNeg (t1.1 + 3))) fun x186 =>
                                                            ck (ib (t1.1 + 4) L) <| bn (xs (Int32.toNatClampNeg (t1.1 + 4))) fun x187 =>
                                                            ck (ib (t1.1 + 5) L) <| bn (xs (Int32.toNatClampNeg (t1.1 + 5))) fun x188 =>
                                                            cl (f_X8_copy n x184 x185 x186 x187 x188 t1.2.2.2.1) fun q189 =>
                                                            if q183.1 = q189.1 then (
                                                              K6 (t1.2.1, q183.2, q189.2, (t1.2.2.2.2 + 1)))
                                                            else (
                                                              none))
                                                          else (
                                                            if (x4 &&& 31) = 27 then (
                                                              ck (ib (t1.1 + 1) L) <| bn (xs (Int32.toNatClampNeg (t1.1 + 1))) fun x191 =>
                                                              ck (ib (t1.1 + 2) L) <| bn (xs (Int32.toNatClampNeg (t1.1 + 2))) fun x192 =>
                                                              ck (ib (t1.1 + 3) L) <| bn (xs (Int32.toNatClampNeg (t1.1 + 3))) fun x193 =>
                                                              ck (ib (t1.1 + 4) L) <| bn (xs (Int32.toNatClampNeg (t1.1 + 4))) fun x194 =>
                                                              cl (f_X7_sorts n t1.2.1 x191 x192 x193 x194 t1.2.2.1) fun q195 =>
                                                              ck (ib (t1.1 + 1) L) <| bn (xs (Int32.toNatClampNeg (t1.1 + 1))) fun x196 =>
                                                              ck (ib (t1.1 + 2) L) <| bn (xs (Int32.toNatClampNeg (t1.1 + 2))) fun x197 =>
                                                              ck (ib (t1.1 + 3) L) <| bn (xs (Int32.toNatClampNeg (t1.1 + 3))) fun x198 =>
                                                              ck (ib (t1.1 + 4) L) <| bn (xs (Int32.toNatClampNeg (t1.1 + 4))) fun x199 =>
                                                              cl (f_X8_sorts n x196 x197 x198 x199 t1.2.2.2.1) fun q200 =>
                                                              if q195.1 = q200.1 then (
                                                                K6 (t1.2.1, q195.2, q200.2, (t1.2.2.2.2 + 1)))
                                                              else (
                                                                none))
                                                            else (
                                                              if (x4 &&& 31) = 28 then (
                                                                ck (ib (t1.1 + 1) L) <| bn (xs (Int32.toNatClampNeg (t1.1 + 1))) fun x202 =>
                                                                ck (ib (t1.1 + 2) L) <| bn (xs (Int32.toNatClampNeg (t1.1 + 2))) fun x203 =>
                                                                cl (f_X7_taken n t1.2.1 x202 x203 t1.2.2.1) fun q204 =>
                                                                ck (ib (t1.1 + 1) L) <| bn (xs (Int32.toNatClampNeg (t1.1 + 1))) fun x205 =>
                                                                ck (ib (t1.1 + 2) L) <| bn (xs (Int32.toNatClampNeg (t1.1 + 2))) fun x206 =>
                                                                cl (f_X8_taken n x205 x206 t1.2.2.2.1) fun q207 =>
                                                                if q204 = q207 then (
                                                                  K6 (t1.2.1, t1.2.2.1, t1.2.2.2.1, (t1.2.2.2.2 + 1)))
                                                                else (
                                                                  none))
                                                              else (
                                                                K6 (t1.2.1, t1.2.2.1, t1.2.2.2.1, (t1.2.2.2.2 + 1))))))))))))))))))))))))))))))))) n (0, nw0, c0, sm0, 0)
theorem wC_cond {g : GT} {o n1 n2 : Nat} {a1 a2 : Nat → Nat → Nat} {b : Bool} {c : CS} {r : List va_W} {A : Nat → Prop} {H0 H : Heap} {locs : List Loc} : GM g A H0 H locs (cond b (wC g o a1 n1 c) (wC g o a2 n2 c) ++ r) = GM g A H0 H locs (wC g o (cond b a1 a2) (cond b n1 n2) c ++ r) := by cases b <;> rfl
set_option maxHeartbeats 8000000 in
set_option maxRecDepth 100000 in
theorem law_walk (g : GT) (l : Launch) {p : Program} {e : Env} {s : State} {m : MethodId} {below : List Frame} {meth : Method} {c9 : Code} {A : Nat → Prop} {b L : Nat} {xs : Nat → Int32} (X : FX g p s m #[Value.ref b] meth c9 code 4 RL ret A) (hr : meth.sig.returnType = ret) (hlocks : meth.locks = false) (hAs : ∀ q, A q → s.heap.size ≤ q) (hX : va_X b L xs s s.heap) (hbl : b < s.heap.size) (hbA : ¬ A b) (o om : Nat) (adm : Nat → Nat) (n nw0 : Nat) (c0 : CS) (sm0 : MS) (hf : f_law n L xs nw0 c0 sm0 = some ()) (a : Nat → Nat → Nat) (H : Heap) (locs : List Loc) (ls : Array Slot) (hG : GM g A s.heap H locs (wC g o a nw0 c0 ++ [wX8 g om adm sm0])) (hl : lv_has ls 4 [(3, .int 0), (2, .ref om), (1, .ref o), (0, .ref b)]) : W p l e room_1 s m #[Value.ref b] below meth c9 H locs (1000 + 0) (20000 + 3 * 0) (lw_Z below #[Value.ref b] s) (F0 m 18 ls []) := by
  have hx := X.1
  have hb := X.2.1
  have hown := X.2.2.2.1
  unfold f_law at hf
  refine lp_go (P := fun (t1 : Int32 × Nat × CS × MS × Nat) => ∀ (a : Nat → Nat → Nat) (H : Heap) (locs : List Loc) (ls : Array Slot), GM g A s.heap H locs (wC g o a t1.2.1 t1.2.2.1 ++ [wX8 g om adm t1.2.2.2.1]) → lv_has ls 4 [(0, .ref b), (1, .ref o), (2, .ref om), (3, .int t1.1)] → W p l e room_1 s m #[Value.ref b] below meth c9 H locs (1000 + t1.2.2.2.2) (20000 + 3 * t1.2.2.2.2) (lw_Z below #[Value.ref b] s) (F0 m 18 ls [])) hf (fun K2 hK2 t1 hf a H locs ls hG hl => ?_) _ _ _ _ hG (lv_sub hl [3, 2, 1, 0] rfl)
  obtain ⟨hk, hf⟩ := ck_inv hf
  replace hk := of_decide_eq_true hk
  obtain ⟨hnw, hf⟩ := ck_inv hf
  replace hnw := of_decide_eq_true hnw
  refine lv_iload_n hx hb dL_law_18 rfl (lv_at hl 3 rfl) ?_
  refine lv_aload_n hx hb dL_law_19 rfl (lv_at hl 0 rfl) ?_
  refine va_slen hx hb hX hbl hbA hG.2.2 dL_law_20 ?_
  refine lv_bipush (v := 6) hx hb dL_law_21 (by decide) ?_
  refine lv_isub hx hb dL_law_23 ?_
  refine lv_icmp_gt (tgt := 1139) hx hb dL_law_24 (by decide) (fun hc3 => ?_) (fun hc3 => ?_)
  · replace hf := ite_t hf hc3
    refine lv_iconst (v := 1) hx hb dL_law_1139 (by decide) ?_
    refine va_forget (fun q hq => hAs _ (hG.2.2.2.2 q hq)) ?_
    refine W.widen (k := 600000) (n := 7302250) (by omega) (by omega) ?_
    exact lw_ret hx hb hr hlocks dL_law_1140
  · replace hf := ite_f hf hc3
    refine lv_aload_n hx hb dL_law_27 rfl (lv_at hl 0 rfl) ?_
    refine lv_iload_n hx hb dL_law_28 rfl (lv_at hl 3 rfl) ?_
    obtain ⟨hix4, hf⟩ := ck_inv hf
    refine va_sld hx hb hX hbl hbA hG.2.2 (ib_in hix4) dL_law_29 ?_
    refine r_bni hf (fun x4 hf => ?_)
    refine lv_bipush (v := 31) hx hb dL_law_30 (by decide) ?_
    refine lv_iand hx hb dL_law_32 ?_
    refine jn_use (P := fun (t5 : Nat × CS × MS × Nat) => ∀ (a : Nat → Nat → Nat) (H : Heap) (locs : List Loc) (ls : Array Slot), GM g A s.heap H locs (wC g o a t5.1 t5.2.1 ++ [wX8 g om adm t5.2.2.1]) → lv_has ls 4 [(0, .ref b), (1, .ref o), (2, .ref om), (3, .int t1.1)] → W p l e room_1 s m #[Value.ref b] below meth c9 H locs (1000 + t5.2.2.2) (20000 + 3 * t5.2.2.2) (lw_Z below #[Value.ref b] s) (F0 m 1133 ls [])) hf (fun t5 hf a H locs ls hG hl => ?_) (fun K6 hK6 hf => ?_)
    · refine lv_iinc (v := (t1.1 + 6)) (lv' := [(3, .int (t1.1 + 6)), (0, .ref b), (1, .ref o), (2, .ref om)]) hx hb dL_law_1133 hl (k := 3) rfl rfl (by decide) rfl (fun ls hl => ?_)
      refine lv_goto (tgt := 18) hx hb dL_law_1136 (by decide) ?_
      exact hK2 _ hf _ _ _ _ hG (lv_sub hl [1, 2, 3, 0] rfl)
    by_cases hk7_0 : (x4 &&& 31) = 0
    · replace hf := ite_t hf hk7_0
      refine r_tsi (tgt := 164) (off := 131) X dL_law_33 hk7_0 (by decide +kernel) (by decide +kernel) (by decide) ?_
      refine lv_aload_n hx hb dL_law_164 rfl (lv_at hl 1 rfl) ?_
      refine lv_aload_n hx hb dL_law_165 rfl (lv_at hl 0 rfl) ?_
      refine lv_iload_n hx hb dL_law_166 rfl (lv_at hl 3 rfl) ?_
      refine lv_iconst (v := 1) hx hb dL_law_167 (by decide) ?_
      refine lv_iadd hx hb dL_law_168 ?_
      obtain ⟨hix8, hf⟩ := ck_inv hf
      refine va_sld hx hb hX hbl hbA hG.2.2 (ib_in hix8) dL_law_169 ?_
      refine r_bni hf (fun x8 hf => ?_)
      refine lv_aload_n hx hb dL_law_170 rfl (lv_at hl 0 rfl) ?_
      refine lv_iload_n hx hb dL_law_171 rfl (lv_at hl 3 rfl) ?_
      refine lv_iconst (v := 2) hx hb dL_law_172 (by decide) ?_
      refine lv_iadd hx hb dL_law_173 ?_
      obtain ⟨hix9, hf⟩ := ck_inv hf
      refine va_sld hx hb hX hbl hbA hG.2.2 (ib_in hix9) dL_law_174 ?_
      refine r_bni hf (fun x9 hf => ?_)
      obtain ⟨q10, hq10, hf⟩ := cl_inv hf
      refine r_callVi (bc := wC g o a t1.2.1 t1.2.2.1) (br := [wX8 g om adm t1.2.2.2.1]) (bs' := (wC g o a t1.2.1 q10.2 ++ [wX8 g om adm t1.2.2.2.1])) (As := [.int x8, .int x9]) (rest := []) X hG hl.1 (c_X7_people g l o a t1.2.1 n x8 x9 t1.2.2.1 q10 hq10) (List.Perm.refl _) (List.Perm.refl _) lk_X7_people lv_X7_people ml_L_13 (j := 0) (k := 0) rfl rfl rfl rfl rfl ⟨Nat.le_of_ble_eq_true rfl, Nat.le_of_ble_eq_true rfl⟩ rfl rfl (Nat.le_of_ble_eq_true rfl) ⟨by show (_ : Nat) ≤ 600000; omega, by show (_ : Nat) ≤ 7302250; omega⟩ dL_law_175 (fun H locs hG => ?_)
      refine lv_aload_n hx hb dL_law_178 rfl (lv_at hl 2 rfl) ?_
      refine lv_aload_n hx hb dL_law_179 rfl (lv_at hl 0 rfl) ?_
      refine lv_iload_n hx hb dL_law_180 rfl (lv_at hl 3 rfl) ?_
      refine lv_iconst (v := 1) hx hb dL_law_181 (by decide) ?_
      refine lv_iadd hx hb dL_law_182 ?_
      obtain ⟨hix11, hf⟩ := ck_inv hf
      refine va_sld hx hb hX hbl hbA hG.2.2 (ib_in hix11) dL_law_183 ?_
      refine r_bni hf (fun x11 hf => ?_)
      refine lv_aload_n hx hb dL_law_184 rfl (lv_at hl 0 rfl) ?_
      refine lv_iload_n hx hb dL_law_185 rfl (lv_at hl 3 rfl) ?_
      refine lv_iconst (v := 2) hx hb dL_law_186 (by decide) ?_
      refine lv_iadd hx hb dL_law_187 ?_
      obtain ⟨hix12, hf⟩ := ck_inv hf
      refine va_sld hx hb hX hbl hbA hG.2.2 (ib_in hix12) dL_law_188 ?_
      refine r_bni hf (fun x12 hf => ?_)
      obtain ⟨q13, hq13, hf⟩ := cl_inv hf
      refine r_callVi (bc := [wX8 g om adm t1.2.2.2.1]) (br := wC g o a t1.2.1 q10.2) (bs' := (wC g o a t1.2.1 q10.2 ++ [wX8 g om adm q13.2])) (As := [.int x11, .int x12]) (rest := [.int q10.1]) X hG hl.1 (c_X8_people g l om adm n x11 x12 t1.2.2.2.1 q13 hq13) (List.perm_append_comm.flatten) (List.perm_append_comm.flatten) lk_X8_people lv_X8_people ml_L_17 (j := 11) (k := 0) rfl rfl rfl rfl rfl ⟨Nat.le_of_ble_eq_true rfl, Nat.le_of_ble_eq_true rfl⟩ rfl rfl (Nat.le_of_ble_eq_true rfl) ⟨by show (_ : Nat) ≤ 600000; omega, by show (_ : Nat) ≤ 7302250; omega⟩ dL_law_189 (fun H locs hG => ?_)
      refine lv_icmp_eq (tgt := 1133) hx hb dL_law_192 (by decide) (fun hc14 => ?_) (fun hc14 => ?_)
      · replace hf := ite_t hf hc14
        refine W.widen (k := 1000 + (t1.2.2.2.2 + 1)) (n := 20000 + 3 * (t1.2.2.2.2 + 1)) (by omega) (by omega) ?_
        exact hK6 _ hf _ _ _ _ hG (lv_sub hl [0, 1, 2, 3] rfl)
      · replace hf := ite_f hf hc14
        refine lv_iconst (v := 0) hx hb dL_law_195 (by decide) ?_
        cases hf
    · replace hf := ite_f hf hk7_0
      by_cases hk7_1 : (x4 &&& 31) = 1
      · replace hf := ite_t hf hk7_1
        refine r_tsi (tgt := 197) (off := 164) X dL_law_33 hk7_1 (by decide +kernel) (by decide +kernel) (by decide) ?_
        refine lv_aload_n hx hb dL_law_197 rfl (lv_at hl 1 rfl) ?_
        refine lv_aload_n hx hb dL_law_198 rfl (lv_at hl 0 rfl) ?_
        refine lv_iload_n hx hb dL_law_199 rfl (lv_at hl 3 rfl) ?_
        refine lv_iconst (v := 1) hx hb dL_law_200 (by decide) ?_
        refine lv_iadd hx hb dL_law_201 ?_
        obtain ⟨hix15, hf⟩ := ck_inv hf
        refine va_sld hx hb hX hbl hbA hG.2.2 (ib_in hix15) dL_law_202 ?_
        refine r_bni hf (fun x15 hf => ?_)
        refine lv_aload_n hx hb dL_law_203 rfl (lv_at hl 0 rfl) ?_
        refine lv_iload_n hx hb dL_law_204 rfl (lv_at hl 3 rfl) ?_
        refine lv_iconst (v := 2) hx hb dL_law_205 (by decide) ?_
        refine lv_iadd hx hb dL_law_206 ?_
        obtain ⟨hix16, hf⟩ := ck_inv hf
        refine va_sld hx hb hX hbl hbA hG.2.2 (ib_in hix16) dL_law_207 ?_
        refine r_bni hf (fun x16 hf => ?_)
        refine lv_aload_n hx hb dL_law_208 rfl (lv_at hl 0 rfl) ?_
        refine lv_iload_n hx hb dL_law_209 rfl (lv_at hl 3 rfl) ?_
        refine lv_iconst (v := 3) hx hb dL_law_210 (by decide) ?_
        refine lv_iadd hx hb dL_law_211 ?_
        obtain ⟨hix17, hf⟩ := ck_inv hf
        refine va_sld hx hb hX hbl hbA hG.2.2 (ib_in hix17) dL_law_212 ?_
        refine r_bni hf (fun x17 hf => ?_)
        obtain ⟨q18, hq18, hf⟩ := cl_inv hf
        refine r_callVi (bc := wC g o a t1.2.1 t1.2.2.1) (br := [wX8 g om adm t1.2.2.2.1]) (bs' := (wC g o a t1.2.1 q18.2 ++ [wX8 g om adm t1.2.2.2.1])) (As := [.int x15, .int x16, .int x17]) (rest := []) X hG hl.1 (c_X7_car g l o a t1.2.1 n x15 x16 x17 t1.2.2.1 q18 hq18) (List.Perm.refl _) (List.Perm.refl _) lk_X7_car lv_X7_car ml_L_18 (j := 0) (k := 0) rfl rfl rfl rfl rfl ⟨Nat.le_of_ble_eq_true rfl, Nat.le_of_ble_eq_true rfl⟩ rfl rfl (Nat.le_of_ble_eq_true rfl) ⟨by show (_ : Nat) ≤ 600000; omega, by show (_ : Nat) ≤ 7302250; omega⟩ dL_law_213 (fun H locs hG => ?_)
        refine lv_aload_n hx hb dL_law_216 rfl (lv_at hl 2 rfl) ?_
        refine lv_aload_n hx hb dL_law_217 rfl (lv_at hl 0 rfl) ?_
        refine lv_iload_n hx hb dL_law_218 rfl (lv_at hl 3 rfl) ?_
        refine lv_iconst (v := 1) hx hb dL_law_219 (by decide) ?_
        refine lv_iadd hx hb dL_law_220 ?_
        obtain ⟨hix19, hf⟩ := ck_inv hf
        refine va_sld hx hb hX hbl hbA hG.2.2 (ib_in hix19) dL_law_221 ?_
        refine r_bni hf (fun x19 hf => ?_)
        refine lv_aload_n hx hb dL_law_222 rfl (lv_at hl 0 rfl) ?_
        refine lv_iload_n hx hb dL_law_223 rfl (lv_at hl 3 rfl) ?_
        refine lv_iconst (v := 2) hx hb dL_law_224 (by decide) ?_
        refine lv_iadd hx hb dL_law_225 ?_
        obtain ⟨hix20, hf⟩ := ck_inv hf
        refine va_sld hx hb hX hbl hbA hG.2.2 (ib_in hix20) dL_law_226 ?_
        refine r_bni hf (fun x20 hf => ?_)
        refine lv_aload_n hx hb dL_law_227 rfl (lv_at hl 0 rfl) ?_
        refine lv_iload_n hx hb dL_law_228 rfl (lv_at hl 3 rfl) ?_
        refine lv_iconst (v := 3) hx hb dL_law_229 (by decide) ?_
        refine lv_iadd hx hb dL_law_230 ?_
        obtain ⟨hix21, hf⟩ := ck_inv hf
        refine va_sld hx hb hX hbl hbA hG.2.2 (ib_in hix21) dL_law_231 ?_
        refine r_bni hf (fun x21 hf => ?_)
        obtain ⟨q22, hq22, hf⟩ := cl_inv hf
        refine r_callVi (bc := [wX8 g om adm t1.2.2.2.1]) (br := wC g o a t1.2.1 q18.2) (bs' := (wC g o a t1.2.1 q18.2 ++ [wX8 g om adm q22.2])) (As := [.int x19, .int x20, .int x21]) (rest := [.int q18.1]) X hG hl.1 (c_X8_car g l om adm n x19 x20 x21 t1.2.2.2.1 q22 hq22) (List.perm_append_comm.flatten) (List.perm_append_comm.flatten) lk_X8_car lv_X8_car ml_L_22 (j := 11) (k := 0) rfl rfl rfl rfl rfl ⟨Nat.le_of_ble_eq_true rfl, Nat.le_of_ble_eq_true rfl⟩ rfl rfl (Nat.le_of_ble_eq_true rfl) ⟨by show (_ : Nat) ≤ 600000; omega, by show (_ : Nat) ≤ 7302250; omega⟩ dL_law_232 (fun H locs hG => ?_)
        refine lv_icmp_eq (tgt := 1133) hx hb dL_law_235 (by decide) (fun hc23 => ?_) (fun hc23 => ?_)
        · replace hf := ite_t hf hc23
          refine W.widen (k := 1000 + (t1.2.2.2.2 + 1)) (n := 20000 + 3 * (t1.2.2.2.2 + 1)) (by omega) (by omega) ?_
          exact hK6 _ hf _ _ _ _ hG (lv_sub hl [0, 1, 2, 3] rfl)
        · replace hf := ite_f hf hc23
          refine lv_iconst (v := 0) hx hb dL_law_238 (by decide) ?_
          cases hf
      · replace hf := ite_f hf hk7_1
        by_cases hk7_2 : (x4 &&& 31) = 2
        · replace hf := ite_t hf hk7_2
          refine r_tsi (tgt := 240) (off := 207) X dL_law_33 hk7_2 (by decide +kernel) (by decide +kernel) (by decide) ?_
          refine lv_aload_n hx hb dL_law_240 rfl (lv_at hl 1 rfl) ?_
          refine lv_aload_n hx hb dL_law_241 rfl (lv_at hl 0 rfl) ?_
          refine lv_iload_n hx hb dL_law_242 rfl (lv_at hl 3 rfl) ?_
          refine lv_iconst (v := 1) hx hb dL_law_243 (by decide) ?_
          refine lv_iadd hx hb dL_law_244 ?_
          obtain ⟨hix24, hf⟩ := ck_inv hf
          refine va_sld hx hb hX hbl hbA hG.2.2 (ib_in hix24) dL_law_245 ?_
          refine r_bni hf (fun x24 hf => ?_)
          refine lv_aload_n hx hb dL_law_246 rfl (lv_at hl 0 rfl) ?_
          refine lv_iload_n hx hb dL_law_247 rfl (lv_at hl 3 rfl) ?_
          refine lv_iconst (v := 2) hx hb dL_law_248 (by decide) ?_
          refine lv_iadd hx hb dL_law_249 ?_
          obtain ⟨hix25, hf⟩ := ck_inv hf
          refine va_sld hx hb hX hbl hbA hG.2.2 (ib_in hix25) dL_law_250 ?_
          refine r_bni hf (fun x25 hf => ?_)
          refine lv_aload_n hx hb dL_law_251 rfl (lv_at hl 0 rfl) ?_
          refine lv_iload_n hx hb dL_law_252 rfl (lv_at hl 3 rfl) ?_
          refine lv_iconst (v := 3) hx hb dL_law_253 (by decide) ?_
          refine lv_iadd hx hb dL_law_254 ?_
          obtain ⟨hix26, hf⟩ := ck_inv hf
          refine va_sld hx hb hX hbl hbA hG.2.2 (ib_in hix26) dL_law_255 ?_
          refine r_bni hf (fun x26 hf => ?_)
          obtain ⟨q27, hq27, hf⟩ := cl_inv hf
          refine r_callVm (bc := wC g o a t1.2.1 t1.2.2.1) (br := [wX8 g om adm t1.2.2.2.1]) (As := [.int x24, .int x25, .int x26]) (rest := []) X hG hl.1 (c_X7_way g l o a t1.2.1 (by omega) n x24 x25 x26 t1.2.2.1 q27 hq27) (List.Perm.refl _) lk_X7_way lv_X7_way ml_L_23 (j := 0) (k := 0) rfl rfl rfl rfl rfl ⟨Nat.le_of_ble_eq_true rfl, Nat.le_of_ble_eq_true rfl⟩ rfl rfl (Nat.le_of_ble_eq_true rfl) ⟨by show (_ : Nat) ≤ 600000; omega, by show (_ : Nat) ≤ 7302250; omega⟩ dL_law_256 (fun u H locs hG => ?_)
          rw [wC_cond] at hG
          generalize cond q27.2.1 (upa a t1.2.1 u) a = a at hG
          refine lv_aload_n hx hb dL_law_259 rfl (lv_at hl 2 rfl) ?_
          refine lv_aload_n hx hb dL_law_260 rfl (lv_at hl 0 rfl) ?_
          refine lv_iload_n hx hb dL_law_261 rfl (lv_at hl 3 rfl) ?_
          refine lv_iconst (v := 1) hx hb dL_law_262 (by decide) ?_
          refine lv_iadd hx hb dL_law_263 ?_
          obtain ⟨hix28, hf⟩ := ck_inv hf
          refine va_sld hx hb hX hbl hbA hG.2.2 (ib_in hix28) dL_law_264 ?_
          refine r_bni hf (fun x28 hf => ?_)
          refine lv_aload_n hx hb dL_law_265 rfl (lv_at hl 0 rfl) ?_
          refine lv_iload_n hx hb dL_law_266 rfl (lv_at hl 3 rfl) ?_
          refine lv_iconst (v := 2) hx hb dL_law_267 (by decide) ?_
          refine lv_iadd hx hb dL_law_268 ?_
          obtain ⟨hix29, hf⟩ := ck_inv hf
          refine va_sld hx hb hX hbl hbA hG.2.2 (ib_in hix29) dL_law_269 ?_
          refine r_bni hf (fun x29 hf => ?_)
          refine lv_aload_n hx hb dL_law_270 rfl (lv_at hl 0 rfl) ?_
          refine lv_iload_n hx hb dL_law_271 rfl (lv_at hl 3 rfl) ?_
          refine lv_iconst (v := 3) hx hb dL_law_272 (by decide) ?_
          refine lv_iadd hx hb dL_law_273 ?_
          obtain ⟨hix30, hf⟩ := ck_inv hf
          refine va_sld hx hb hX hbl hbA hG.2.2 (ib_in hix30) dL_law_274 ?_
          refine r_bni hf (fun x30 hf => ?_)
          obtain ⟨q31, hq31, hf⟩ := cl_inv hf
          refine r_callVi (bc := [wX8 g om adm t1.2.2.2.1]) (br := wC g o a (cond q27.2.1 (t1.2.1 + 1) t1.2.1) q27.2.2) (bs' := (wC g o a (cond q27.2.1 (t1.2.1 + 1) t1.2.1) q27.2.2 ++ [wX8 g om adm q31.2])) (As := [.int x28, .int x29, .int x30]) (rest := [.int q27.1]) X hG hl.1 (c_X8_way g l om adm n x28 x29 x30 t1.2.2.2.1 q31 hq31) (List.perm_append_comm.flatten) (List.perm_append_comm.flatten) lk_X8_way lv_X8_way ml_L_26 (j := 11) (k := 0) rfl rfl rfl rfl rfl ⟨Nat.le_of_ble_eq_true rfl, Nat.le_of_ble_eq_true rfl⟩ rfl rfl (Nat.le_of_ble_eq_true rfl) ⟨by show (_ : Nat) ≤ 600000; omega, by show (_ : Nat) ≤ 7302250; omega⟩ dL_law_275 (fun H locs hG => ?_)
          refine lv_icmp_eq (tgt := 1133) hx hb dL_law_278 (by decide) (fun hc32 => ?_) (fun hc32 => ?_)
          · replace hf := ite_t hf hc32
            refine W.widen (k := 1000 + (t1.2.2.2.2 + 1)) (n := 20000 + 3 * (t1.2.2.2.2 + 1)) (by omega) (by omega) ?_
            exact hK6 _ hf _ _ _ _ hG (lv_sub hl [0, 1, 2, 3] rfl)
          · replace hf := ite_f hf hc32
            refine lv_iconst (v := 0) hx hb dL_law_281 (by decide) ?_
            cases hf
        · replace hf := ite_f hf hk7_2
          by_cases hk7_3 : (x4 &&& 31) = 3
          · replace hf := ite_t hf hk7_3
            refine r_tsi (tgt := 283) (off := 250) X dL_law_33 hk7_3 (by decide +kernel) (by decide +kernel) (by decide) ?_
            refine lv_aload_n hx hb dL_law_283 rfl (lv_at hl 1 rfl) ?_
            refine lv_aload_n hx hb dL_law_284 rfl (lv_at hl 0 rfl) ?_
            refine lv_iload_n hx hb dL_law_285 rfl (lv_at hl 3 rfl) ?_
            refine lv_iconst (v := 1) hx hb dL_law_286 (by decide) ?_
            refine lv_iadd hx hb dL_law_287 ?_
            obtain ⟨hix33, hf⟩ := ck_inv hf
            refine va_sld hx hb hX hbl hbA hG.2.2 (ib_in hix33) dL_law_288 ?_
            refine r_bni hf (fun x33 hf => ?_)
            refine lv_aload_n hx hb dL_law_289 rfl (lv_at hl 0 rfl) ?_
            refine lv_iload_n hx hb dL_law_290 rfl (lv_at hl 3 rfl) ?_
            refine lv_iconst (v := 2) hx hb dL_law_291 (by decide) ?_
            refine lv_iadd hx hb dL_law_292 ?_
            obtain ⟨hix34, hf⟩ := ck_inv hf
            refine va_sld hx hb hX hbl hbA hG.2.2 (ib_in hix34) dL_law_293 ?_
            refine r_bni hf (fun x34 hf => ?_)
            refine lv_aload_n hx hb dL_law_294 rfl (lv_at hl 0 rfl) ?_
            refine lv_iload_n hx hb dL_law_295 rfl (lv_at hl 3 rfl) ?_
            refine lv_iconst (v := 3) hx hb dL_law_296 (by decide) ?_
            refine lv_iadd hx hb dL_law_297 ?_
            obtain ⟨hix35, hf⟩ := ck_inv hf
            refine va_sld hx hb hX hbl hbA hG.2.2 (ib_in hix35) dL_law_298 ?_
            refine r_bni hf (fun x35 hf => ?_)
            obtain ⟨q36, hq36, hf⟩ := cl_inv hf
            refine r_callVi (bc := wC g o a t1.2.1 t1.2.2.1) (br := [wX8 g om adm t1.2.2.2.1]) (bs' := (wC g o a t1.2.1 q36.2 ++ [wX8 g om adm t1.2.2.2.1])) (As := [.int x33, .int x34, .int x35]) (rest := []) X hG hl.1 (c_X7_set g l o a t1.2.1 n x33 x34 x35 t1.2.2.1 q36 hq36) (List.Perm.refl _) (List.Perm.refl _) lk_X7_set lv_X7_set ml_L_27 (j := 0) (k := 0) rfl rfl rfl rfl rfl ⟨Nat.le_of_ble_eq_true rfl, Nat.le_of_ble_eq_true rfl⟩ rfl rfl (Nat.le_of_ble_eq_true rfl) ⟨by show (_ : Nat) ≤ 600000; omega, by show (_ : Nat) ≤ 7302250; omega⟩ dL_law_299 (fun H locs hG => ?_)
            refine lv_aload_n hx hb dL_law_302 rfl (lv_at hl 2 rfl) ?_
            refine lv_aload_n hx hb dL_law_303 rfl (lv_at hl 0 rfl) ?_
            refine lv_iload_n hx hb dL_law_304 rfl (lv_at hl 3 rfl) ?_
            refine lv_iconst (v := 1) hx hb dL_law_305 (by decide) ?_
            refine lv_iadd hx hb dL_law_306 ?_
            obtain ⟨hix37, hf⟩ := ck_inv hf
            refine va_sld hx hb hX hbl hbA hG.2.2 (ib_in hix37) dL_law_307 ?_
            refine r_bni hf (fun x37 hf => ?_)
            refine lv_aload_n hx hb dL_law_308 rfl (lv_at hl 0 rfl) ?_
            refine lv_iload_n hx hb dL_law_309 rfl (lv_at hl 3 rfl) ?_
            refine lv_iconst (v := 2) hx hb dL_law_310 (by decide) ?_
            refine lv_iadd hx hb dL_law_311 ?_
            obtain ⟨hix38, hf⟩ := ck_inv hf
            refine va_sld hx hb hX hbl hbA hG.2.2 (ib_in hix38) dL_law_312 ?_
            refine r_bni hf (fun x38 hf => ?_)
            refine lv_aload_n hx hb dL_law_313 rfl (lv_at hl 0 rfl) ?_
            refine lv_iload_n hx hb dL_law_314 rfl (lv_at hl 3 rfl) ?_
            refine lv_iconst (v := 3) hx hb dL_law_315 (by decide) ?_
            refine lv_iadd hx hb dL_law_316 ?_
            obtain ⟨hix39, hf⟩ := ck_inv hf
            refine va_sld hx hb hX hbl hbA hG.2.2 (ib_in hix39) dL_law_317 ?_
            refine r_bni hf (fun x39 hf => ?_)
            obtain ⟨q40, hq40, hf⟩ := cl_inv hf
            refine r_callVi (bc := [wX8 g om adm t1.2.2.2.1]) (br := wC g o a t1.2.1 q36.2) (bs' := (wC g o a t1.2.1 q36.2 ++ [wX8 g om adm q40.2])) (As := [.int x37, .int x38, .int x39]) (rest := [.int q36.1]) X hG hl.1 (c_X8_set g l om adm n x37 x38 x39 t1.2.2.2.1 q40 hq40) (List.perm_append_comm.flatten) (List.perm_append_comm.flatten) lk_X8_set lv_X8_set ml_L_30 (j := 11) (k := 0) rfl rfl rfl rfl rfl ⟨Nat.le_of_ble_eq_true rfl, Nat.le_of_ble_eq_true rfl⟩ rfl rfl (Nat.le_of_ble_eq_true rfl) ⟨by show (_ : Nat) ≤ 600000; omega, by show (_ : Nat) ≤ 7302250; omega⟩ dL_law_318 (fun H locs hG => ?_)
            refine lv_icmp_eq (tgt := 1133) hx hb dL_law_321 (by decide) (fun hc41 => ?_) (fun hc41 => ?_)
            · replace hf := ite_t hf hc41
              refine W.widen (k := 1000 + (t1.2.2.2.2 + 1)) (n := 20000 + 3 * (t1.2.2.2.2 + 1)) (by omega) (by omega) ?_
              exact hK6 _ hf _ _ _ _ hG (lv_sub hl [0, 1, 2, 3] rfl)
            · replace hf := ite_f hf hc41
              refine lv_iconst (v := 0) hx hb dL_law_324 (by decide) ?_
              cases hf
          · replace hf := ite_f hf hk7_3
            by_cases hk7_4 : (x4 &&& 31) = 4
            · replace hf := ite_t hf hk7_4
              refine r_tsi (tgt := 326) (off := 293) X dL_law_33 hk7_4 (by decide +kernel) (by decide +kernel) (by decide) ?_
              refine lv_aload_n hx hb dL_law_326 rfl (lv_at hl 1 rfl) ?_
              refine lv_aload_n hx hb dL_law_327 rfl (lv_at hl 0 rfl) ?_
              refine lv_iload_n hx hb dL_law_328 rfl (lv_at hl 3 rfl) ?_
              refine lv_iconst (v := 1) hx hb dL_law_329 (by decide) ?_
              refine lv_iadd hx hb dL_law_330 ?_
              obtain ⟨hix42, hf⟩ := ck_inv hf
              refine va_sld hx hb hX hbl hbA hG.2.2 (ib_in hix42) dL_law_331 ?_
              refine r_bni hf (fun x42 hf => ?_)
              refine lv_aload_n hx hb dL_law_332 rfl (lv_at hl 0 rfl) ?_
              refine lv_iload_n hx hb dL_law_333 rfl (lv_at hl 3 rfl) ?_
              refine lv_iconst (v := 2) hx hb dL_law_334 (by decide) ?_
              refine lv_iadd hx hb dL_law_335 ?_
              obtain ⟨hix43, hf⟩ := ck_inv hf
              refine va_sld hx hb hX hbl hbA hG.2.2 (ib_in hix43) dL_law_336 ?_
              refine r_bni hf (fun x43 hf => ?_)
              obtain ⟨q44, hq44, hf⟩ := cl_inv hf
              refine r_callVi (bc := wC g o a t1.2.1 t1.2.2.1) (br := [wX8 g om adm t1.2.2.2.1]) (bs' := (wC g o a t1.2.1 q44.2 ++ [wX8 g om adm t1.2.2.2.1])) (As := [.int x42, .int x43]) (rest := []) X hG hl.1 (c_X7_shut g l o a t1.2.1 n x42 x43 t1.2.2.1 q44 hq44) (List.Perm.refl _) (List.Perm.refl _) lk_X7_shut lv_X7_shut ml_L_31 (j := 0) (k := 0) rfl rfl rfl rfl rfl ⟨Nat.le_of_ble_eq_true rfl, Nat.le_of_ble_eq_true rfl⟩ rfl rfl (Nat.le_of_ble_eq_true rfl) ⟨by show (_ : Nat) ≤ 600000; omega, by show (_ : Nat) ≤ 7302250; omega⟩ dL_law_337 (fun H locs hG => ?_)
              refine lv_aload_n hx hb dL_law_340 rfl (lv_at hl 2 rfl) ?_
              refine lv_aload_n hx hb dL_law_341 rfl (lv_at hl 0 rfl) ?_
              refine lv_iload_n hx hb dL_law_342 rfl (lv_at hl 3 rfl) ?_
              refine lv_iconst (v := 1) hx hb dL_law_343 (by decide) ?_
              refine lv_iadd hx hb dL_law_344 ?_
              obtain ⟨hix45, hf⟩ := ck_inv hf
              refine va_sld hx hb hX hbl hbA hG.2.2 (ib_in hix45) dL_law_345 ?_
              refine r_bni hf (fun x45 hf => ?_)
              refine lv_aload_n hx hb dL_law_346 rfl (lv_at hl 0 rfl) ?_
              refine lv_iload_n hx hb dL_law_347 rfl (lv_at hl 3 rfl) ?_
              refine lv_iconst (v := 2) hx hb dL_law_348 (by decide) ?_
              refine lv_iadd hx hb dL_law_349 ?_
              obtain ⟨hix46, hf⟩ := ck_inv hf
              refine va_sld hx hb hX hbl hbA hG.2.2 (ib_in hix46) dL_law_350 ?_
              refine r_bni hf (fun x46 hf => ?_)
              obtain ⟨q47, hq47, hf⟩ := cl_inv hf
              refine r_callVi (bc := [wX8 g om adm t1.2.2.2.1]) (br := wC g o a t1.2.1 q44.2) (bs' := (wC g o a t1.2.1 q44.2 ++ [wX8 g om adm q47.2])) (As := [.int x45, .int x46]) (rest := [.int q44.1]) X hG hl.1 (c_X8_shut g l om adm n x45 x46 t1.2.2.2.1 q47 hq47) (List.perm_append_comm.flatten) (List.perm_append_comm.flatten) lk_X8_shut lv_X8_shut ml_L_34 (j := 11) (k := 0) rfl rfl rfl rfl rfl ⟨Nat.le_of_ble_eq_true rfl, Nat.le_of_ble_eq_true rfl⟩ rfl rfl (Nat.le_of_ble_eq_true rfl) ⟨by show (_ : Nat) ≤ 600000; omega, by show (_ : Nat) ≤ 7302250; omega⟩ dL_law_351 (fun H locs hG => ?_)
              refine lv_icmp_eq (tgt := 1133) hx hb dL_law_354 (by decide) (fun hc48 => ?_) (fun hc48 => ?_)
              · replace hf := ite_t hf hc48
                refine W.widen (k := 1000 + (t1.2.2.2.2 + 1)) (n := 20000 + 3 * (t1.2.2.2.2 + 1)) (by omega) (by omega) ?_
                exact hK6 _ hf _ _ _ _ hG (lv_sub hl [0, 1, 2, 3] rfl)
              · replace hf := ite_f hf hc48
                refine lv_iconst (v := 0) hx hb dL_law_357 (by decide) ?_
                cases hf
            · replace hf := ite_f hf hk7_4
              by_cases hk7_5 : (x4 &&& 31) = 5
              · replace hf := ite_t hf hk7_5
                refine r_tsi (tgt := 359) (off := 326) X dL_law_33 hk7_5 (by decide +kernel) (by decide +kernel) (by decide) ?_
                refine lv_aload_n hx hb dL_law_359 rfl (lv_at hl 1 rfl) ?_
                refine lv_aload_n hx hb dL_law_360 rfl (lv_at hl 0 rfl) ?_
                refine lv_iload_n hx hb dL_law_361 rfl (lv_at hl 3 rfl) ?_
                refine lv_iconst (v := 1) hx hb dL_law_362 (by decide) ?_
                refine lv_iadd hx hb dL_law_363 ?_
                obtain ⟨hix49, hf⟩ := ck_inv hf
                refine va_sld hx hb hX hbl hbA hG.2.2 (ib_in hix49) dL_law_364 ?_
                refine r_bni hf (fun x49 hf => ?_)
                refine lv_aload_n hx hb dL_law_365 rfl (lv_at hl 0 rfl) ?_
                refine lv_iload_n hx hb dL_law_366 rfl (lv_at hl 3 rfl) ?_
                refine lv_iconst (v := 2) hx hb dL_law_367 (by decide) ?_
                refine lv_iadd hx hb dL_law_368 ?_
                obtain ⟨hix50, hf⟩ := ck_inv hf
                refine va_sld hx hb hX hbl hbA hG.2.2 (ib_in hix50) dL_law_369 ?_
                refine r_bni hf (fun x50 hf => ?_)
                refine lv_aload_n hx hb dL_law_370 rfl (lv_at hl 0 rfl) ?_
                refine lv_iload_n hx hb dL_law_371 rfl (lv_at hl 3 rfl) ?_
                refine lv_iconst (v := 3) hx hb dL_law_372 (by decide) ?_
                refine lv_iadd hx hb dL_law_373 ?_
                obtain ⟨hix51, hf⟩ := ck_inv hf
                refine va_sld hx hb hX hbl hbA hG.2.2 (ib_in hix51) dL_law_374 ?_
                refine r_bni hf (fun x51 hf => ?_)
                obtain ⟨q52, hq52, hf⟩ := cl_inv hf
                refine r_callVi (bc := wC g o a t1.2.1 t1.2.2.1) (br := [wX8 g om adm t1.2.2.2.1]) (bs' := (wC g o a t1.2.1 t1.2.2.1 ++ [wX8 g om adm t1.2.2.2.1])) (As := [.int x49, .int x50, .int x51]) (rest := []) X hG hl.1 (c_X7_told g l o a t1.2.1 n x49 x50 x51 t1.2.2.1 q52 hq52) (List.Perm.refl _) (List.Perm.refl _) lk_X7_told lv_X7_told ml_L_35 (j := 0) (k := 0) rfl rfl rfl rfl rfl ⟨Nat.le_of_ble_eq_true rfl, Nat.le_of_ble_eq_true rfl⟩ rfl rfl (Nat.le_of_ble_eq_true rfl) ⟨by show (_ : Nat) ≤ 600000; omega, by show (_ : Nat) ≤ 7302250; omega⟩ dL_law_375 (fun H locs hG => ?_)
                refine lv_aload_n hx hb dL_law_378 rfl (lv_at hl 2 rfl) ?_
                refine lv_aload_n hx hb dL_law_379 rfl (lv_at hl 0 rfl) ?_
                refine lv_iload_n hx hb dL_law_380 rfl (lv_at hl 3 rfl) ?_
                refine lv_iconst (v := 1) hx hb dL_law_381 (by decide) ?_
                refine lv_iadd hx hb dL_law_382 ?_
                obtain ⟨hix53, hf⟩ := ck_inv hf
                refine va_sld hx hb hX hbl hbA hG.2.2 (ib_in hix53) dL_law_383 ?_
                refine r_bni hf (fun x53 hf => ?_)
                refine lv_aload_n hx hb dL_law_384 rfl (lv_at hl 0 rfl) ?_
                refine lv_iload_n hx hb dL_law_385 rfl (lv_at hl 3 rfl) ?_
                refine lv_iconst (v := 2) hx hb dL_law_386 (by decide) ?_
                refine lv_iadd hx hb dL_law_387 ?_
                obtain ⟨hix54, hf⟩ := ck_inv hf
                refine va_sld hx hb hX hbl hbA hG.2.2 (ib_in hix54) dL_law_388 ?_
                refine r_bni hf (fun x54 hf => ?_)
                refine lv_aload_n hx hb dL_law_389 rfl (lv_at hl 0 rfl) ?_
                refine lv_iload_n hx hb dL_law_390 rfl (lv_at hl 3 rfl) ?_
                refine lv_iconst (v := 3) hx hb dL_law_391 (by decide) ?_
                refine lv_iadd hx hb dL_law_392 ?_
                obtain ⟨hix55, hf⟩ := ck_inv hf
                refine va_sld hx hb hX hbl hbA hG.2.2 (ib_in hix55) dL_law_393 ?_
                refine r_bni hf (fun x55 hf => ?_)
                obtain ⟨q56, hq56, hf⟩ := cl_inv hf
                refine r_callVi (bc := [wX8 g om adm t1.2.2.2.1]) (br := wC g o a t1.2.1 t1.2.2.1) (bs' := (wC g o a t1.2.1 t1.2.2.1 ++ [wX8 g om adm t1.2.2.2.1])) (As := [.int x53, .int x54, .int x55]) (rest := [.int q52]) X hG hl.1 (c_X8_told g l om adm n x53 x54 x55 t1.2.2.2.1 q56 hq56) (List.perm_append_comm.flatten) (List.perm_append_comm.flatten) lk_X8_told lv_X8_told ml_L_38 (j := 11) (k := 0) rfl rfl rfl rfl rfl ⟨Nat.le_of_ble_eq_true rfl, Nat.le_of_ble_eq_true rfl⟩ rfl rfl (Nat.le_of_ble_eq_true rfl) ⟨by show (_ : Nat) ≤ 600000; omega, by show (_ : Nat) ≤ 7302250; omega⟩ dL_law_394 (fun H locs hG => ?_)
                refine lv_icmp_eq (tgt := 1133) hx hb dL_law_397 (by decide) (fun hc57 => ?_) (fun hc57 => ?_)
                · replace hf := ite_t hf hc57
                  refine W.widen (k := 1000 + (t1.2.2.2.2 + 1)) (n := 20000 + 3 * (t1.2.2.2.2 + 1)) (by omega) (by omega) ?_
                  exact hK6 _ hf _ _ _ _ hG (lv_sub hl [0, 1, 2, 3] rfl)
                · replace hf := ite_f hf hc57
                  refine lv_iconst (v := 0) hx hb dL_law_400 (by decide) ?_
                  cases hf
              · replace hf := ite_f hf hk7_5
                by_cases hk7_6 : (x4 &&& 31) = 6
                · replace hf := ite_t hf hk7_6
                  refine r_tsi (tgt := 402) (off := 369) X dL_law_33 hk7_6 (by decide +kernel) (by decide +kernel) (by decide) ?_
                  refine lv_aload_n hx hb dL_law_402 rfl (lv_at hl 1 rfl) ?_
                  refine lv_aload_n hx hb dL_law_403 rfl (lv_at hl 0 rfl) ?_
                  refine lv_iload_n hx hb dL_law_404 rfl (lv_at hl 3 rfl) ?_
                  refine lv_iconst (v := 1) hx hb dL_law_405 (by decide) ?_
                  refine lv_iadd hx hb dL_law_406 ?_
                  obtain ⟨hix58, hf⟩ := ck_inv hf
                  refine va_sld hx hb hX hbl hbA hG.2.2 (ib_in hix58) dL_law_407 ?_
                  refine r_bni hf (fun x58 hf => ?_)
                  refine lv_aload_n hx hb dL_law_408 rfl (lv_at hl 0 rfl) ?_
                  refine lv_iload_n hx hb dL_law_409 rfl (lv_at hl 3 rfl) ?_
                  refine lv_iconst (v := 2) hx hb dL_law_410 (by decide) ?_
                  refine lv_iadd hx hb dL_law_411 ?_
                  obtain ⟨hix59, hf⟩ := ck_inv hf
                  refine va_sld hx hb hX hbl hbA hG.2.2 (ib_in hix59) dL_law_412 ?_
                  refine r_bni hf (fun x59 hf => ?_)
                  refine lv_i2l hx hb dL_law_413 rfl ?_
                  refine lv_bipush (v := 32) hx hb dL_law_414 (by decide) ?_
                  refine lv_lshl hx hb dL_law_416 rfl ?_
                  refine lv_aload_n hx hb dL_law_417 rfl (lv_at hl 0 rfl) ?_
                  refine lv_iload_n hx hb dL_law_418 rfl (lv_at hl 3 rfl) ?_
                  refine lv_iconst (v := 3) hx hb dL_law_419 (by decide) ?_
                  refine lv_iadd hx hb dL_law_420 ?_
                  obtain ⟨hix60, hf⟩ := ck_inv hf
                  refine va_sld hx hb hX hbl hbA hG.2.2 (ib_in hix60) dL_law_421 ?_
                  refine r_bni hf (fun x60 hf => ?_)
                  refine lv_i2l hx hb dL_law_422 rfl ?_
                  refine lv_ldc2 hx hb hown (X.2.2.2.2.1 _ kl_L_39) dL_law_423 ?_
                  refine lv_land hx hb dL_law_426 ?_
                  refine lv_lor hx hb dL_law_427 ?_
                  obtain ⟨q61, hq61, hf⟩ := cl_inv hf
                  refine r_callVi (bc := wC g o a t1.2.1 t1.2.2.1) (br := [wX8 g om adm t1.2.2.2.1]) (bs' := (wC g o a t1.2.1 q61.2 ++ [wX8 g om adm t1.2.2.2.1])) (As := [.int x58, .long (((Int32.toInt64 x59) <<< (Int32.toInt64 32 &&& 63)) ||| ((Int32.toInt64 x60) &&& 4294967295))]) (rest := []) X hG hl.1 (c_X7_feed g l o a t1.2.1 n x58 (((Int32.toInt64 x59) <<< (Int32.toInt64 32 &&& 63)) ||| ((Int32.toInt64 x60) &&& 4294967295)) t1.2.2.1 q61 hq61) (List.Perm.refl _) (List.Perm.refl _) lk_X7_feed lv_X7_feed ml_L_41 (j := 0) (k := 0) rfl rfl rfl rfl rfl ⟨Nat.le_of_ble_eq_true rfl, Nat.le_of_ble_eq_true rfl⟩ rfl rfl (Nat.le_of_ble_eq_true rfl) ⟨by show (_ : Nat) ≤ 600000; omega, by show (_ : Nat) ≤ 7302250; omega⟩ dL_law_428 (fun H locs hG => ?_)
                  refine lv_aload_n hx hb dL_law_431 rfl (lv_at hl 2 rfl) ?_
                  refine lv_aload_n hx hb dL_law_432 rfl (lv_at hl 0 rfl) ?_
                  refine lv_iload_n hx hb dL_law_433 rfl (lv_at hl 3 rfl) ?_
                  refine lv_iconst (v := 1) hx hb dL_law_434 (by decide) ?_
                  refine lv_iadd hx hb dL_law_435 ?_
                  obtain ⟨hix62, hf⟩ := ck_inv hf
                  refine va_sld hx hb hX hbl hbA hG.2.2 (ib_in hix62) dL_law_436 ?_
                  refine r_bni hf (fun x62 hf => ?_)
                  refine lv_aload_n hx hb dL_law_437 rfl (lv_at hl 0 rfl) ?_
                  refine lv_iload_n hx hb dL_law_438 rfl (lv_at hl 3 rfl) ?_
                  refine lv_iconst (v := 2) hx hb dL_law_439 (by decide) ?_
                  refine lv_iadd hx hb dL_law_440 ?_
                  obtain ⟨hix63, hf⟩ := ck_inv hf
                  refine va_sld hx hb hX hbl hbA hG.2.2 (ib_in hix63) dL_law_441 ?_
                  refine r_bni hf (fun x63 hf => ?_)
                  refine lv_i2l hx hb dL_law_442 rfl ?_
                  refine lv_bipush (v := 32) hx hb dL_law_443 (by decide) ?_
                  refine lv_lshl hx hb dL_law_445 rfl ?_
                  refine lv_aload_n hx hb dL_law_446 rfl (lv_at hl 0 rfl) ?_
                  refine lv_iload_n hx hb dL_law_447 rfl (lv_at hl 3 rfl) ?_
                  refine lv_iconst (v := 3) hx hb dL_law_448 (by decide) ?_
                  refine lv_iadd hx hb dL_law_449 ?_
                  obtain ⟨hix64, hf⟩ := ck_inv hf
                  refine va_sld hx hb hX hbl hbA hG.2.2 (ib_in hix64) dL_law_450 ?_
                  refine r_bni hf (fun x64 hf => ?_)
                  refine lv_i2l hx hb dL_law_451 rfl ?_
                  refine lv_ldc2 hx hb hown (X.2.2.2.2.1 _ kl_L_39) dL_law_452 ?_
                  refine lv_land hx hb dL_law_455 ?_
                  refine lv_lor hx hb dL_law_456 ?_
                  obtain ⟨q65, hq65, hf⟩ := cl_inv hf
                  refine r_callVi (bc := [wX8 g om adm t1.2.2.2.1]) (br := wC g o a t1.2.1 q61.2) (bs' := (wC g o a t1.2.1 q61.2 ++ [wX8 g om adm q65.2])) (As := [.int x62, .long (((Int32.toInt64 x63) <<< (Int32.toInt64 32 &&& 63)) ||| ((Int32.toInt64 x64) &&& 4294967295))]) (rest := [.int q61.1]) X hG hl.1 (c_X8_feed g l om adm n x62 (((Int32.toInt64 x63) <<< (Int32.toInt64 32 &&& 63)) ||| ((Int32.toInt64 x64) &&& 4294967295)) t1.2.2.2.1 q65 hq65) (List.perm_append_comm.flatten) (List.perm_append_comm.flatten) lk_X8_feed lv_X8_feed ml_L_45 (j := 11) (k := 0) rfl rfl rfl rfl rfl ⟨Nat.le_of_ble_eq_true rfl, Nat.le_of_ble_eq_true rfl⟩ rfl rfl (Nat.le_of_ble_eq_true rfl) ⟨by show (_ : Nat) ≤ 600000; omega, by show (_ : Nat) ≤ 7302250; omega⟩ dL_law_457 (fun H locs hG => ?_)
                  refine lv_icmp_eq (tgt := 1133) hx hb dL_law_460 (by decide) (fun hc66 => ?_) (fun hc66 => ?_)
                  · replace hf := ite_t hf hc66
                    refine W.widen (k := 1000 + (t1.2.2.2.2 + 1)) (n := 20000 + 3 * (t1.2.2.2.2 + 1)) (by omega) (by omega) ?_
                    exact hK6 _ hf _ _ _ _ hG (lv_sub hl [0, 1, 2, 3] rfl)
                  · replace hf := ite_f hf hc66
                    refine lv_iconst (v := 0) hx hb dL_law_463 (by decide) ?_
                    cases hf
                · replace hf := ite_f hf hk7_6
                  by_cases hk7_7 : (x4 &&& 31) = 7
                  · replace hf := ite_t hf hk7_7
                    refine r_tsi (tgt := 465) (off := 432) X dL_law_33 hk7_7 (by decide +kernel) (by decide +kernel) (by decide) ?_
                    refine lv_aload_n hx hb dL_law_465 rfl (lv_at hl 1 rfl) ?_
                    obtain ⟨q67, hq67, hf⟩ := cl_inv hf
                    refine r_callVi (bc := wC g o a t1.2.1 t1.2.2.1) (br := [wX8 g om adm t1.2.2.2.1]) (bs' := (wC g o a t1.2.1 q67.2 ++ [wX8 g om adm t1.2.2.2.1])) (As := []) (rest := []) X hG hl.1 (c_X7_text g l o a t1.2.1 n t1.2.2.1 q67 hq67) (List.Perm.refl _) (List.Perm.refl _) lk_X7_text lv_X7_text ml_L_46 (j := 0) (k := 0) rfl rfl rfl rfl rfl ⟨Nat.le_of_ble_eq_true rfl, Nat.le_of_ble_eq_true rfl⟩ rfl rfl (Nat.le_of_ble_eq_true rfl) ⟨by show (_ : Nat) ≤ 600000; omega, by show (_ : Nat) ≤ 7302250; omega⟩ dL_law_466 (fun H locs hG => ?_)
                    refine lv_aload_n hx hb dL_law_469 rfl (lv_at hl 2 rfl) ?_
                    obtain ⟨q68, hq68, hf⟩ := cl_inv hf
                    refine r_callVi (bc := [wX8 g om adm t1.2.2.2.1]) (br := wC g o a t1.2.1 q67.2) (bs' := (wC g o a t1.2.1 q67.2 ++ [wX8 g om adm q68.2])) (As := []) (rest := [.int q67.1]) X hG hl.1 (c_X8_text g l om adm n t1.2.2.2.1 q68 hq68) (List.perm_append_comm.flatten) (List.perm_append_comm.flatten) lk_X8_text lv_X8_text ml_L_50 (j := 11) (k := 0) rfl rfl rfl rfl rfl ⟨Nat.le_of_ble_eq_true rfl, Nat.le_of_ble_eq_true rfl⟩ rfl rfl (Nat.le_of_ble_eq_true rfl) ⟨by show (_ : Nat) ≤ 600000; omega, by show (_ : Nat) ≤ 7302250; omega⟩ dL_law_470 (fun H locs hG => ?_)
                    refine lv_icmp_eq (tgt := 1133) hx hb dL_law_473 (by decide) (fun hc69 => ?_) (fun hc69 => ?_)
                    · replace hf := ite_t hf hc69
                      refine W.widen (k := 1000 + (t1.2.2.2.2 + 1)) (n := 20000 + 3 * (t1.2.2.2.2 + 1)) (by omega) (by omega) ?_
                      exact hK6 _ hf _ _ _ _ hG (lv_sub hl [0, 1, 2, 3] rfl)
                    · replace hf := ite_f hf hc69
                      refine lv_iconst (v := 0) hx hb dL_law_476 (by decide) ?_
                      cases hf
                  · replace hf := ite_f hf hk7_7
                    by_cases hk7_8 : (x4 &&& 31) = 8
                    · replace hf := ite_t hf hk7_8
                      refine r_tsi (tgt := 478) (off := 445) X dL_law_33 hk7_8 (by decide +kernel) (by decide +kernel) (by decide) ?_
                      refine lv_aload_n hx hb dL_law_478 rfl (lv_at hl 1 rfl) ?_
                      refine lv_aload_n hx hb dL_law_479 rfl (lv_at hl 0 rfl) ?_
                      refine lv_iload_n hx hb dL_law_480 rfl (lv_at hl 3 rfl) ?_
                      refine lv_iconst (v := 1) hx hb dL_law_481 (by decide) ?_
                      refine lv_iadd hx hb dL_law_482 ?_
                      obtain ⟨hix70, hf⟩ := ck_inv hf
                      refine va_sld hx hb hX hbl hbA hG.2.2 (ib_in hix70) dL_law_483 ?_
                      refine r_bni hf (fun x70 hf => ?_)
                      obtain ⟨q71, hq71, hf⟩ := cl_inv hf
                      refine r_callVi (bc := wC g o a t1.2.1 t1.2.2.1) (br := [wX8 g om adm t1.2.2.2.1]) (bs' := (wC g o a t1.2.1 q71.2 ++ [wX8 g om adm t1.2.2.2.1])) (As := [.int x70]) (rest := []) X hG hl.1 (c_X7_force g l o a t1.2.1 n x70 t1.2.2.1 q71 hq71) (List.Perm.refl _) (List.Perm.refl _) lk_X7_force lv_X7_force ml_L_51 (j := 0) (k := 0) rfl rfl rfl rfl rfl ⟨Nat.le_of_ble_eq_true rfl, Nat.le_of_ble_eq_true rfl⟩ rfl rfl (Nat.le_of_ble_eq_true rfl) ⟨by show (_ : Nat) ≤ 600000; omega, by show (_ : Nat) ≤ 7302250; omega⟩ dL_law_484 (fun H locs hG => ?_)
                      refine lv_aload_n hx hb dL_law_487 rfl (lv_at hl 2 rfl) ?_
                      refine lv_aload_n hx hb dL_law_488 rfl (lv_at hl 0 rfl) ?_
                      refine lv_iload_n hx hb dL_law_489 rfl (lv_at hl 3 rfl) ?_
                      refine lv_iconst (v := 1) hx hb dL_law_490 (by decide) ?_
                      refine lv_iadd hx hb dL_law_491 ?_
                      obtain ⟨hix72, hf⟩ := ck_inv hf
                      refine va_sld hx hb hX hbl hbA hG.2.2 (ib_in hix72) dL_law_492 ?_
                      refine r_bni hf (fun x72 hf => ?_)
                      obtain ⟨q73, hq73, hf⟩ := cl_inv hf
                      refine r_callVi (bc := [wX8 g om adm t1.2.2.2.1]) (br := wC g o a t1.2.1 q71.2) (bs' := (wC g o a t1.2.1 q71.2 ++ [wX8 g om adm q73.2])) (As := [.int x72]) (rest := [.int q71.1]) X hG hl.1 (c_X8_force g l om adm n x72 t1.2.2.2.1 q73 hq73) (List.perm_append_comm.flatten) (List.perm_append_comm.flatten) lk_X8_force lv_X8_force ml_L_55 (j := 11) (k := 0) rfl rfl rfl rfl rfl ⟨Nat.le_of_ble_eq_true rfl, Nat.le_of_ble_eq_true rfl⟩ rfl rfl (Nat.le_of_ble_eq_true rfl) ⟨by show (_ : Nat) ≤ 600000; omega, by show (_ : Nat) ≤ 7302250; omega⟩ dL_law_493 (fun H locs hG => ?_)
                      refine lv_icmp_eq (tgt := 1133) hx hb dL_law_496 (by decide) (fun hc74 => ?_) (fun hc74 => ?_)
                      · replace hf := ite_t hf hc74
                        refine W.widen (k := 1000 + (t1.2.2.2.2 + 1)) (n := 20000 + 3 * (t1.2.2.2.2 + 1)) (by omega) (by omega) ?_
                        exact hK6 _ hf _ _ _ _ hG (lv_sub hl [0, 1, 2, 3] rfl)
                      · replace hf := ite_f hf hc74
                        refine lv_iconst (v := 0) hx hb dL_law_499 (by decide) ?_
                        cases hf
                    · replace hf := ite_f hf hk7_8
                      by_cases hk7_9 : (x4 &&& 31) = 9
                      · replace hf := ite_t hf hk7_9
                        refine r_tsi (tgt := 501) (off := 468) X dL_law_33 hk7_9 (by decide +kernel) (by decide +kernel) (by decide) ?_
                        refine lv_aload_n hx hb dL_law_501 rfl (lv_at hl 1 rfl) ?_
                        refine lv_aload_n hx hb dL_law_502 rfl (lv_at hl 0 rfl) ?_
                        refine lv_iload_n hx hb dL_law_503 rfl (lv_at hl 3 rfl) ?_
                        refine lv_iconst (v := 1) hx hb dL_law_504 (by decide) ?_
                        refine lv_iadd hx hb dL_law_505 ?_
                        obtain ⟨hix75, hf⟩ := ck_inv hf
                        refine va_sld hx hb hX hbl hbA hG.2.2 (ib_in hix75) dL_law_506 ?_
                        refine r_bni hf (fun x75 hf => ?_)
                        refine lv_aload_n hx hb dL_law_507 rfl (lv_at hl 0 rfl) ?_
                        refine lv_iload_n hx hb dL_law_508 rfl (lv_at hl 3 rfl) ?_
                        refine lv_iconst (v := 2) hx hb dL_law_509 (by decide) ?_
                        refine lv_iadd hx hb dL_law_510 ?_
                        obtain ⟨hix76, hf⟩ := ck_inv hf
                        refine va_sld hx hb hX hbl hbA hG.2.2 (ib_in hix76) dL_law_511 ?_
                        refine r_bni hf (fun x76 hf => ?_)
                        obtain ⟨q77, hq77, hf⟩ := cl_inv hf
                        refine r_callVi (bc := wC g o a t1.2.1 t1.2.2.1) (br := [wX8 g om adm t1.2.2.2.1]) (bs' := (wC g o a t1.2.1 q77.2 ++ [wX8 g om adm t1.2.2.2.1])) (As := [.int x75, .int x76]) (rest := []) X hG hl.1 (c_X7_left g l o a t1.2.1 n x75 x76 t1.2.2.1 q77 hq77) (List.Perm.refl _) (List.Perm.refl _) lk_X7_left lv_X7_left ml_L_56 (j := 0) (k := 0) rfl rfl rfl rfl rfl ⟨Nat.le_of_ble_eq_true rfl, Nat.le_of_ble_eq_true rfl⟩ rfl rfl (Nat.le_of_ble_eq_true rfl) ⟨by show (_ : Nat) ≤ 600000; omega, by show (_ : Nat) ≤ 7302250; omega⟩ dL_law_512 (fun H locs hG => ?_)
                        refine lv_aload_n hx hb dL_law_515 rfl (lv_at hl 2 rfl) ?_
                        refine lv_aload_n hx hb dL_law_516 rfl (lv_at hl 0 rfl) ?_
                        refine lv_iload_n hx hb dL_law_517 rfl (lv_at hl 3 rfl) ?_
                        refine lv_iconst (v := 1) hx hb dL_law_518 (by decide) ?_
                        refine lv_iadd hx hb dL_law_519 ?_
                        obtain ⟨hix78, hf⟩ := ck_inv hf
                        refine va_sld hx hb hX hbl hbA hG.2.2 (ib_in hix78) dL_law_520 ?_
                        refine r_bni hf (fun x78 hf => ?_)
                        refine lv_aload_n hx hb dL_law_521 rfl (lv_at hl 0 rfl) ?_
                        refine lv_iload_n hx hb dL_law_522 rfl (lv_at hl 3 rfl) ?_
                        refine lv_iconst (v := 2) hx hb dL_law_523 (by decide) ?_
                        refine lv_iadd hx hb dL_law_524 ?_
                        obtain ⟨hix79, hf⟩ := ck_inv hf
                        refine va_sld hx hb hX hbl hbA hG.2.2 (ib_in hix79) dL_law_525 ?_
                        refine r_bni hf (fun x79 hf => ?_)
                        obtain ⟨q80, hq80, hf⟩ := cl_inv hf
                        refine r_callVi (bc := [wX8 g om adm t1.2.2.2.1]) (br := wC g o a t1.2.1 q77.2) (bs' := (wC g o a t1.2.1 q77.2 ++ [wX8 g om adm q80.2])) (As := [.int x78, .int x79]) (rest := [.int q77.1]) X hG hl.1 (c_X8_left g l om adm n x78 x79 t1.2.2.2.1 q80 hq80) (List.perm_append_comm.flatten) (List.perm_append_comm.flatten) lk_X8_left lv_X8_left ml_L_59 (j := 11) (k := 0) rfl rfl rfl rfl rfl ⟨Nat.le_of_ble_eq_true rfl, Nat.le_of_ble_eq_true rfl⟩ rfl rfl (Nat.le_of_ble_eq_true rfl) ⟨by show (_ : Nat) ≤ 600000; omega, by show (_ : Nat) ≤ 7302250; omega⟩ dL_law_526 (fun H locs hG => ?_)
                        refine lv_icmp_eq (tgt := 1133) hx hb dL_law_529 (by decide) (fun hc81 => ?_) (fun hc81 => ?_)
                        · replace hf := ite_t hf hc81
                          refine W.widen (k := 1000 + (t1.2.2.2.2 + 1)) (n := 20000 + 3 * (t1.2.2.2.2 + 1)) (by omega) (by omega) ?_
                          exact hK6 _ hf _ _ _ _ hG (lv_sub hl [0, 1, 2, 3] rfl)
                        · replace hf := ite_f hf hc81
                          refine lv_iconst (v := 0) hx hb dL_law_532 (by decide) ?_
                          cases hf
                      · replace hf := ite_f hf hk7_9
                        by_cases hk7_10 : (x4 &&& 31) = 10
                        · replace hf := ite_t hf hk7_10
                          refine r_tsi (tgt := 534) (off := 501) X dL_law_33 hk7_10 (by decide +kernel) (by decide +kernel) (by decide) ?_
                          refine lv_aload_n hx hb dL_law_534 rfl (lv_at hl 1 rfl) ?_
                          refine lv_aload_n hx hb dL_law_535 rfl (lv_at hl 0 rfl) ?_
                          refine lv_iload_n hx hb dL_law_536 rfl (lv_at hl 3 rfl) ?_
                          refine lv_iconst (v := 1) hx hb dL_law_537 (by decide) ?_
                          refine lv_iadd hx hb dL_law_538 ?_
                          obtain ⟨hix82, hf⟩ := ck_inv hf
                          refine va_sld hx hb hX hbl hbA hG.2.2 (ib_in hix82) dL_law_539 ?_
                          refine r_bni hf (fun x82 hf => ?_)
                          obtain ⟨q83, hq83, hf⟩ := cl_inv hf
                          refine r_callVl (bc := wC g o a t1.2.1 t1.2.2.1) (br := [wX8 g om adm t1.2.2.2.1]) (bs' := (wC g o a t1.2.1 q83.2 ++ [wX8 g om adm t1.2.2.2.1])) (As := [.int x82]) (rest := []) X hG hl.1 (c_X7_harm g l o a t1.2.1 n x82 t1.2.2.1 q83 hq83) (List.Perm.refl _) (List.Perm.refl _) lk_X7_harm lv_X7_harm ml_L_60 (j := 0) (k := 0) rfl rfl rfl rfl rfl ⟨Nat.le_of_ble_eq_true rfl, Nat.le_of_ble_eq_true rfl⟩ rfl rfl (Nat.le_of_ble_eq_true rfl) ⟨by show (_ : Nat) ≤ 600000; omega, by show (_ : Nat) ≤ 7302250; omega⟩ dL_law_540 (fun H locs hG => ?_)
                          refine lv_aload_n hx hb dL_law_543 rfl (lv_at hl 2 rfl) ?_
                          refine lv_aload_n hx hb dL_law_544 rfl (lv_at hl 0 rfl) ?_
                          refine lv_iload_n hx hb dL_law_545 rfl (lv_at hl 3 rfl) ?_
                          refine lv_iconst (v := 1) hx hb dL_law_546 (by decide) ?_
                          refine lv_iadd hx hb dL_law_547 ?_
                          obtain ⟨hix84, hf⟩ := ck_inv hf
                          refine va_sld hx hb hX hbl hbA hG.2.2 (ib_in hix84) dL_law_548 ?_
                          refine r_bni hf (fun x84 hf => ?_)
                          obtain ⟨q85, hq85, hf⟩ := cl_inv hf
                          refine r_callVl (bc := [wX8 g om adm t1.2.2.2.1]) (br := wC g o a t1.2.1 q83.2) (bs' := (wC g o a t1.2.1 q83.2 ++ [wX8 g om adm q85.2])) (As := [.int x84]) (rest := [.long q83.1]) X hG hl.1 (c_X8_harm g l om adm n x84 t1.2.2.2.1 q85 hq85) (List.perm_append_comm.flatten) (List.perm_append_comm.flatten) lk_X8_harm lv_X8_harm ml_L_64 (j := 11) (k := 0) rfl rfl rfl rfl rfl ⟨Nat.le_of_ble_eq_true rfl, Nat.le_of_ble_eq_true rfl⟩ rfl rfl (Nat.le_of_ble_eq_true rfl) ⟨by show (_ : Nat) ≤ 600000; omega, by show (_ : Nat) ≤ 7302250; omega⟩ dL_law_549 (fun H locs hG => ?_)
                          refine W.lcmp hx hb dL_law_552 ?_
                          refine lv_if_eq (tgt := 1133) hx hb dL_law_553 (by decide) (fun hc86 => ?_) (fun hc86 => ?_)
                          · replace hf := ite_t hf hc86
                            refine W.widen (k := 1000 + (t1.2.2.2.2 + 1)) (n := 20000 + 3 * (t1.2.2.2.2 + 1)) (by omega) (by omega) ?_
                            exact hK6 _ hf _ _ _ _ hG (lv_sub hl [0, 1, 2, 3] rfl)
                          · replace hf := ite_f hf hc86
                            refine lv_iconst (v := 0) hx hb dL_law_556 (by decide) ?_
                            cases hf
                        · replace hf := ite_f hf hk7_10
                          by_cases hk7_11 : (x4 &&& 31) = 11
                          · replace hf := ite_t hf hk7_11
                            refine r_tsi (tgt := 558) (off := 525) X dL_law_33 hk7_11 (by decide +kernel) (by decide +kernel) (by decide) ?_
                            refine lv_aload_n hx hb dL_law_558 rfl (lv_at hl 1 rfl) ?_
                            refine lv_aload_n hx hb dL_law_559 rfl (lv_at hl 0 rfl) ?_
                            refine lv_iload_n hx hb dL_law_560 rfl (lv_at hl 3 rfl) ?_
                            refine lv_iconst (v := 1) hx hb dL_law_561 (by decide) ?_
                            refine lv_iadd hx hb dL_law_562 ?_
                            obtain ⟨hix87, hf⟩ := ck_inv hf
                            refine va_sld hx hb hX hbl hbA hG.2.2 (ib_in hix87) dL_law_563 ?_
                            refine r_bni hf (fun x87 hf => ?_)
                            refine lv_aload_n hx hb dL_law_564 rfl (lv_at hl 0 rfl) ?_
                            refine lv_iload_n hx hb dL_law_565 rfl (lv_at hl 3 rfl) ?_
                            refine lv_iconst (v := 2) hx hb dL_law_566 (by decide) ?_
                            refine lv_iadd hx hb dL_law_567 ?_
                            obtain ⟨hix88, hf⟩ := ck_inv hf
                            refine va_sld hx hb hX hbl hbA hG.2.2 (ib_in hix88) dL_law_568 ?_
                            refine r_bni hf (fun x88 hf => ?_)
                            obtain ⟨q89, hq89, hf⟩ := cl_inv hf
                            refine r_callVi (bc := wC g o a t1.2.1 t1.2.2.1) (br := [wX8 g om adm t1.2.2.2.1]) (bs' := (wC g o a t1.2.1 q89.2 ++ [wX8 g om adm t1.2.2.2.1])) (As := [.int x87, .int x88]) (rest := []) X hG hl.1 (c_X7_rode g l o a t1.2.1 n x87 x88 t1.2.2.1 q89 hq89) (List.Perm.refl _) (List.Perm.refl _) lk_X7_rode lv_X7_rode ml_L_65 (j := 0) (k := 0) rfl rfl rfl rfl rfl ⟨Nat.le_of_ble_eq_true rfl, Nat.le_of_ble_eq_true rfl⟩ rfl rfl (Nat.le_of_ble_eq_true rfl) ⟨by show (_ : Nat) ≤ 600000; omega, by show (_ : Nat) ≤ 7302250; omega⟩ dL_law_569 (fun H locs hG => ?_)
                            refine lv_aload_n hx hb dL_law_572 rfl (lv_at hl 2 rfl) ?_
                            refine lv_aload_n hx hb dL_law_573 rfl (lv_at hl 0 rfl) ?_
                            refine lv_iload_n hx hb dL_law_574 rfl (lv_at hl 3 rfl) ?_
                            refine lv_iconst (v := 1) hx hb dL_law_575 (by decide) ?_
                            refine lv_iadd hx hb dL_law_576 ?_
                            obtain ⟨hix90, hf⟩ := ck_inv hf
                            refine va_sld hx hb hX hbl hbA hG.2.2 (ib_in hix90) dL_law_577 ?_
                            refine r_bni hf (fun x90 hf => ?_)
                            refine lv_aload_n hx hb dL_law_578 rfl (lv_at hl 0 rfl) ?_
                            refine lv_iload_n hx hb dL_law_579 rfl (lv_at hl 3 rfl) ?_
                            refine lv_iconst (v := 2) hx hb dL_law_580 (by decide) ?_
                            refine lv_iadd hx hb dL_law_581 ?_
                            obtain ⟨hix91, hf⟩ := ck_inv hf
                            refine va_sld hx hb hX hbl hbA hG.2.2 (ib_in hix91) dL_law_582 ?_
                            refine r_bni hf (fun x91 hf => ?_)
                            obtain ⟨q92, hq92, hf⟩ := cl_inv hf
                            refine r_callVi (bc := [wX8 g om adm t1.2.2.2.1]) (br := wC g o a t1.2.1 q89.2) (bs' := (wC g o a t1.2.1 q89.2 ++ [wX8 g om adm q92.2])) (As := [.int x90, .int x91]) (rest := [.int q89.1]) X hG hl.1 (c_X8_rode g l om adm n x90 x91 t1.2.2.2.1 q92 hq92) (List.perm_append_comm.flatten) (List.perm_append_comm.flatten) lk_X8_rode lv_X8_rode ml_L_68 (j := 11) (k := 0) rfl rfl rfl rfl rfl ⟨Nat.le_of_ble_eq_true rfl, Nat.le_of_ble_eq_true rfl⟩ rfl rfl (Nat.le_of_ble_eq_true rfl) ⟨by show (_ : Nat) ≤ 600000; omega, by show (_ : Nat) ≤ 7302250; omega⟩ dL_law_583 (fun H locs hG => ?_)
                            refine lv_icmp_eq (tgt := 1133) hx hb dL_law_586 (by decide) (fun hc93 => ?_) (fun hc93 => ?_)
                            · replace hf := ite_t hf hc93
                              refine W.widen (k := 1000 + (t1.2.2.2.2 + 1)) (n := 20000 + 3 * (t1.2.2.2.2 + 1)) (by omega) (by omega) ?_
                              exact hK6 _ hf _ _ _ _ hG (lv_sub hl [0, 1, 2, 3] rfl)
                            · replace hf := ite_f hf hc93
                              refine lv_iconst (v := 0) hx hb dL_law_589 (by decide) ?_
                              cases hf
                          · replace hf := ite_f hf hk7_11
                            by_cases hk7_12 : (x4 &&& 31) = 12
                            · replace hf := ite_t hf hk7_12
                              refine r_tsi (tgt := 591) (off := 558) X dL_law_33 hk7_12 (by decide +kernel) (by decide +kernel) (by decide) ?_
                              refine lv_aload_n hx hb dL_law_591 rfl (lv_at hl 1 rfl) ?_
                              refine lv_aload_n hx hb dL_law_592 rfl (lv_at hl 0 rfl) ?_
                              refine lv_iload_n hx hb dL_law_593 rfl (lv_at hl 3 rfl) ?_
                              refine lv_iconst (v := 1) hx hb dL_law_594 (by decide) ?_
                              refine lv_iadd hx hb dL_law_595 ?_
                              obtain ⟨hix94, hf⟩ := ck_inv hf
                              refine va_sld hx hb hX hbl hbA hG.2.2 (ib_in hix94) dL_law_596 ?_
                              refine r_bni hf (fun x94 hf => ?_)
                              refine lv_aload_n hx hb dL_law_597 rfl (lv_at hl 0 rfl) ?_
                              refine lv_iload_n hx hb dL_law_598 rfl (lv_at hl 3 rfl) ?_
                              refine lv_iconst (v := 2) hx hb dL_law_599 (by decide) ?_
                              refine lv_iadd hx hb dL_law_600 ?_
                              obtain ⟨hix95, hf⟩ := ck_inv hf
                              refine va_sld hx hb hX hbl hbA hG.2.2 (ib_in hix95) dL_law_601 ?_
                              refine r_bni hf (fun x95 hf => ?_)
                              obtain ⟨q96, hq96, hf⟩ := cl_inv hf
                              refine r_callVi (bc := wC g o a t1.2.1 t1.2.2.1) (br := [wX8 g om adm t1.2.2.2.1]) (bs' := (wC g o a t1.2.1 q96.2 ++ [wX8 g om adm t1.2.2.2.1])) (As := [.int x94, .int x95]) (rest := []) X hG hl.1 (c_X7_waits g l o a t1.2.1 n x94 x95 t1.2.2.1 q96 hq96) (List.Perm.refl _) (List.Perm.refl _) lk_X7_waits lv_X7_waits ml_L_69 (j := 0) (k := 0) rfl rfl rfl rfl rfl ⟨Nat.le_of_ble_eq_true rfl, Nat.le_of_ble_eq_true rfl⟩ rfl rfl (Nat.le_of_ble_eq_true rfl) ⟨by show (_ : Nat) ≤ 600000; omega, by show (_ : Nat) ≤ 7302250; omega⟩ dL_law_602 (fun H locs hG => ?_)
                              refine lv_aload_n hx hb dL_law_605 rfl (lv_at hl 2 rfl) ?_
                              refine lv_aload_n hx hb dL_law_606 rfl (lv_at hl 0 rfl) ?_
                              refine lv_iload_n hx hb dL_law_607 rfl (lv_at hl 3 rfl) ?_
                              refine lv_iconst (v := 1) hx hb dL_law_608 (by decide) ?_
                              refine lv_iadd hx hb dL_law_609 ?_
                              obtain ⟨hix97, hf⟩ := ck_inv hf
                              refine va_sld hx hb hX hbl hbA hG.2.2 (ib_in hix97) dL_law_610 ?_
                              refine r_bni hf (fun x97 hf => ?_)
                              refine lv_aload_n hx hb dL_law_611 rfl (lv_at hl 0 rfl) ?_
                              refine lv_iload_n hx hb dL_law_612 rfl (lv_at hl 3 rfl) ?_
                              refine lv_iconst (v := 2) hx hb dL_law_613 (by decide) ?_
                              refine lv_iadd hx hb dL_law_614 ?_
                              obtain ⟨hix98, hf⟩ := ck_inv hf
                              refine va_sld hx hb hX hbl hbA hG.2.2 (ib_in hix98) dL_law_615 ?_
                              refine r_bni hf (fun x98 hf => ?_)
                              obtain ⟨q99, hq99, hf⟩ := cl_inv hf
                              refine r_callVi (bc := [wX8 g om adm t1.2.2.2.1]) (br := wC g o a t1.2.1 q96.2) (bs' := (wC g o a t1.2.1 q96.2 ++ [wX8 g om adm q99.2])) (As := [.int x97, .int x98]) (rest := [.int q96.1]) X hG hl.1 (c_X8_waits g l om adm n x97 x98 t1.2.2.2.1 q99 hq99) (List.perm_append_comm.flatten) (List.perm_append_comm.flatten) lk_X8_waits lv_X8_waits ml_L_72 (j := 11) (k := 0) rfl rfl rfl rfl rfl ⟨Nat.le_of_ble_eq_true rfl, Nat.le_of_ble_eq_true rfl⟩ rfl rfl (Nat.le_of_ble_eq_true rfl) ⟨by show (_ : Nat) ≤ 600000; omega, by show (_ : Nat) ≤ 7302250; omega⟩ dL_law_616 (fun H locs hG => ?_)
                              refine lv_icmp_eq (tgt := 1133) hx hb dL_law_619 (by decide) (fun hc100 => ?_) (fun hc100 => ?_)
                              · replace hf := ite_t hf hc100
                                refine W.widen (k := 1000 + (t1.2.2.2.2 + 1)) (n := 20000 + 3 * (t1.2.2.2.2 + 1)) (by omega) (by omega) ?_
                                exact hK6 _ hf _ _ _ _ hG (lv_sub hl [0, 1, 2, 3] rfl)
                              · replace hf := ite_f hf hc100
                                refine lv_iconst (v := 0) hx hb dL_law_622 (by decide) ?_
                                cases hf
                            · replace hf := ite_f hf hk7_12
                              by_cases hk7_13 : (x4 &&& 31) = 13
                              · replace hf := ite_t hf hk7_13
                                refine r_tsi (tgt := 624) (off := 591) X dL_law_33 hk7_13 (by decide +kernel) (by decide +kernel) (by decide) ?_
                                refine lv_aload_n hx hb dL_law_624 rfl (lv_at hl 1 rfl) ?_
                                refine lv_aload_n hx hb dL_law_625 rfl (lv_at hl 0 rfl) ?_
                                refine lv_iload_n hx hb dL_law_626 rfl (lv_at hl 3 rfl) ?_
                                refine lv_iconst (v := 1) hx hb dL_law_627 (by decide) ?_
                                refine lv_iadd hx hb dL_law_628 ?_
                                obtain ⟨hix101, hf⟩ := ck_inv hf
                                refine va_sld hx hb hX hbl hbA hG.2.2 (ib_in hix101) dL_law_629 ?_
                                refine r_bni hf (fun x101 hf => ?_)
                                refine lv_aload_n hx hb dL_law_630 rfl (lv_at hl 0 rfl) ?_
                                refine lv_iload_n hx hb dL_law_631 rfl (lv_at hl 3 rfl) ?_
                                refine lv_iconst (v := 2) hx hb dL_law_632 (by decide) ?_
                                refine lv_iadd hx hb dL_law_633 ?_
                                obtain ⟨hix102, hf⟩ := ck_inv hf
                                refine va_sld hx hb hX hbl hbA hG.2.2 (ib_in hix102) dL_law_634 ?_
                                refine r_bni hf (fun x102 hf => ?_)
                                refine lv_aload_n hx hb dL_law_635 rfl (lv_at hl 0 rfl) ?_
                                refine lv_iload_n hx hb dL_law_636 rfl (lv_at hl 3 rfl) ?_
                                refine lv_iconst (v := 3) hx hb dL_law_637 (by decide) ?_
                                refine lv_iadd hx hb dL_law_638 ?_
                                obtain ⟨hix103, hf⟩ := ck_inv hf
                                refine va_sld hx hb hX hbl hbA hG.2.2 (ib_in hix103) dL_law_639 ?_
                                refine r_bni hf (fun x103 hf => ?_)
                                obtain ⟨q104, hq104, hf⟩ := cl_inv hf
                                refine r_callVi (bc := wC g o a t1.2.1 t1.2.2.1) (br := [wX8 g om adm t1.2.2.2.1]) (bs' := (wC g o a t1.2.1 q104.2 ++ [wX8 g om adm t1.2.2.2.1])) (As := [.int x101, .int x102, .int x103]) (rest := []) X hG hl.1 (c_X7_down g l o a t1.2.1 n x101 x102 x103 t1.2.2.1 q104 hq104) (List.Perm.refl _) (List.Perm.refl _) lk_X7_down lv_X7_down ml_L_73 (j := 0) (k := 0) rfl rfl rfl rfl rfl ⟨Nat.le_of_ble_eq_true rfl, Nat.le_of_ble_eq_true rfl⟩ rfl rfl (Nat.le_of_ble_eq_true rfl) ⟨by show (_ : Nat) ≤ 600000; omega, by show (_ : Nat) ≤ 7302250; omega⟩ dL_law_640 (fun H locs hG => ?_)
                                refine lv_aload_n hx hb dL_law_643 rfl (lv_at hl 2 rfl) ?_
                                refine lv_aload_n hx hb dL_law_644 rfl (lv_at hl 0 rfl) ?_
                                refine lv_iload_n hx hb dL_law_645 rfl (lv_at hl 3 rfl) ?_
                                refine lv_iconst (v := 1) hx hb dL_law_646 (by decide) ?_
                                refine lv_iadd hx hb dL_law_647 ?_
                                obtain ⟨hix105, hf⟩ := ck_inv hf
                                refine va_sld hx hb hX hbl hbA hG.2.2 (ib_in hix105) dL_law_648 ?_
                                refine r_bni hf (fun x105 hf => ?_)
                                refine lv_aload_n hx hb dL_law_649 rfl (lv_at hl 0 rfl) ?_
                                refine lv_iload_n hx hb dL_law_650 rfl (lv_at hl 3 rfl) ?_
                                refine lv_iconst (v := 2) hx hb dL_law_651 (by decide) ?_
                                refine lv_iadd hx hb dL_law_652 ?_
                                obtain ⟨hix106, hf⟩ := ck_inv hf
                                refine va_sld hx hb hX hbl hbA hG.2.2 (ib_in hix106) dL_law_653 ?_
                                refine r_bni hf (fun x106 hf => ?_)
                                refine lv_aload_n hx hb dL_law_654 rfl (lv_at hl 0 rfl) ?_
                                refine lv_iload_n hx hb dL_law_655 rfl (lv_at hl 3 rfl) ?_
                                refine lv_iconst (v := 3) hx hb dL_law_656 (by decide) ?_
                                refine lv_iadd hx hb dL_law_657 ?_
                                obtain ⟨hix107, hf⟩ := ck_inv hf
                                refine va_sld hx hb hX hbl hbA hG.2.2 (ib_in hix107) dL_law_658 ?_
                                refine r_bni hf (fun x107 hf => ?_)
                                obtain ⟨q108, hq108, hf⟩ := cl_inv hf
                                refine r_callVi (bc := [wX8 g om adm t1.2.2.2.1]) (br := wC g o a t1.2.1 q104.2) (bs' := (wC g o a t1.2.1 q104.2 ++ [wX8 g om adm q108.2])) (As := [.int x105, .int x106, .int x107]) (rest := [.int q104.1]) X hG hl.1 (c_X8_down g l om adm n x105 x106 x107 t1.2.2.2.1 q108 hq108) (List.perm_append_comm.flatten) (List.perm_append_comm.flatten) lk_X8_down lv_X8_down ml_L_76 (j := 11) (k := 0) rfl rfl rfl rfl rfl ⟨Nat.le_of_ble_eq_true rfl, Nat.le_of_ble_eq_true rfl⟩ rfl rfl (Nat.le_of_ble_eq_true rfl) ⟨by show (_ : Nat) ≤ 600000; omega, by show (_ : Nat) ≤ 7302250; omega⟩ dL_law_659 (fun H locs hG => ?_)
                                refine lv_icmp_eq (tgt := 1133) hx hb dL_law_662 (by decide) (fun hc109 => ?_) (fun hc109 => ?_)
                                · replace hf := ite_t hf hc109
                                  refine W.widen (k := 1000 + (t1.2.2.2.2 + 1)) (n := 20000 + 3 * (t1.2.2.2.2 + 1)) (by omega) (by omega) ?_
                                  exact hK6 _ hf _ _ _ _ hG (lv_sub hl [0, 1, 2, 3] rfl)
                                · replace hf := ite_f hf hc109
                                  refine lv_iconst (v := 0) hx hb dL_law_665 (by decide) ?_
                                  cases hf
                              · replace hf := ite_f hf hk7_13
                                by_cases hk7_14 : (x4 &&& 31) = 14
                                · replace hf := ite_t hf hk7_14
                                  refine r_tsi (tgt := 667) (off := 634) X dL_law_33 hk7_14 (by decide +kernel) (by decide +kernel) (by decide) ?_
                                  refine lv_aload_n hx hb dL_law_667 rfl (lv_at hl 1 rfl) ?_
                                  refine lv_aload_n hx hb dL_law_668 rfl (lv_at hl 0 rfl) ?_
                                  refine lv_iload_n hx hb dL_law_669 rfl (lv_at hl 3 rfl) ?_
                                  refine lv_iconst (v := 1) hx hb dL_law_670 (by decide) ?_
                                  refine lv_iadd hx hb dL_law_671 ?_
                                  obtain ⟨hix110, hf⟩ := ck_inv hf
                                  refine va_sld hx hb hX hbl hbA hG.2.2 (ib_in hix110) dL_law_672 ?_
                                  refine r_bni hf (fun x110 hf => ?_)
                                  refine lv_aload_n hx hb dL_law_673 rfl (lv_at hl 0 rfl) ?_
                                  refine lv_iload_n hx hb dL_law_674 rfl (lv_at hl 3 rfl) ?_
                                  refine lv_iconst (v := 2) hx hb dL_law_675 (by decide) ?_
                                  refine lv_iadd hx hb dL_law_676 ?_
                                  obtain ⟨hix111, hf⟩ := ck_inv hf
                                  refine va_sld hx hb hX hbl hbA hG.2.2 (ib_in hix111) dL_law_677 ?_
                                  refine r_bni hf (fun x111 hf => ?_)
                                  obtain ⟨q112, hq112, hf⟩ := cl_inv hf
                                  refine r_callVi (bc := wC g o a t1.2.1 t1.2.2.1) (br := [wX8 g om adm t1.2.2.2.1]) (bs' := (wC g o a t1.2.1 q112.2 ++ [wX8 g om adm t1.2.2.2.1])) (As := [.int x110, .int x111]) (rest := []) X hG hl.1 (c_X7_behind g l o a t1.2.1 n x110 x111 t1.2.2.1 q112 hq112) (List.Perm.refl _) (List.Perm.refl _) lk_X7_behind lv_X7_behind ml_L_77 (j := 0) (k := 0) rfl rfl rfl rfl rfl ⟨Nat.le_of_ble_eq_true rfl, Nat.le_of_ble_eq_true rfl⟩ rfl rfl (Nat.le_of_ble_eq_true rfl) ⟨by show (_ : Nat) ≤ 600000; omega, by show (_ : Nat) ≤ 7302250; omega⟩ dL_law_678 (fun H locs hG => ?_)
                                  refine lv_aload_n hx hb dL_law_681 rfl (lv_at hl 2 rfl) ?_
                                  refine lv_aload_n hx hb dL_law_682 rfl (lv_at hl 0 rfl) ?_
                                  refine lv_iload_n hx hb dL_law_683 rfl (lv_at hl 3 rfl) ?_
                                  refine lv_iconst (v := 1) hx hb dL_law_684 (by decide) ?_
                                  refine lv_iadd hx hb dL_law_685 ?_
                                  obtain ⟨hix113, hf⟩ := ck_inv hf
                                  refine va_sld hx hb hX hbl hbA hG.2.2 (ib_in hix113) dL_law_686 ?_
                                  refine r_bni hf (fun x113 hf => ?_)
                                  refine lv_aload_n hx hb dL_law_687 rfl (lv_at hl 0 rfl) ?_
                                  refine lv_iload_n hx hb dL_law_688 rfl (lv_at hl 3 rfl) ?_
                                  refine lv_iconst (v := 2) hx hb dL_law_689 (by decide) ?_
                                  refine lv_iadd hx hb dL_law_690 ?_
                                  obtain ⟨hix114, hf⟩ := ck_inv hf
                                  refine va_sld hx hb hX hbl hbA hG.2.2 (ib_in hix114) dL_law_691 ?_
                                  refine r_bni hf (fun x114 hf => ?_)
                                  obtain ⟨q115, hq115, hf⟩ := cl_inv hf
                                  refine r_callVi (bc := [wX8 g om adm t1.2.2.2.1]) (br := wC g o a t1.2.1 q112.2) (bs' := (wC g o a t1.2.1 q112.2 ++ [wX8 g om adm q115.2])) (As := [.int x113, .int x114]) (rest := [.int q112.1]) X hG hl.1 (c_X8_behind g l om adm n x113 x114 t1.2.2.2.1 q115 hq115) (List.perm_append_comm.flatten) (List.perm_append_comm.flatten) lk_X8_behind lv_X8_behind ml_L_80 (j := 11) (k := 0) rfl rfl rfl rfl rfl ⟨Nat.le_of_ble_eq_true rfl, Nat.le_of_ble_eq_true rfl⟩ rfl rfl (Nat.le_of_ble_eq_true rfl) ⟨by show (_ : Nat) ≤ 600000; omega, by show (_ : Nat) ≤ 7302250; omega⟩ dL_law_692 (fun H locs hG => ?_)
                                  refine lv_icmp_eq (tgt := 1133) hx hb dL_law_695 (by decide) (fun hc116 => ?_) (fun hc116 => ?_)
                                  · replace hf := ite_t hf hc116
                                    refine W.widen (k := 1000 + (t1.2.2.2.2 + 1)) (n := 20000 + 3 * (t1.2.2.2.2 + 1)) (by omega) (by omega) ?_
                                    exact hK6 _ hf _ _ _ _ hG (lv_sub hl [0, 1, 2, 3] rfl)
                                  · replace hf := ite_f hf hc116
                                    refine lv_iconst (v := 0) hx hb dL_law_698 (by decide) ?_
                                    cases hf
                                · replace hf := ite_f hf hk7_14
                                  by_cases hk7_15 : (x4 &&& 31) = 15
                                  · replace hf := ite_t hf hk7_15
                                    refine r_tsi (tgt := 700) (off := 667) X dL_law_33 hk7_15 (by decide +kernel) (by decide +kernel) (by decide) ?_
                                    refine lv_aload_n hx hb dL_law_700 rfl (lv_at hl 1 rfl) ?_
                                    refine lv_aload_n hx hb dL_law_701 rfl (lv_at hl 0 rfl) ?_
                                    refine lv_iload_n hx hb dL_law_702 rfl (lv_at hl 3 rfl) ?_
                                    refine lv_iconst (v := 1) hx hb dL_law_703 (by decide) ?_
                                    refine lv_iadd hx hb dL_law_704 ?_
                                    obtain ⟨hix117, hf⟩ := ck_inv hf
                                    refine va_sld hx hb hX hbl hbA hG.2.2 (ib_in hix117) dL_law_705 ?_
                                    refine r_bni hf (fun x117 hf => ?_)
                                    refine lv_aload_n hx hb dL_law_706 rfl (lv_at hl 0 rfl) ?_
                                    refine lv_iload_n hx hb dL_law_707 rfl (lv_at hl 3 rfl) ?_
                                    refine lv_iconst (v := 2) hx hb dL_law_708 (by decide) ?_
                                    refine lv_iadd hx hb dL_law_709 ?_
                                    obtain ⟨hix118, hf⟩ := ck_inv hf
                                    refine va_sld hx hb hX hbl hbA hG.2.2 (ib_in hix118) dL_law_710 ?_
                                    refine r_bni hf (fun x118 hf => ?_)
                                    obtain ⟨q119, hq119, hf⟩ := cl_inv hf
                                    refine r_callVi (bc := wC g o a t1.2.1 t1.2.2.1) (br := [wX8 g om adm t1.2.2.2.1]) (bs' := (wC g o a t1.2.1 q119.2 ++ [wX8 g om adm t1.2.2.2.1])) (As := [.int x117, .int x118]) (rest := []) X hG hl.1 (c_X7_latest g l o a t1.2.1 n x117 x118 t1.2.2.1 q119 hq119) (List.Perm.refl _) (List.Perm.refl _) lk_X7_latest lv_X7_latest ml_L_81 (j := 0) (k := 0) rfl rfl rfl rfl rfl ⟨Nat.le_of_ble_eq_true rfl, Nat.le_of_ble_eq_true rfl⟩ rfl rfl (Nat.le_of_ble_eq_true rfl) ⟨by show (_ : Nat) ≤ 600000; omega, by show (_ : Nat) ≤ 7302250; omega⟩ dL_law_711 (fun H locs hG => ?_)
                                    refine lv_aload_n hx hb dL_law_714 rfl (lv_at hl 2 rfl) ?_
                                    refine lv_aload_n hx hb dL_law_715 rfl (lv_at hl 0 rfl) ?_
                                    refine lv_iload_n hx hb dL_law_716 rfl (lv_at hl 3 rfl) ?_
                                    refine lv_iconst (v := 1) hx hb dL_law_717 (by decide) ?_
                                    refine lv_iadd hx hb dL_law_718 ?_
                                    obtain ⟨hix120, hf⟩ := ck_inv hf
                                    refine va_sld hx hb hX hbl hbA hG.2.2 (ib_in hix120) dL_law_719 ?_
                                    refine r_bni hf (fun x120 hf => ?_)
                                    refine lv_aload_n hx hb dL_law_720 rfl (lv_at hl 0 rfl) ?_
                                    refine lv_iload_n hx hb dL_law_721 rfl (lv_at hl 3 rfl) ?_
                                    refine lv_iconst (v := 2) hx hb dL_law_722 (by decide) ?_
                                    refine lv_iadd hx hb dL_law_723 ?_
                                    obtain ⟨hix121, hf⟩ := ck_inv hf
                                    refine va_sld hx hb hX hbl hbA hG.2.2 (ib_in hix121) dL_law_724 ?_
                                    refine r_bni hf (fun x121 hf => ?_)
                                    obtain ⟨q122, hq122, hf⟩ := cl_inv hf
                                    refine r_callVi (bc := [wX8 g om adm t1.2.2.2.1]) (br := wC g o a t1.2.1 q119.2) (bs' := (wC g o a t1.2.1 q119.2 ++ [wX8 g om adm q122.2])) (As := [.int x120, .int x121]) (rest := [.int q119.1]) X hG hl.1 (c_X8_latest g l om adm n x120 x121 t1.2.2.2.1 q122 hq122) (List.perm_append_comm.flatten) (List.perm_append_comm.flatten) lk_X8_latest lv_X8_latest ml_L_84 (j := 11) (k := 0) rfl rfl rfl rfl rfl ⟨Nat.le_of_ble_eq_true rfl, Nat.le_of_ble_eq_true rfl⟩ rfl rfl (Nat.le_of_ble_eq_true rfl) ⟨by show (_ : Nat) ≤ 600000; omega, by show (_ : Nat) ≤ 7302250; omega⟩ dL_law_725 (fun H locs hG => ?_)
                                    refine lv_icmp_eq (tgt := 1133) hx hb dL_law_728 (by decide) (fun hc123 => ?_) (fun hc123 => ?_)
                                    · replace hf := ite_t hf hc123
                                      refine W.widen (k := 1000 + (t1.2.2.2.2 + 1)) (n := 20000 + 3 * (t1.2.2.2.2 + 1)) (by omega) (by omega) ?_
                                      exact hK6 _ hf _ _ _ _ hG (lv_sub hl [0, 1, 2, 3] rfl)
                                    · replace hf := ite_f hf hc123
                                      refine lv_iconst (v := 0) hx hb dL_law_731 (by decide) ?_
                                      cases hf
                                  · replace hf := ite_f hf hk7_15
                                    by_cases hk7_16 : (x4 &&& 31) = 16
                                    · replace hf := ite_t hf hk7_16
                                      refine r_tsi (tgt := 733) (off := 700) X dL_law_33 hk7_16 (by decide +kernel) (by decide +kernel) (by decide) ?_
                                      refine lv_aload_n hx hb dL_law_733 rfl (lv_at hl 1 rfl) ?_
                                      refine lv_aload_n hx hb dL_law_734 rfl (lv_at hl 0 rfl) ?_
                                      refine lv_iload_n hx hb dL_law_735 rfl (lv_at hl 3 rfl) ?_
                                      refine lv_iconst (v := 1) hx hb dL_law_736 (by decide) ?_
                                      refine lv_iadd hx hb dL_law_737 ?_
                                      obtain ⟨hix124, hf⟩ := ck_inv hf
                                      refine va_sld hx hb hX hbl hbA hG.2.2 (ib_in hix124) dL_law_738 ?_
                                      refine r_bni hf (fun x124 hf => ?_)
                                      refine lv_aload_n hx hb dL_law_739 rfl (lv_at hl 0 rfl) ?_
                                      refine lv_iload_n hx hb dL_law_740 rfl (lv_at hl 3 rfl) ?_
                                      refine lv_iconst (v := 2) hx hb dL_law_741 (by decide) ?_
                                      refine lv_iadd hx hb dL_law_742 ?_
                                      obtain ⟨hix125, hf⟩ := ck_inv hf
                                      refine va_sld hx hb hX hbl hbA hG.2.2 (ib_in hix125) dL_law_743 ?_
                                      refine r_bni hf (fun x125 hf => ?_)
                                      obtain ⟨q126, hq126, hf⟩ := cl_inv hf
                                      refine r_callVi (bc := wC g o a t1.2.1 t1.2.2.1) (br := [wX8 g om adm t1.2.2.2.1]) (bs' := (wC g o a t1.2.1 q126.2 ++ [wX8 g om adm t1.2.2.2.1])) (As := [.int x124, .int x125]) (rest := []) X hG hl.1 (c_X7_more g l o a t1.2.1 n x124 x125 t1.2.2.1 q126 hq126) (List.Perm.refl _) (List.Perm.refl _) lk_X7_more lv_X7_more ml_L_85 (j := 0) (k := 0) rfl rfl rfl rfl rfl ⟨Nat.le_of_ble_eq_true rfl, Nat.le_of_ble_eq_true rfl⟩ rfl rfl (Nat.le_of_ble_eq_true rfl) ⟨by show (_ : Nat) ≤ 600000; omega, by show (_ : Nat) ≤ 7302250; omega⟩ dL_law_744 (fun H locs hG => ?_)
                                      refine lv_aload_n hx hb dL_law_747 rfl (lv_at hl 2 rfl) ?_
                                      refine lv_aload_n hx hb dL_law_748 rfl (lv_at hl 0 rfl) ?_
                                      refine lv_iload_n hx hb dL_law_749 rfl (lv_at hl 3 rfl) ?_
                                      refine lv_iconst (v := 1) hx hb dL_law_750 (by decide) ?_
                                      refine lv_iadd hx hb dL_law_751 ?_
                                      obtain ⟨hix127, hf⟩ := ck_inv hf
                                      refine va_sld hx hb hX hbl hbA hG.2.2 (ib_in hix127) dL_law_752 ?_
                                      refine r_bni hf (fun x127 hf => ?_)
                                      refine lv_aload_n hx hb dL_law_753 rfl (lv_at hl 0 rfl) ?_
                                      refine lv_iload_n hx hb dL_law_754 rfl (lv_at hl 3 rfl) ?_
                                      refine lv_iconst (v := 2) hx hb dL_law_755 (by decide) ?_
                                      refine lv_iadd hx hb dL_law_756 ?_
                                      obtain ⟨hix128, hf⟩ := ck_inv hf
                                      refine va_sld hx hb hX hbl hbA hG.2.2 (ib_in hix128) dL_law_757 ?_
                                      refine r_bni hf (fun x128 hf => ?_)
                                      obtain ⟨q129, hq129, hf⟩ := cl_inv hf
                                      refine r_callVi (bc := [wX8 g om adm t1.2.2.2.1]) (br := wC g o a t1.2.1 q126.2) (bs' := (wC g o a t1.2.1 q126.2 ++ [wX8 g om adm q129.2])) (As := [.int x127, .int x128]) (rest := [.int q126.1]) X hG hl.1 (c_X8_more g l om adm n x127 x128 t1.2.2.2.1 q129 hq129) (List.perm_append_comm.flatten) (List.perm_append_comm.flatten) lk_X8_more lv_X8_more ml_L_88 (j := 11) (k := 0) rfl rfl rfl rfl rfl ⟨Nat.le_of_ble_eq_true rfl, Nat.le_of_ble_eq_true rfl⟩ rfl rfl (Nat.le_of_ble_eq_true rfl) ⟨by show (_ : Nat) ≤ 600000; omega, by show (_ : Nat) ≤ 7302250; omega⟩ dL_law_758 (fun H locs hG => ?_)
                                      refine lv_icmp_eq (tgt := 1133) hx hb dL_law_761 (by decide) (fun hc130 => ?_) (fun hc130 => ?_)
                                      · replace hf := ite_t hf hc130
                                        refine W.widen (k := 1000 + (t1.2.2.2.2 + 1)) (n := 20000 + 3 * (t1.2.2.2.2 + 1)) (by omega) (by omega) ?_
                                        exact hK6 _ hf _ _ _ _ hG (lv_sub hl [0, 1, 2, 3] rfl)
                                      · replace hf := ite_f hf hc130
                                        refine lv_iconst (v := 0) hx hb dL_law_764 (by decide) ?_
                                        cases hf
                                    · replace hf := ite_f hf hk7_16
                                      by_cases hk7_17 : (x4 &&& 31) = 17
                                      · replace hf := ite_t hf hk7_17
                                        refine r_tsi (tgt := 766) (off := 733) X dL_law_33 hk7_17 (by decide +kernel) (by decide +kernel) (by decide) ?_
                                        refine lv_aload_n hx hb dL_law_766 rfl (lv_at hl 1 rfl) ?_
                                        refine lv_aload_n hx hb dL_law_767 rfl (lv_at hl 0 rfl) ?_
                                        refine lv_iload_n hx hb dL_law_768 rfl (lv_at hl 3 rfl) ?_
                                        refine lv_iconst (v := 1) hx hb dL_law_769 (by decide) ?_
                                        refine lv_iadd hx hb dL_law_770 ?_
                                        obtain ⟨hix131, hf⟩ := ck_inv hf
                                        refine va_sld hx hb hX hbl hbA hG.2.2 (ib_in hix131) dL_law_771 ?_
                                        refine r_bni hf (fun x131 hf => ?_)
                                        obtain ⟨q132, hq132, hf⟩ := cl_inv hf
                                        refine r_callVl (bc := wC g o a t1.2.1 t1.2.2.1) (br := [wX8 g om adm t1.2.2.2.1]) (bs' := (wC g o a t1.2.1 q132.2 ++ [wX8 g om adm t1.2.2.2.1])) (As := [.int x131]) (rest := []) X hG hl.1 (c_X7_choose g l o a t1.2.1 n x131 t1.2.2.1 q132 hq132) (List.Perm.refl _) (List.Perm.refl _) lk_X7_choose lv_X7_choose ml_L_89 (j := 0) (k := 0) rfl rfl rfl rfl rfl ⟨Nat.le_of_ble_eq_true rfl, Nat.le_of_ble_eq_true rfl⟩ rfl rfl (Nat.le_of_ble_eq_true rfl) ⟨by show (_ : Nat) ≤ 600000; omega, by show (_ : Nat) ≤ 7302250; omega⟩ dL_law_772 (fun H locs hG => ?_)
                                        refine lv_aload_n hx hb dL_law_775 rfl (lv_at hl 2 rfl) ?_
                                        refine lv_aload_n hx hb dL_law_776 rfl (lv_at hl 0 rfl) ?_
                                        refine lv_iload_n hx hb dL_law_777 rfl (lv_at hl 3 rfl) ?_
                                        refine lv_iconst (v := 1) hx hb dL_law_778 (by decide) ?_
                                        refine lv_iadd hx hb dL_law_779 ?_
                                        obtain ⟨hix133, hf⟩ := ck_inv hf
                                        refine va_sld hx hb hX hbl hbA hG.2.2 (ib_in hix133) dL_law_780 ?_
                                        refine r_bni hf (fun x133 hf => ?_)
                                        obtain ⟨q134, hq134, hf⟩ := cl_inv hf
                                        refine r_callVl (bc := [wX8 g om adm t1.2.2.2.1]) (br := wC g o a t1.2.1 q132.2) (bs' := (wC g o a t1.2.1 q132.2 ++ [wX8 g om adm q134.2])) (As := [.int x133]) (rest := [.long q132.1]) X hG hl.1 (c_X8_choose g l om adm n x133 t1.2.2.2.1 q134 hq134) (List.perm_append_comm.flatten) (List.perm_append_comm.flatten) lk_X8_choose lv_X8_choose ml_L_92 (j := 11) (k := 0) rfl rfl rfl rfl rfl ⟨Nat.le_of_ble_eq_true rfl, Nat.le_of_ble_eq_true rfl⟩ rfl rfl (Nat.le_of_ble_eq_true rfl) ⟨by show (_ : Nat) ≤ 600000; omega, by show (_ : Nat) ≤ 7302250; omega⟩ dL_law_781 (fun H locs hG => ?_)
                                        refine W.lcmp hx hb dL_law_784 ?_
                                        refine lv_if_eq (tgt := 1133) hx hb dL_law_785 (by decide) (fun hc135 => ?_) (fun hc135 => ?_)
                                        · replace hf := ite_t hf hc135
                                          refine W.widen (k := 1000 + (t1.2.2.2.2 + 1)) (n := 20000 + 3 * (t1.2.2.2.2 + 1)) (by omega) (by omega) ?_
                                          exact hK6 _ hf _ _ _ _ hG (lv_sub hl [0, 1, 2, 3] rfl)
                                        · replace hf := ite_f hf hc135
                                          refine lv_iconst (v := 0) hx hb dL_law_788 (by decide) ?_
                                          cases hf
                                      · replace hf := ite_f hf hk7_17
                                        by_cases hk7_18 : (x4 &&& 31) = 18
                                        · replace hf := ite_t hf hk7_18
                                          refine r_tsi (tgt := 790) (off := 757) X dL_law_33 hk7_18 (by decide +kernel) (by decide +kernel) (by decide) ?_
                                          refine lv_aload_n hx hb dL_law_790 rfl (lv_at hl 1 rfl) ?_
                                          obtain ⟨q136, hq136, hf⟩ := cl_inv hf
                                          refine r_callVi (bc := wC g o a t1.2.1 t1.2.2.1) (br := [wX8 g om adm t1.2.2.2.1]) (bs' := (wC g o a t1.2.1 t1.2.2.1 ++ [wX8 g om adm t1.2.2.2.1])) (As := []) (rest := []) X hG hl.1 (c_X7_must g l o a t1.2.1 n t1.2.2.1 q136 hq136) (List.Perm.refl _) (List.Perm.refl _) lk_X7_must lv_X7_must ml_L_93 (j := 0) (k := 0) rfl rfl rfl rfl rfl ⟨Nat.le_of_ble_eq_true rfl, Nat.le_of_ble_eq_true rfl⟩ rfl rfl (Nat.le_of_ble_eq_true rfl) ⟨by show (_ : Nat) ≤ 600000; omega, by show (_ : Nat) ≤ 7302250; omega⟩ dL_law_791 (fun H locs hG => ?_)
                                          refine lv_aload_n hx hb dL_law_794 rfl (lv_at hl 2 rfl) ?_
                                          obtain ⟨q137, hq137, hf⟩ := cl_inv hf
                                          refine r_callVi (bc := [wX8 g om adm t1.2.2.2.1]) (br := wC g o a t1.2.1 t1.2.2.1) (bs' := (wC g o a t1.2.1 t1.2.2.1 ++ [wX8 g om adm t1.2.2.2.1])) (As := []) (rest := [.int q136]) X hG hl.1 (c_X8_must g l om adm n t1.2.2.2.1 q137 hq137) (List.perm_append_comm.flatten) (List.perm_append_comm.flatten) lk_X8_must lv_X8_must ml_L_96 (j := 11) (k := 0) rfl rfl rfl rfl rfl ⟨Nat.le_of_ble_eq_true rfl, Nat.le_of_ble_eq_true rfl⟩ rfl rfl (Nat.le_of_ble_eq_true rfl) ⟨by show (_ : Nat) ≤ 600000; omega, by show (_ : Nat) ≤ 7302250; omega⟩ dL_law_795 (fun H locs hG => ?_)
                                          refine lv_icmp_eq (tgt := 1133) hx hb dL_law_798 (by decide) (fun hc138 => ?_) (fun hc138 => ?_)
                                          · replace hf := ite_t hf hc138
                                            refine W.widen (k := 1000 + (t1.2.2.2.2 + 1)) (n := 20000 + 3 * (t1.2.2.2.2 + 1)) (by omega) (by omega) ?_
                                            exact hK6 _ hf _ _ _ _ hG (lv_sub hl [0, 1, 2, 3] rfl)
                                          · replace hf := ite_f hf hc138
                                            refine lv_iconst (v := 0) hx hb dL_law_801 (by decide) ?_
                                            cases hf
                                        · replace hf := ite_f hf hk7_18
                                          by_cases hk7_19 : (x4 &&& 31) = 19
                                          · replace hf := ite_t hf hk7_19
                                            refine r_tsi (tgt := 803) (off := 770) X dL_law_33 hk7_19 (by decide +kernel) (by decide +kernel) (by decide) ?_
                                            refine lv_aload_n hx hb dL_law_803 rfl (lv_at hl 1 rfl) ?_
                                            refine lv_aload_n hx hb dL_law_804 rfl (lv_at hl 0 rfl) ?_
                                            refine lv_iload_n hx hb dL_law_805 rfl (lv_at hl 3 rfl) ?_
                                            refine lv_iconst (v := 1) hx hb dL_law_806 (by decide) ?_
                                            refine lv_iadd hx hb dL_law_807 ?_
                                            obtain ⟨hix139, hf⟩ := ck_inv hf
                                            refine va_sld hx hb hX hbl hbA hG.2.2 (ib_in hix139) dL_law_808 ?_
                                            refine r_bni hf (fun x139 hf => ?_)
                                            obtain ⟨q140, hq140, hf⟩ := cl_inv hf
                                            refine r_callVi (bc := wC g o a t1.2.1 t1.2.2.1) (br := [wX8 g om adm t1.2.2.2.1]) (bs' := (wC g o a t1.2.1 t1.2.2.1 ++ [wX8 g om adm t1.2.2.2.1])) (As := [.int x139]) (rest := []) X hG hl.1 (c_X7_latestUp g l o a t1.2.1 n x139 t1.2.2.1 q140 hq140) (List.Perm.refl _) (List.Perm.refl _) lk_X7_latestUp lv_X7_latestUp ml_L_97 (j := 0) (k := 0) rfl rfl rfl rfl rfl ⟨Nat.le_of_ble_eq_true rfl, Nat.le_of_ble_eq_true rfl⟩ rfl rfl (Nat.le_of_ble_eq_true rfl) ⟨by show (_ : Nat) ≤ 600000; omega, by show (_ : Nat) ≤ 7302250; omega⟩ dL_law_809 (fun H locs hG => ?_)
                                            refine lv_aload_n hx hb dL_law_812 rfl (lv_at hl 2 rfl) ?_
                                            refine lv_aload_n hx hb dL_law_813 rfl (lv_at hl 0 rfl) ?_
                                            refine lv_iload_n hx hb dL_law_814 rfl (lv_at hl 3 rfl) ?_
                                            refine lv_iconst (v := 1) hx hb dL_law_815 (by decide) ?_
                                            refine lv_iadd hx hb dL_law_816 ?_
                                            obtain ⟨hix141, hf⟩ := ck_inv hf
                                            refine va_sld hx hb hX hbl hbA hG.2.2 (ib_in hix141) dL_law_817 ?_
                                            refine r_bni hf (fun x141 hf => ?_)
                                            obtain ⟨q142, hq142, hf⟩ := cl_inv hf
                                            refine r_callVi (bc := [wX8 g om adm t1.2.2.2.1]) (br := wC g o a t1.2.1 t1.2.2.1) (bs' := (wC g o a t1.2.1 t1.2.2.1 ++ [wX8 g om adm t1.2.2.2.1])) (As := [.int x141]) (rest := [.int q140]) X hG hl.1 (c_X8_latestUp g l om adm n x141 t1.2.2.2.1 q142 hq142) (List.perm_append_comm.flatten) (List.perm_append_comm.flatten) lk_X8_latestUp lv_X8_latestUp ml_L_100 (j := 11) (k := 0) rfl rfl rfl rfl rfl ⟨Nat.le_of_ble_eq_true rfl, Nat.le_of_ble_eq_true rfl⟩ rfl rfl (Nat.le_of_ble_eq_true rfl) ⟨by show (_ : Nat) ≤ 600000; omega, by show (_ : Nat) ≤ 7302250; omega⟩ dL_law_818 (fun H locs hG => ?_)
                                            refine lv_icmp_eq (tgt := 1133) hx hb dL_law_821 (by decide) (fun hc143 => ?_) (fun hc143 => ?_)
                                            · replace hf := ite_t hf hc143
                                              refine W.widen (k := 1000 + (t1.2.2.2.2 + 1)) (n := 20000 + 3 * (t1.2.2.2.2 + 1)) (by omega) (by omega) ?_
                                              exact hK6 _ hf _ _ _ _ hG (lv_sub hl [0, 1, 2, 3] rfl)
                                            · replace hf := ite_f hf hc143
                                              refine lv_iconst (v := 0) hx hb dL_law_824 (by decide) ?_
                                              cases hf
                                          · replace hf := ite_f hf hk7_19
                                            by_cases hk7_20 : (x4 &&& 31) = 20
                                            · replace hf := ite_t hf hk7_20
                                              refine r_tsi (tgt := 826) (off := 793) X dL_law_33 hk7_20 (by decide +kernel) (by decide +kernel) (by decide) ?_
                                              refine lv_aload_n hx hb dL_law_826 rfl (lv_at hl 1 rfl) ?_
                                              refine lv_aload_n hx hb dL_law_827 rfl (lv_at hl 0 rfl) ?_
                                              refine lv_iload_n hx hb dL_law_828 rfl (lv_at hl 3 rfl) ?_
                                              refine lv_iconst (v := 1) hx hb dL_law_829 (by decide) ?_
                                              refine lv_iadd hx hb dL_law_830 ?_
                                              obtain ⟨hix144, hf⟩ := ck_inv hf
                                              refine va_sld hx hb hX hbl hbA hG.2.2 (ib_in hix144) dL_law_831 ?_
                                              refine r_bni hf (fun x144 hf => ?_)
                                              obtain ⟨q145, hq145, hf⟩ := cl_inv hf
                                              refine r_callVi (bc := wC g o a t1.2.1 t1.2.2.1) (br := [wX8 g om adm t1.2.2.2.1]) (bs' := (wC g o a t1.2.1 q145.2 ++ [wX8 g om adm t1.2.2.2.1])) (As := [.int x144]) (rest := []) X hG hl.1 (c_X7_judge g l o a t1.2.1 n x144 t1.2.2.1 q145 hq145) (List.Perm.refl _) (List.Perm.refl _) lk_X7_judge lv_X7_judge ml_L_101 (j := 0) (k := 0) rfl rfl rfl rfl rfl ⟨Nat.le_of_ble_eq_true rfl, Nat.le_of_ble_eq_true rfl⟩ rfl rfl (Nat.le_of_ble_eq_true rfl) ⟨by show (_ : Nat) ≤ 600000; omega, by show (_ : Nat) ≤ 7302250; omega⟩ dL_law_832 (fun H locs hG => ?_)
                                              refine lv_aload_n hx hb dL_law_835 rfl (lv_at hl 2 rfl) ?_
                                              refine lv_aload_n hx hb dL_law_836 rfl (lv_at hl 0 rfl) ?_
                                              refine lv_iload_n hx hb dL_law_837 rfl (lv_at hl 3 rfl) ?_
                                              refine lv_iconst (v := 1) hx hb dL_law_838 (by decide) ?_
                                              refine lv_iadd hx hb dL_law_839 ?_
                                              obtain ⟨hix146, hf⟩ := ck_inv hf
                                              refine va_sld hx hb hX hbl hbA hG.2.2 (ib_in hix146) dL_law_840 ?_
                                              refine r_bni hf (fun x146 hf => ?_)
                                              obtain ⟨q147, hq147, hf⟩ := cl_inv hf
                                              refine r_callVi (bc := [wX8 g om adm t1.2.2.2.1]) (br := wC g o a t1.2.1 q145.2) (bs' := (wC g o a t1.2.1 q145.2 ++ [wX8 g om adm q147.2])) (As := [.int x146]) (rest := [.int q145.1]) X hG hl.1 (c_X8_judge g l om adm n x146 t1.2.2.2.1 q147 hq147) (List.perm_append_comm.flatten) (List.perm_append_comm.flatten) lk_X8_judge lv_X8_judge ml_L_104 (j := 11) (k := 0) rfl rfl rfl rfl rfl ⟨Nat.le_of_ble_eq_true rfl, Nat.le_of_ble_eq_true rfl⟩ rfl rfl (Nat.le_of_ble_eq_true rfl) ⟨by show (_ : Nat) ≤ 600000; omega, by show (_ : Nat) ≤ 7302250; omega⟩ dL_law_841 (fun H locs hG => ?_)
                                              refine lv_icmp_eq (tgt := 1133) hx hb dL_law_844 (by decide) (fun hc148 => ?_) (fun hc148 => ?_)
                                              · replace hf := ite_t hf hc148
                                                refine W.widen (k := 1000 + (t1.2.2.2.2 + 1)) (n := 20000 + 3 * (t1.2.2.2.2 + 1)) (by omega) (by omega) ?_
                                                exact hK6 _ hf _ _ _ _ hG (lv_sub hl [0, 1, 2, 3] rfl)
                                              · replace hf := ite_f hf hc148
                                                refine lv_iconst (v := 0) hx hb dL_law_847 (by decide) ?_
                                                cases hf
                                            · replace hf := ite_f hf hk7_20
                                              by_cases hk7_21 : (x4 &&& 31) = 21
                                              · replace hf := ite_t hf hk7_21
                                                refine r_tsi (tgt := 849) (off := 816) X dL_law_33 hk7_21 (by decide +kernel) (by decide +kernel) (by decide) ?_
                                                refine lv_aload_n hx hb dL_law_849 rfl (lv_at hl 1 rfl) ?_
                                                obtain ⟨q149, hq149, hf⟩ := cl_inv hf
                                                refine r_callVi (bc := wC g o a t1.2.1 t1.2.2.1) (br := [wX8 g om adm t1.2.2.2.1]) (bs' := (wC g o a t1.2.1 q149.2 ++ [wX8 g om adm t1.2.2.2.1])) (As := []) (rest := []) X hG hl.1 (c_X7_image g l o a t1.2.1 n t1.2.2.1 q149 hq149) (List.Perm.refl _) (List.Perm.refl _) lk_X7_image lv_X7_image ml_L_105 (j := 0) (k := 0) rfl rfl rfl rfl rfl ⟨Nat.le_of_ble_eq_true rfl, Nat.le_of_ble_eq_true rfl⟩ rfl rfl (Nat.le_of_ble_eq_true rfl) ⟨by show (_ : Nat) ≤ 600000; omega, by show (_ : Nat) ≤ 7302250; omega⟩ dL_law_850 (fun H locs hG => ?_)
                                                refine lv_aload_n hx hb dL_law_853 rfl (lv_at hl 2 rfl) ?_
                                                obtain ⟨q150, hq150, hf⟩ := cl_inv hf
                                                refine r_callVi (bc := [wX8 g om adm t1.2.2.2.1]) (br := wC g o a t1.2.1 q149.2) (bs' := (wC g o a t1.2.1 q149.2 ++ [wX8 g om adm q150.2])) (As := []) (rest := [.int q149.1]) X hG hl.1 (c_X8_image g l om adm n t1.2.2.2.1 q150 hq150) (List.perm_append_comm.flatten) (List.perm_append_comm.flatten) lk_X8_image lv_X8_image ml_L_108 (j := 11) (k := 0) rfl rfl rfl rfl rfl ⟨Nat.le_of_ble_eq_true rfl, Nat.le_of_ble_eq_true rfl⟩ rfl rfl (Nat.le_of_ble_eq_true rfl) ⟨by show (_ : Nat) ≤ 600000; omega, by show (_ : Nat) ≤ 7302250; omega⟩ dL_law_854 (fun H locs hG => ?_)
                                                refine lv_icmp_eq (tgt := 1133) hx hb dL_law_857 (by decide) (fun hc151 => ?_) (fun hc151 => ?_)
                                                · replace hf := ite_t hf hc151
                                                  refine W.widen (k := 1000 + (t1.2.2.2.2 + 1)) (n := 20000 + 3 * (t1.2.2.2.2 + 1)) (by omega) (by omega) ?_
                                                  exact hK6 _ hf _ _ _ _ hG (lv_sub hl [0, 1, 2, 3] rfl)
                                                · replace hf := ite_f hf hc151
                                                  refine lv_iconst (v := 0) hx hb dL_law_860 (by decide) ?_
                                                  cases hf
                                              · replace hf := ite_f hf hk7_21
                                                by_cases hk7_22 : (x4 &&& 31) = 22
                                                · replace hf := ite_t hf hk7_22
                                                  refine r_tsi (tgt := 862) (off := 829) X dL_law_33 hk7_22 (by decide +kernel) (by decide +kernel) (by decide) ?_
                                                  refine lv_aload_n hx hb dL_law_862 rfl (lv_at hl 1 rfl) ?_
                                                  obtain ⟨q152, hq152, hf⟩ := cl_inv hf
                                                  refine r_callVi (bc := wC g o a t1.2.1 t1.2.2.1) (br := [wX8 g om adm t1.2.2.2.1]) (bs' := (wC g o a t1.2.1 q152.2 ++ [wX8 g om adm t1.2.2.2.1])) (As := []) (rest := []) X hG hl.1 (c_X7_back g l o a t1.2.1 n t1.2.2.1 q152 hq152) (List.Perm.refl _) (List.Perm.refl _) lk_X7_back lv_X7_back ml_L_109 (j := 0) (k := 0) rfl rfl rfl rfl rfl ⟨Nat.le_of_ble_eq_true rfl, Nat.le_of_ble_eq_true rfl⟩ rfl rfl (Nat.le_of_ble_eq_true rfl) ⟨by show (_ : Nat) ≤ 600000; omega, by show (_ : Nat) ≤ 7302250; omega⟩ dL_law_863 (fun H locs hG => ?_)
                                                  refine lv_aload_n hx hb dL_law_866 rfl (lv_at hl 2 rfl) ?_
                                                  obtain ⟨q153, hq153, hf⟩ := cl_inv hf
                                                  refine r_callVi (bc := [wX8 g om adm t1.2.2.2.1]) (br := wC g o a t1.2.1 q152.2) (bs' := (wC g o a t1.2.1 q152.2 ++ [wX8 g om adm q153.2])) (As := []) (rest := [.int q152.1]) X hG hl.1 (c_X8_back g l om adm n t1.2.2.2.1 q153 hq153) (List.perm_append_comm.flatten) (List.perm_append_comm.flatten) lk_X8_back lv_X8_back ml_L_112 (j := 11) (k := 0) rfl rfl rfl rfl rfl ⟨Nat.le_of_ble_eq_true rfl, Nat.le_of_ble_eq_true rfl⟩ rfl rfl (Nat.le_of_ble_eq_true rfl) ⟨by show (_ : Nat) ≤ 600000; omega, by show (_ : Nat) ≤ 7302250; omega⟩ dL_law_867 (fun H locs hG => ?_)
                                                  refine lv_icmp_eq (tgt := 1133) hx hb dL_law_870 (by decide) (fun hc154 => ?_) (fun hc154 => ?_)
                                                  · replace hf := ite_t hf hc154
                                                    refine W.widen (k := 1000 + (t1.2.2.2.2 + 1)) (n := 20000 + 3 * (t1.2.2.2.2 + 1)) (by omega) (by omega) ?_
                                                    exact hK6 _ hf _ _ _ _ hG (lv_sub hl [0, 1, 2, 3] rfl)
                                                  · replace hf := ite_f hf hc154
                                                    refine lv_iconst (v := 0) hx hb dL_law_873 (by decide) ?_
                                                    cases hf
                                                · replace hf := ite_f hf hk7_22
                                                  by_cases hk7_23 : (x4 &&& 31) = 23
                                                  · replace hf := ite_t hf hk7_23
                                                    refine r_tsi (tgt := 875) (off := 842) X dL_law_33 hk7_23 (by decide +kernel) (by decide +kernel) (by decide) ?_
                                                    refine lv_aload_n hx hb dL_law_875 rfl (lv_at hl 1 rfl) ?_
                                                    refine lv_aload_n hx hb dL_law_876 rfl (lv_at hl 0 rfl) ?_
                                                    refine lv_iload_n hx hb dL_law_877 rfl (lv_at hl 3 rfl) ?_
                                                    refine lv_iconst (v := 1) hx hb dL_law_878 (by decide) ?_
                                                    refine lv_iadd hx hb dL_law_879 ?_
                                                    obtain ⟨hix155, hf⟩ := ck_inv hf
                                                    refine va_sld hx hb hX hbl hbA hG.2.2 (ib_in hix155) dL_law_880 ?_
                                                    refine r_bni hf (fun x155 hf => ?_)
                                                    obtain ⟨q156, hq156, hf⟩ := cl_inv hf
                                                    refine r_callVi (bc := wC g o a t1.2.1 t1.2.2.1) (br := [wX8 g om adm t1.2.2.2.1]) (bs' := (wC g o a t1.2.1 t1.2.2.1 ++ [wX8 g om adm t1.2.2.2.1])) (As := [.int x155]) (rest := []) X hG hl.1 (c_X7_count g l o a t1.2.1 n x155 t1.2.2.1 q156 hq156) (List.Perm.refl _) (List.Perm.refl _) lk_X7_count lv_X7_count ml_L_113 (j := 0) (k := 0) rfl rfl rfl rfl rfl ⟨Nat.le_of_ble_eq_true rfl, Nat.le_of_ble_eq_true rfl⟩ rfl rfl (Nat.le_of_ble_eq_true rfl) ⟨by show (_ : Nat) ≤ 600000; omega, by show (_ : Nat) ≤ 7302250; omega⟩ dL_law_881 (fun H locs hG => ?_)
                                                    refine lv_aload_n hx hb dL_law_884 rfl (lv_at hl 2 rfl) ?_
                                                    refine lv_aload_n hx hb dL_law_885 rfl (lv_at hl 0 rfl) ?_
                                                    refine lv_iload_n hx hb dL_law_886 rfl (lv_at hl 3 rfl) ?_
                                                    refine lv_iconst (v := 1) hx hb dL_law_887 (by decide) ?_
                                                    refine lv_iadd hx hb dL_law_888 ?_
                                                    obtain ⟨hix157, hf⟩ := ck_inv hf
                                                    refine va_sld hx hb hX hbl hbA hG.2.2 (ib_in hix157) dL_law_889 ?_
                                                    refine r_bni hf (fun x157 hf => ?_)
                                                    obtain ⟨q158, hq158, hf⟩ := cl_inv hf
                                                    refine r_callVi (bc := [wX8 g om adm t1.2.2.2.1]) (br := wC g o a t1.2.1 t1.2.2.1) (bs' := (wC g o a t1.2.1 t1.2.2.1 ++ [wX8 g om adm t1.2.2.2.1])) (As := [.int x157]) (rest := [.int q156]) X hG hl.1 (c_X8_count g l om adm n x157 t1.2.2.2.1 q158 hq158) (List.perm_append_comm.flatten) (List.perm_append_comm.flatten) lk_X8_count lv_X8_count ml_L_116 (j := 11) (k := 0) rfl rfl rfl rfl rfl ⟨Nat.le_of_ble_eq_true rfl, Nat.le_of_ble_eq_true rfl⟩ rfl rfl (Nat.le_of_ble_eq_true rfl) ⟨by show (_ : Nat) ≤ 600000; omega, by show (_ : Nat) ≤ 7302250; omega⟩ dL_law_890 (fun H locs hG => ?_)
                                                    refine lv_icmp_eq (tgt := 1133) hx hb dL_law_893 (by decide) (fun hc159 => ?_) (fun hc159 => ?_)
                                                    · replace hf := ite_t hf hc159
                                                      refine W.widen (k := 1000 + (t1.2.2.2.2 + 1)) (n := 20000 + 3 * (t1.2.2.2.2 + 1)) (by omega) (by omega) ?_
                                                      exact hK6 _ hf _ _ _ _ hG (lv_sub hl [0, 1, 2, 3] rfl)
                                                    · replace hf := ite_f hf hc159
                                                      refine lv_iconst (v := 0) hx hb dL_law_896 (by decide) ?_
                                                      cases hf
                                                  · replace hf := ite_f hf hk7_23
                                                    by_cases hk7_24 : (x4 &&& 31) = 24
                                                    · replace hf := ite_t hf hk7_24
                                                      refine r_tsi (tgt := 898) (off := 865) X dL_law_33 hk7_24 (by decide +kernel) (by decide +kernel) (by decide) ?_
                                                      refine lv_aload_n hx hb dL_law_898 rfl (lv_at hl 1 rfl) ?_
                                                      refine lv_aload_n hx hb dL_law_899 rfl (lv_at hl 0 rfl) ?_
                                                      refine lv_iload_n hx hb dL_law_900 rfl (lv_at hl 3 rfl) ?_
                                                      refine lv_iconst (v := 1) hx hb dL_law_901 (by decide) ?_
                                                      refine lv_iadd hx hb dL_law_902 ?_
                                                      obtain ⟨hix160, hf⟩ := ck_inv hf
                                                      refine va_sld hx hb hX hbl hbA hG.2.2 (ib_in hix160) dL_law_903 ?_
                                                      refine r_bni hf (fun x160 hf => ?_)
                                                      refine lv_aload_n hx hb dL_law_904 rfl (lv_at hl 0 rfl) ?_
                                                      refine lv_iload_n hx hb dL_law_905 rfl (lv_at hl 3 rfl) ?_
                                                      refine lv_iconst (v := 2) hx hb dL_law_906 (by decide) ?_
                                                      refine lv_iadd hx hb dL_law_907 ?_
                                                      obtain ⟨hix161, hf⟩ := ck_inv hf
                                                      refine va_sld hx hb hX hbl hbA hG.2.2 (ib_in hix161) dL_law_908 ?_
                                                      refine r_bni hf (fun x161 hf => ?_)
                                                      refine lv_aload_n hx hb dL_law_909 rfl (lv_at hl 0 rfl) ?_
                                                      refine lv_iload_n hx hb dL_law_910 rfl (lv_at hl 3 rfl) ?_
                                                      refine lv_iconst (v := 3) hx hb dL_law_911 (by decide) ?_
                                                      refine lv_iadd hx hb dL_law_912 ?_
                                                      obtain ⟨hix162, hf⟩ := ck_inv hf
                                                      refine va_sld hx hb hX hbl hbA hG.2.2 (ib_in hix162) dL_law_913 ?_
                                                      refine r_bni hf (fun x162 hf => ?_)
                                                      obtain ⟨q163, hq163, hf⟩ := cl_inv hf
                                                      refine r_callVi (bc := wC g o a t1.2.1 t1.2.2.1) (br := [wX8 g om adm t1.2.2.2.1]) (bs' := (wC g o a t1.2.1 q163.2 ++ [wX8 g om adm t1.2.2.2.1])) (As := [.int x160, .int x161, .int x162]) (rest := []) X hG hl.1 (c_X7_sheet g l o a t1.2.1 n x160 x161 x162 t1.2.2.1 q163 hq163) (List.Perm.refl _) (List.Perm.refl _) lk_X7_sheet lv_X7_sheet ml_L_117 (j := 0) (k := 0) rfl rfl rfl rfl rfl ⟨Nat.le_of_ble_eq_true rfl, Nat.le_of_ble_eq_true rfl⟩ rfl rfl (Nat.le_of_ble_eq_true rfl) ⟨by show (_ : Nat) ≤ 600000; omega, by show (_ : Nat) ≤ 7302250; omega⟩ dL_law_914 (fun H locs hG => ?_)
                                                      refine lv_aload_n hx hb dL_law_917 rfl (lv_at hl 2 rfl) ?_
                                                      refine lv_aload_n hx hb dL_law_918 rfl (lv_at hl 0 rfl) ?_
                                                      refine lv_iload_n hx hb dL_law_919 rfl (lv_at hl 3 rfl) ?_
                                                      refine lv_iconst (v := 1) hx hb dL_law_920 (by decide) ?_
                                                      refine lv_iadd hx hb dL_law_921 ?_
                                                      obtain ⟨hix164, hf⟩ := ck_inv hf
                                                      refine va_sld hx hb hX hbl hbA hG.2.2 (ib_in hix164) dL_law_922 ?_
                                                      refine r_bni hf (fun x164 hf => ?_)
                                                      refine lv_aload_n hx hb dL_law_923 rfl (lv_at hl 0 rfl) ?_
                                                      refine lv_iload_n hx hb dL_law_924 rfl (lv_at hl 3 rfl) ?_
                                                      refine lv_iconst (v := 2) hx hb dL_law_925 (by decide) ?_
                                                      refine lv_iadd hx hb dL_law_926 ?_
                                                      obtain ⟨hix165, hf⟩ := ck_inv hf
                                                      refine va_sld hx hb hX hbl hbA hG.2.2 (ib_in hix165) dL_law_927 ?_
                                                      refine r_bni hf (fun x165 hf => ?_)
                                                      refine lv_aload_n hx hb dL_law_928 rfl (lv_at hl 0 rfl) ?_
                                                      refine lv_iload_n hx hb dL_law_929 rfl (lv_at hl 3 rfl) ?_
                                                      refine lv_iconst (v := 3) hx hb dL_law_930 (by decide) ?_
                                                      refine lv_iadd hx hb dL_law_931 ?_
                                                      obtain ⟨hix166, hf⟩ := ck_inv hf
                                                      refine va_sld hx hb hX hbl hbA hG.2.2 (ib_in hix166) dL_law_932 ?_
                                                      refine r_bni hf (fun x166 hf => ?_)
                                                      obtain ⟨q167, hq167, hf⟩ := cl_inv hf
                                                      refine r_callVi (bc := [wX8 g om adm t1.2.2.2.1]) (br := wC g o a t1.2.1 q163.2) (bs' := (wC g o a t1.2.1 q163.2 ++ [wX8 g om adm q167.2])) (As := [.int x164, .int x165, .int x166]) (rest := [.int q163.1]) X hG hl.1 (c_X8_sheet g l om adm n x164 x165 x166 t1.2.2.2.1 q167 hq167) (List.perm_append_comm.flatten) (List.perm_append_comm.flatten) lk_X8_sheet lv_X8_sheet ml_L_120 (j := 11) (k := 0) rfl rfl rfl rfl rfl ⟨Nat.le_of_ble_eq_true rfl, Nat.le_of_ble_eq_true rfl⟩ rfl rfl (Nat.le_of_ble_eq_true rfl) ⟨by show (_ : Nat) ≤ 600000; omega, by show (_ : Nat) ≤ 7302250; omega⟩ dL_law_933 (fun H locs hG => ?_)
                                                      refine lv_icmp_eq (tgt := 1133) hx hb dL_law_936 (by decide) (fun hc168 => ?_) (fun hc168 => ?_)
                                                      · replace hf := ite_t hf hc168
                                                        refine W.widen (k := 1000 + (t1.2.2.2.2 + 1)) (n := 20000 + 3 * (t1.2.2.2.2 + 1)) (by omega) (by omega) ?_
                                                        exact hK6 _ hf _ _ _ _ hG (lv_sub hl [0, 1, 2, 3] rfl)
                                                      · replace hf := ite_f hf hc168
                                                        refine lv_iconst (v := 0) hx hb dL_law_939 (by decide) ?_
                                                        cases hf
                                                    · replace hf := ite_f hf hk7_24
                                                      by_cases hk7_25 : (x4 &&& 31) = 25
                                                      · replace hf := ite_t hf hk7_25
                                                        refine r_tsi (tgt := 941) (off := 908) X dL_law_33 hk7_25 (by decide +kernel) (by decide +kernel) (by decide) ?_
                                                        refine lv_aload_n hx hb dL_law_941 rfl (lv_at hl 1 rfl) ?_
                                                        refine lv_aload_n hx hb dL_law_942 rfl (lv_at hl 0 rfl) ?_
                                                        refine lv_iload_n hx hb dL_law_943 rfl (lv_at hl 3 rfl) ?_
                                                        refine lv_iconst (v := 1) hx hb dL_law_944 (by decide) ?_
                                                        refine lv_iadd hx hb dL_law_945 ?_
                                                        obtain ⟨hix169, hf⟩ := ck_inv hf
                                                        refine va_sld hx hb hX hbl hbA hG.2.2 (ib_in hix169) dL_law_946 ?_
                                                        refine r_bni hf (fun x169 hf => ?_)
                                                        refine lv_aload_n hx hb dL_law_947 rfl (lv_at hl 0 rfl) ?_
                                                        refine lv_iload_n hx hb dL_law_948 rfl (lv_at hl 3 rfl) ?_
                                                        refine lv_iconst (v := 2) hx hb dL_law_949 (by decide) ?_
                                                        refine lv_iadd hx hb dL_law_950 ?_
                                                        obtain ⟨hix170, hf⟩ := ck_inv hf
                                                        refine va_sld hx hb hX hbl hbA hG.2.2 (ib_in hix170) dL_law_951 ?_
                                                        refine r_bni hf (fun x170 hf => ?_)
                                                        refine lv_aload_n hx hb dL_law_952 rfl (lv_at hl 0 rfl) ?_
                                                        refine lv_iload_n hx hb dL_law_953 rfl (lv_at hl 3 rfl) ?_
                                                        refine lv_iconst (v := 3) hx hb dL_law_954 (by decide) ?_
                                                        refine lv_iadd hx hb dL_law_955 ?_
                                                        obtain ⟨hix171, hf⟩ := ck_inv hf
                                                        refine va_sld hx hb hX hbl hbA hG.2.2 (ib_in hix171) dL_law_956 ?_
                                                        refine r_bni hf (fun x171 hf => ?_)
                                                        obtain ⟨q172, hq172, hf⟩ := cl_inv hf
                                                        refine r_callVi (bc := wC g o a t1.2.1 t1.2.2.1) (br := [wX8 g om adm t1.2.2.2.1]) (bs' := (wC g o a t1.2.1 q172.2 ++ [wX8 g om adm t1.2.2.2.1])) (As := [.int x169, .int x170, .int x171]) (rest := []) X hG hl.1 (c_X7_cell g l o a t1.2.1 n x169 x170 x171 t1.2.2.1 q172 hq172) (List.Perm.refl _) (List.Perm.refl _) lk_X7_cell lv_X7_cell ml_L_121 (j := 0) (k := 0) rfl rfl rfl rfl rfl ⟨Nat.le_of_ble_eq_true rfl, Nat.le_of_ble_eq_true rfl⟩ rfl rfl (Nat.le_of_ble_eq_true rfl) ⟨by show (_ : Nat) ≤ 600000; omega, by show (_ : Nat) ≤ 7302250; omega⟩ dL_law_957 (fun H locs hG => ?_)
                                                        refine lv_aload_n hx hb dL_law_960 rfl (lv_at hl 2 rfl) ?_
                                                        refine lv_aload_n hx hb dL_law_961 rfl (lv_at hl 0 rfl) ?_
                                                        refine lv_iload_n hx hb dL_law_962 rfl (lv_at hl 3 rfl) ?_
                                                        refine lv_iconst (v := 1) hx hb dL_law_963 (by decide) ?_
                                                        refine lv_iadd hx hb dL_law_964 ?_
                                                        obtain ⟨hix173, hf⟩ := ck_inv hf
                                                        refine va_sld hx hb hX hbl hbA hG.2.2 (ib_in hix173) dL_law_965 ?_
                                                        refine r_bni hf (fun x173 hf => ?_)
                                                        refine lv_aload_n hx hb dL_law_966 rfl (lv_at hl 0 rfl) ?_
                                                        refine lv_iload_n hx hb dL_law_967 rfl (lv_at hl 3 rfl) ?_
                                                        refine lv_iconst (v := 2) hx hb dL_law_968 (by decide) ?_
                                                        refine lv_iadd hx hb dL_law_969 ?_
                                                        obtain ⟨hix174, hf⟩ := ck_inv hf
                                                        refine va_sld hx hb hX hbl hbA hG.2.2 (ib_in hix174) dL_law_970 ?_
                                                        refine r_bni hf (fun x174 hf => ?_)
                                                        refine lv_aload_n hx hb dL_law_971 rfl (lv_at hl 0 rfl) ?_
                                                        refine lv_iload_n hx hb dL_law_972 rfl (lv_at hl 3 rfl) ?_
                                                        refine lv_iconst (v := 3) hx hb dL_law_973 (by decide) ?_
                                                        refine lv_iadd hx hb dL_law_974 ?_
                                                        obtain ⟨hix175, hf⟩ := ck_inv hf
                                                        refine va_sld hx hb hX hbl hbA hG.2.2 (ib_in hix175) dL_law_975 ?_
                                                        refine r_bni hf (fun x175 hf => ?_)
                                                        obtain ⟨q176, hq176, hf⟩ := cl_inv hf
                                                        refine r_callVi (bc := [wX8 g om adm t1.2.2.2.1]) (br := wC g o a t1.2.1 q172.2) (bs' := (wC g o a t1.2.1 q172.2 ++ [wX8 g om adm q176.2])) (As := [.int x173, .int x174, .int x175]) (rest := [.int q172.1]) X hG hl.1 (c_X8_cell g l om adm n x173 x174 x175 t1.2.2.2.1 q176 hq176) (List.perm_append_comm.flatten) (List.perm_append_comm.flatten) lk_X8_cell lv_X8_cell ml_L_124 (j := 11) (k := 0) rfl rfl rfl rfl rfl ⟨Nat.le_of_ble_eq_true rfl, Nat.le_of_ble_eq_true rfl⟩ rfl rfl (Nat.le_of_ble_eq_true rfl) ⟨by show (_ : Nat) ≤ 600000; omega, by show (_ : Nat) ≤ 7302250; omega⟩ dL_law_976 (fun H locs hG => ?_)
                                                        refine lv_icmp_eq (tgt := 1133) hx hb dL_law_979 (by decide) (fun hc177 => ?_) (fun hc177 => ?_)
                                                        · replace hf := ite_t hf hc177
                                                          refine W.widen (k := 1000 + (t1.2.2.2.2 + 1)) (n := 20000 + 3 * (t1.2.2.2.2 + 1)) (by omega) (by omega) ?_
                                                          exact hK6 _ hf _ _ _ _ hG (lv_sub hl [0, 1, 2, 3] rfl)
                                                        · replace hf := ite_f hf hc177
                                                          refine lv_iconst (v := 0) hx hb dL_law_982 (by decide) ?_
                                                          cases hf
                                                      · replace hf := ite_f hf hk7_25
                                                        by_cases hk7_26 : (x4 &&& 31) = 26
                                                        · replace hf := ite_t hf hk7_26
                                                          refine r_tsi (tgt := 984) (off := 951) X dL_law_33 hk7_26 (by decide +kernel) (by decide +kernel) (by decide) ?_
                                                          refine lv_aload_n hx hb dL_law_984 rfl (lv_at hl 1 rfl) ?_
                                                          refine lv_aload_n hx hb dL_law_985 rfl (lv_at hl 0 rfl) ?_
                                                          refine lv_iload_n hx hb dL_law_986 rfl (lv_at hl 3 rfl) ?_
                                                          refine lv_iconst (v := 1) hx hb dL_law_987 (by decide) ?_
                                                          refine lv_iadd hx hb dL_law_988 ?_
                                                          obtain ⟨hix178, hf⟩ := ck_inv hf
                                                          refine va_sld hx hb hX hbl hbA hG.2.2 (ib_in hix178) dL_law_989 ?_
                                                          refine r_bni hf (fun x178 hf => ?_)
                                                          refine lv_aload_n hx hb dL_law_990 rfl (lv_at hl 0 rfl) ?_
                                                          refine lv_iload_n hx hb dL_law_991 rfl (lv_at hl 3 rfl) ?_
                                                          refine lv_iconst (v := 2) hx hb dL_law_992 (by decide) ?_
                                                          refine lv_iadd hx hb dL_law_993 ?_
                                                          obtain ⟨hix179, hf⟩ := ck_inv hf
                                                          refine va_sld hx hb hX hbl hbA hG.2.2 (ib_in hix179) dL_law_994 ?_
                                                          refine r_bni hf (fun x179 hf => ?_)
                                                          refine lv_aload_n hx hb dL_law_995 rfl (lv_at hl 0 rfl) ?_
                                                          refine lv_iload_n hx hb dL_law_996 rfl (lv_at hl 3 rfl) ?_
                                                          refine lv_iconst (v := 3) hx hb dL_law_997 (by decide) ?_
                                                          refine lv_iadd hx hb dL_law_998 ?_
                                                          obtain ⟨hix180, hf⟩ := ck_inv hf
                                                          refine va_sld hx hb hX hbl hbA hG.2.2 (ib_in hix180) dL_law_999 ?_
                                                          refine r_bni hf (fun x180 hf => ?_)
                                                          refine lv_aload_n hx hb dL_law_1000 rfl (lv_at hl 0 rfl) ?_
                                                          refine lv_iload_n hx hb dL_law_1001 rfl (lv_at hl 3 rfl) ?_
                                                          refine lv_iconst (v := 4) hx hb dL_law_1002 (by decide) ?_
                                                          refine lv_iadd hx hb dL_law_1003 ?_
                                                          obtain ⟨hix181, hf⟩ := ck_inv hf
                                                          refine va_sld hx hb hX hbl hbA hG.2.2 (ib_in hix181) dL_law_1004 ?_
                                                          refine r_bni hf (fun x181 hf => ?_)
                                                          refine lv_aload_n hx hb dL_law_1005 rfl (lv_at hl 0 rfl) ?_
                                                          refine lv_iload_n hx hb dL_law_1006 rfl (lv_at hl 3 rfl) ?_
                                                          refine lv_iconst (v := 5) hx hb dL_law_1007 (by decide) ?_
                                                          refine lv_iadd hx hb dL_law_1008 ?_
                                                          obtain ⟨hix182, hf⟩ := ck_inv hf
                                                          refine va_sld hx hb hX hbl hbA hG.2.2 (ib_in hix182) dL_law_1009 ?_
                                                          refine r_bni hf (fun x182 hf => ?_)
                                                          obtain ⟨q183, hq183, hf⟩ := cl_inv hf
                                                          refine r_callVi (bc := wC g o a t1.2.1 t1.2.2.1) (br := [wX8 g om adm t1.2.2.2.1]) (bs' := (wC g o a t1.2.1 q183.2 ++ [wX8 g om adm t1.2.2.2.1])) (As := [.int x178, .int x179, .int x180, .int x181, .int x182]) (rest := []) X hG hl.1 (c_X7_copy g l o a t1.2.1 n x178 x179 x180 x181 x182 t1.2.2.1 q183 hq183) (List.Perm.refl _) (List.Perm.refl _) lk_X7_copy lv_X7_copy ml_L_125 (j := 0) (k := 0) rfl rfl rfl rfl rfl ⟨Nat.le_of_ble_eq_true rfl, Nat.le_of_ble_eq_true rfl⟩ rfl rfl (Nat.le_of_ble_eq_true rfl) ⟨by show (_ : Nat) ≤ 600000; omega, by show (_ : Nat) ≤ 7302250; omega⟩ dL_law_1010 (fun H locs hG => ?_)
                                                          refine lv_aload_n hx hb dL_law_1013 rfl (lv_at hl 2 rfl) ?_
                                                          refine lv_aload_n hx hb dL_law_1014 rfl (lv_at hl 0 rfl) ?_
                                                          refine lv_iload_n hx hb dL_law_1015 rfl (lv_at hl 3 rfl) ?_
                                                          refine lv_iconst (v := 1) hx hb dL_law_1016 (by decide) ?_
                                                          refine lv_iadd hx hb dL_law_1017 ?_
                                                          obtain ⟨hix184, hf⟩ := ck_inv hf
                                                          refine va_sld hx hb hX hbl hbA hG.2.2 (ib_in hix184) dL_law_1018 ?_
                                                          refine r_bni hf (fun x184 hf => ?_)
                                                          refine lv_aload_n hx hb dL_law_1019 rfl (lv_at hl 0 rfl) ?_
                                                          refine lv_iload_n hx hb dL_law_1020 rfl (lv_at hl 3 rfl) ?_
                                                          refine lv_iconst (v := 2) hx hb dL_law_1021 (by decide) ?_
                                                          refine lv_iadd hx hb dL_law_1022 ?_
                                                          obtain ⟨hix185, hf⟩ := ck_inv hf
                                                          refine va_sld hx hb hX hbl hbA hG.2.2 (ib_in hix185) dL_law_1023 ?_
                                                          refine r_bni hf (fun x185 hf => ?_)
                                                          refine lv_aload_n hx hb dL_law_1024 rfl (lv_at hl 0 rfl) ?_
                                                          refine lv_iload_n hx hb dL_law_1025 rfl (lv_at hl 3 rfl) ?_
                                                          refine lv_iconst (v := 3) hx hb dL_law_1026 (by decide) ?_
                                                          refine lv_iadd hx hb dL_law_1027 ?_
                                                          obtain ⟨hix186, hf⟩ := ck_inv hf
                                                          refine va_sld hx hb hX hbl hbA hG.2.2 (ib_in hix186) dL_law_1028 ?_
                                                          refine r_bni hf (fun x186 hf => ?_)
                                                          refine lv_aload_n hx hb dL_law_1029 rfl (lv_at hl 0 rfl) ?_
                                                          refine lv_iload_n hx hb dL_law_1030 rfl (lv_at hl 3 rfl) ?_
                                                          refine lv_iconst (v := 4) hx hb dL_law_1031 (by decide) ?_
                                                          refine lv_iadd hx hb dL_law_1032 ?_
                                                          obtain ⟨hix187, hf⟩ := ck_inv hf
                                                          refine va_sld hx hb hX hbl hbA hG.2.2 (ib_in hix187) dL_law_1033 ?_
                                                          refine r_bni hf (fun x187 hf => ?_)
                                                          refine lv_aload_n hx hb dL_law_1034 rfl (lv_at hl 0 rfl) ?_
                                                          refine lv_iload_n hx hb dL_law_1035 rfl (lv_at hl 3 rfl) ?_
                                                          refine lv_iconst (v := 5) hx hb dL_law_1036 (by decide) ?_
                                                          refine lv_iadd hx hb dL_law_1037 ?_
                                                          obtain ⟨hix188, hf⟩ := ck_inv hf
                                                          refine va_sld hx hb hX hbl hbA hG.2.2 (ib_in hix188) dL_law_1038 ?_
                                                          refine r_bni hf (fun x188 hf => ?_)
                                                          obtain ⟨q189, hq189, hf⟩ := cl_inv hf
                                                          refine r_callVi (bc := [wX8 g om adm t1.2.2.2.1]) (br := wC g o a t1.2.1 q183.2) (bs' := (wC g o a t1.2.1 q183.2 ++ [wX8 g om adm q189.2])) (As := [.int x184, .int x185, .int x186, .int x187, .int x188]) (rest := [.int q183.1]) X hG hl.1 (c_X8_copy g l om adm n x184 x185 x186 x187 x188 t1.2.2.2.1 q189 hq189) (List.perm_append_comm.flatten) (List.perm_append_comm.flatten) lk_X8_copy lv_X8_copy ml_L_129 (j := 11) (k := 0) rfl rfl rfl rfl rfl ⟨Nat.le_of_ble_eq_true rfl, Nat.le_of_ble_eq_true rfl⟩ rfl rfl (Nat.le_of_ble_eq_true rfl) ⟨by show (_ : Nat) ≤ 600000; omega, by show (_ : Nat) ≤ 7302250; omega⟩ dL_law_1039 (fun H locs hG => ?_)
                                                          refine lv_icmp_eq (tgt := 1133) hx hb dL_law_1042 (by decide) (fun hc190 => ?_) (fun hc190 => ?_)
                                                          · replace hf := ite_t hf hc190
                                                            refine W.widen (k := 1000 + (t1.2.2.2.2 + 1)) (n := 20000 + 3 * (t1.2.2.2.2 + 1)) (by omega) (by omega) ?_
                                                            exact hK6 _ hf _ _ _ _ hG (lv_sub hl [0, 1, 2, 3] rfl)
                                                          · replace hf := ite_f hf hc190
                                                            refine lv_iconst (v := 0) hx hb dL_law_1045 (by decide) ?_
                                                            cases hf
                                                        · replace hf := ite_f hf hk7_26
                                                          by_cases hk7_27 : (x4 &&& 31) = 27
                                                          · replace hf := ite_t hf hk7_27
                                                            refine r_tsi (tgt := 1047) (off := 1014) X dL_law_33 hk7_27 (by decide +kernel) (by decide +kernel) (by decide) ?_
                                                            refine lv_aload_n hx hb dL_law_1047 rfl (lv_at hl 1 rfl) ?_
                                                            refine lv_aload_n hx hb dL_law_1048 rfl (lv_at hl 0 rfl) ?_
                                                            refine lv_iload_n hx hb dL_law_1049 rfl (lv_at hl 3 rfl) ?_
                                                            refine lv_iconst (v := 1) hx hb dL_law_1050 (by decide) ?_
                                                            refine lv_iadd hx hb dL_law_1051 ?_
                                                            obtain ⟨hix191, hf⟩ := ck_inv hf
                                                            refine va_sld hx hb hX hbl hbA hG.2.2 (ib_in hix191) dL_law_1052 ?_
                                                            refine r_bni hf (fun x191 hf => ?_)
                                                            refine lv_aload_n hx hb dL_law_1053 rfl (lv_at hl 0 rfl) ?_
                                                            refine lv_iload_n hx hb dL_law_1054 rfl (lv_at hl 3 rfl) ?_
                                                            refine lv_iconst (v := 2) hx hb dL_law_1055 (by decide) ?_
                                                            refine lv_iadd hx hb dL_law_1056 ?_
                                                            obtain ⟨hix192, hf⟩ := ck_inv hf
                                                            refine va_sld hx hb hX hbl hbA hG.2.2 (ib_in hix192) dL_law_1057 ?_
                                                            refine r_bni hf (fun x192 hf => ?_)
                                                            refine lv_aload_n hx hb dL_law_1058 rfl (lv_at hl 0 rfl) ?_
                                                            refine lv_iload_n hx hb dL_law_1059 rfl (lv_at hl 3 rfl) ?_
                                                            refine lv_iconst (v := 3) hx hb dL_law_1060 (by decide) ?_
                                                            refine lv_iadd hx hb dL_law_1061 ?_
                                                            obtain ⟨hix193, hf⟩ := ck_inv hf
                                                            refine va_sld hx hb hX hbl hbA hG.2.2 (ib_in hix193) dL_law_1062 ?_
                                                            refine r_bni hf (fun x193 hf => ?_)
                                                            refine lv_aload_n hx hb dL_law_1063 rfl (lv_at hl 0 rfl) ?_
                                                            refine lv_iload_n hx hb dL_law_1064 rfl (lv_at hl 3 rfl) ?_
                                                            refine lv_iconst (v := 4) hx hb dL_law_1065 (by decide) ?_
                                                            refine lv_iadd hx hb dL_law_1066 ?_
                                                            obtain ⟨hix194, hf⟩ := ck_inv hf
                                                            refine va_sld hx hb hX hbl hbA hG.2.2 (ib_in hix194) dL_law_1067 ?_
                                                            refine r_bni hf (fun x194 hf => ?_)
                                                            obtain ⟨q195, hq195, hf⟩ := cl_inv hf
                                                            refine r_callVi (bc := wC g o a t1.2.1 t1.2.2.1) (br := [wX8 g om adm t1.2.2.2.1]) (bs' := (wC g o a t1.2.1 q195.2 ++ [wX8 g om adm t1.2.2.2.1])) (As := [.int x191, .int x192, .int x193, .int x194]) (rest := []) X hG hl.1 (c_X7_sorts g l o a t1.2.1 n x191 x192 x193 x194 t1.2.2.1 q195 hq195) (List.Perm.refl _) (List.Perm.refl _) lk_X7_sorts lv_X7_sorts ml_L_130 (j := 0) (k := 0) rfl rfl rfl rfl rfl ⟨Nat.le_of_ble_eq_true rfl, Nat.le_of_ble_eq_true rfl⟩ rfl rfl (Nat.le_of_ble_eq_true rfl) ⟨by show (_ : Nat) ≤ 600000; omega, by show (_ : Nat) ≤ 7302250; omega⟩ dL_law_1068 (fun H locs hG => ?_)
                                                            refine lv_aload_n hx hb dL_law_1071 rfl (lv_at hl 2 rfl) ?_
                                                            refine lv_aload_n hx hb dL_law_1072 rfl (lv_at hl 0 rfl) ?_
                                                            refine lv_iload_n hx hb dL_law_1073 rfl (lv_at hl 3 rfl) ?_
                                                            refine lv_iconst (v := 1) hx hb dL_law_1074 (by decide) ?_
                                                            refine lv_iadd hx hb dL_law_1075 ?_
                                                            obtain ⟨hix196, hf⟩ := ck_inv hf
                                                            refine va_sld hx hb hX hbl hbA hG.2.2 (ib_in hix196) dL_law_1076 ?_
                                                            refine r_bni hf (fun x196 hf => ?_)
                                                            refine lv_aload_n hx hb dL_law_1077 rfl (lv_at hl 0 rfl) ?_
                                                            refine lv_iload_n hx hb dL_law_1078 rfl (lv_at hl 3 rfl) ?_
                                                            refine lv_iconst (v := 2) hx hb dL_law_1079 (by decide) ?_
                                                            refine lv_iadd hx hb dL_law_1080 ?_
                                                            obtain ⟨hix197, hf⟩ := ck_inv hf
                                                            refine va_sld hx hb hX hbl hbA hG.2.2 (ib_in hix197) dL_law_1081 ?_
                                                            refine r_bni hf (fun x197 hf => ?_)
                                                            refine lv_aload_n hx hb dL_law_1082 rfl (lv_at hl 0 rfl) ?_
                                                            refine lv_iload_n hx hb dL_law_1083 rfl (lv_at hl 3 rfl) ?_
                                                            refine lv_iconst (v := 3) hx hb dL_law_1084 (by decide) ?_
                                                            refine lv_iadd hx hb dL_law_1085 ?_
                                                            obtain ⟨hix198, hf⟩ := ck_inv hf
                                                            refine va_sld hx hb hX hbl hbA hG.2.2 (ib_in hix198) dL_law_1086 ?_
                                                            refine r_bni hf (fun x198 hf => ?_)
                                                            refine lv_aload_n hx hb dL_law_1087 rfl (lv_at hl 0 rfl) ?_
                                                            refine lv_iload_n hx hb dL_law_1088 rfl (lv_at hl 3 rfl) ?_
                                                            refine lv_iconst (v := 4) hx hb dL_law_1089 (by decide) ?_
                                                            refine lv_iadd hx hb dL_law_1090 ?_
                                                            obtain ⟨hix199, hf⟩ := ck_inv hf
                                                            refine va_sld hx hb hX hbl hbA hG.2.2 (ib_in hix199) dL_law_1091 ?_
                                                            refine r_bni hf (fun x199 hf => ?_)
                                                            obtain ⟨q200, hq200, hf⟩ := cl_inv hf
                                                            refine r_callVi (bc := [wX8 g om adm t1.2.2.2.1]) (br := wC g o a t1.2.1 q195.2) (bs' := (wC g o a t1.2.1 q195.2 ++ [wX8 g om adm q200.2])) (As := [.int x196, .int x197, .int x198, .int x199]) (rest := [.int q195.1]) X hG hl.1 (c_X8_sorts g l om adm n x196 x197 x198 x199 t1.2.2.2.1 q200 hq200) (List.perm_append_comm.flatten) (List.perm_append_comm.flatten) lk_X8_sorts lv_X8_sorts ml_L_134 (j := 11) (k := 0) rfl rfl rfl rfl rfl ⟨Nat.le_of_ble_eq_true rfl, Nat.le_of_ble_eq_true rfl⟩ rfl rfl (Nat.le_of_ble_eq_true rfl) ⟨by show (_ : Nat) ≤ 600000; omega, by show (_ : Nat) ≤ 7302250; omega⟩ dL_law_1092 (fun H locs hG => ?_)
                                                            refine lv_icmp_eq (tgt := 1133) hx hb dL_law_1095 (by decide) (fun hc201 => ?_) (fun hc201 => ?_)
                                                            · replace hf := ite_t hf hc201
                                                              refine W.widen (k := 1000 + (t1.2.2.2.2 + 1)) (n := 20000 + 3 * (t1.2.2.2.2 + 1)) (by omega) (by omega) ?_
                                                              exact hK6 _ hf _ _ _ _ hG (lv_sub hl [0, 1, 2, 3] rfl)
                                                            · replace hf := ite_f hf hc201
                                                              refine lv_iconst (v := 0) hx hb dL_law_1098 (by decide) ?_
                                                              cases hf
                                                          · replace hf := ite_f hf hk7_27
                                                            by_cases hk7_28 : (x4 &&& 31) = 28
                                                            · replace hf := ite_t hf hk7_28
                                                              refine r_tsi (tgt := 1100) (off := 1067) X dL_law_33 hk7_28 (by decide +kernel) (by decide +kernel) (by decide) ?_
                                                              refine lv_aload_n hx hb dL_law_1100 rfl (lv_at hl 1 rfl) ?_
                                                              refine lv_aload_n hx hb dL_law_1101 rfl (lv_at hl 0 rfl) ?_
                                                              refine lv_iload_n hx hb dL_law_1102 rfl (lv_at hl 3 rfl) ?_
                                                              refine lv_iconst (v := 1) hx hb dL_law_1103 (by decide) ?_
                                                              refine lv_iadd hx hb dL_law_1104 ?_
                                                              obtain ⟨hix202, hf⟩ := ck_inv hf
                                                              refine va_sld hx hb hX hbl hbA hG.2.2 (ib_in hix202) dL_law_1105 ?_
                                                              refine r_bni hf (fun x202 hf => ?_)
                                                              refine lv_aload_n hx hb dL_law_1106 rfl (lv_at hl 0 rfl) ?_
                                                              refine lv_iload_n hx hb dL_law_1107 rfl (lv_at hl 3 rfl) ?_
                                                              refine lv_iconst (v := 2) hx hb dL_law_1108 (by decide) ?_
                                                              refine lv_iadd hx hb dL_law_1109 ?_
                                                              obtain ⟨hix203, hf⟩ := ck_inv hf
                                                              refine va_sld hx hb hX hbl hbA hG.2.2 (ib_in hix203) dL_law_1110 ?_
                                                              refine r_bni hf (fun x203 hf => ?_)
                                                              obtain ⟨q204, hq204, hf⟩ := cl_inv hf
                                                              refine r_callVi (bc := wC g o a t1.2.1 t1.2.2.1) (br := [wX8 g om adm t1.2.2.2.1]) (bs' := (wC g o a t1.2.1 t1.2.2.1 ++ [wX8 g om adm t1.2.2.2.1])) (As := [.int x202, .int x203]) (rest := []) X hG hl.1 (c_X7_taken g l o a t1.2.1 n x202 x203 t1.2.2.1 q204 hq204) (List.Perm.refl _) (List.Perm.refl _) lk_X7_taken lv_X7_taken ml_L_135 (j := 0) (k := 0) rfl rfl rfl rfl rfl ⟨Nat.le_of_ble_eq_true rfl, Nat.le_of_ble_eq_true rfl⟩ rfl rfl (Nat.le_of_ble_eq_true rfl) ⟨by show (_ : Nat) ≤ 600000; omega, by show (_ : Nat) ≤ 7302250; omega⟩ dL_law_1111 (fun H locs hG => ?_)
                                                              refine lv_aload_n hx hb dL_law_1114 rfl (lv_at hl 2 rfl) ?_
                                                              refine lv_aload_n hx hb dL_law_1115 rfl (lv_at hl 0 rfl) ?_
                                                              refine lv_iload_n hx hb dL_law_1116 rfl (lv_at hl 3 rfl) ?_
                                                              refine lv_iconst (v := 1) hx hb dL_law_1117 (by decide) ?_
                                                              refine lv_iadd hx hb dL_law_1118 ?_
                                                              obtain ⟨hix205, hf⟩ := ck_inv hf
                                                              refine va_sld hx hb hX hbl hbA hG.2.2 (ib_in hix205) dL_law_1119 ?_
                                                              refine r_bni hf (fun x205 hf => ?_)
                                                              refine lv_aload_n hx hb dL_law_1120 rfl (lv_at hl 0 rfl) ?_
                                                              refine lv_iload_n hx hb dL_law_1121 rfl (lv_at hl 3 rfl) ?_
                                                              refine lv_iconst (v := 2) hx hb dL_law_1122 (by decide) ?_
                                                              refine lv_iadd hx hb dL_law_1123 ?_
                                                              obtain ⟨hix206, hf⟩ := ck_inv hf
                                                              refine va_sld hx hb hX hbl hbA hG.2.2 (ib_in hix206) dL_law_1124 ?_
                                                              refine r_bni hf (fun x206 hf => ?_)
                                                              obtain ⟨q207, hq207, hf⟩ := cl_inv hf
                                                              refine r_callVi (bc := [wX8 g om adm t1.2.2.2.1]) (br := wC g o a t1.2.1 t1.2.2.1) (bs' := (wC g o a t1.2.1 t1.2.2.1 ++ [wX8 g om adm t1.2.2.2.1])) (As := [.int x205, .int x206]) (rest := [.int q204]) X hG hl.1 (c_X8_taken g l om adm n x205 x206 t1.2.2.2.1 q207 hq207) (List.perm_append_comm.flatten) (List.perm_append_comm.flatten) lk_X8_taken lv_X8_taken ml_L_138 (j := 11) (k := 0) rfl rfl rfl rfl rfl ⟨Nat.le_of_ble_eq_true rfl, Nat.le_of_ble_eq_true rfl⟩ rfl rfl (Nat.le_of_ble_eq_true rfl) ⟨by show (_ : Nat) ≤ 600000; omega, by show (_ : Nat) ≤ 7302250; omega⟩ dL_law_1125 (fun H locs hG => ?_)
                                                              refine lv_icmp_eq (tgt := 1133) hx hb dL_law_1128 (by decide) (fun hc208 => ?_) (fun hc208 => ?_)
                                                              · replace hf := ite_t hf hc208
                                                                refine W.widen (k := 1000 + (t1.2.2.2.2 + 1)) (n := 20000 + 3 * (t1.2.2.2.2 + 1)) (by omega) (by omega) ?_
                                                                exact hK6 _ hf _ _ _ _ hG (lv_sub hl [0, 1, 2, 3] rfl)
                                                              · replace hf := ite_f hf hc208
                                                                refine lv_iconst (v := 0) hx hb dL_law_1131 (by decide) ?_
                                                                cases hf
                                                            · replace hf := ite_f hf hk7_28
                                                              refine r_tso (tgt := 1133) X dL_law_33 (ks := [0, 1, 2, 3, 4, 5, 6, 7, 8, 9, 10, 11, 12, 13, 14, 15, 16, 17, 18, 19, 20, 21, 22, 23, 24, 25, 26, 27, 28]) (List.forall_mem_cons.mpr ⟨hk7_0, List.forall_mem_cons.mpr ⟨hk7_1, List.forall_mem_cons.mpr ⟨hk7_2, List.forall_mem_cons.mpr ⟨hk7_3, List.forall_mem_cons.mpr ⟨hk7_4, List.forall_mem_cons.mpr ⟨hk7_5, List.forall_mem_cons.mpr ⟨hk7_6, List.forall_mem_cons.mpr ⟨hk7_7, List.forall_mem_cons.mpr ⟨hk7_8, List.forall_mem_cons.mpr ⟨hk7_9, List.forall_mem_cons.mpr ⟨hk7_10, List.forall_mem_cons.mpr ⟨hk7_11, List.forall_mem_cons.mpr ⟨hk7_12, List.forall_mem_cons.mpr ⟨hk7_13, List.forall_mem_cons.mpr ⟨hk7_14, List.forall_mem_cons.mpr ⟨hk7_15, List.forall_mem_cons.mpr ⟨hk7_16, List.forall_mem_cons.mpr ⟨hk7_17, List.forall_mem_cons.mpr ⟨hk7_18, List.forall_mem_cons.mpr ⟨hk7_19, List.forall_mem_cons.mpr ⟨hk7_20, List.forall_mem_cons.mpr ⟨hk7_21, List.forall_mem_cons.mpr ⟨hk7_22, List.forall_mem_cons.mpr ⟨hk7_23, List.forall_mem_cons.mpr ⟨hk7_24, List.forall_mem_cons.mpr ⟨hk7_25, List.forall_mem_cons.mpr ⟨hk7_26, List.forall_mem_cons.mpr ⟨hk7_27, List.forall_mem_cons.mpr ⟨hk7_28, List.forall_mem_nil _⟩⟩⟩⟩⟩⟩⟩⟩⟩⟩⟩⟩⟩⟩⟩⟩⟩⟩⟩⟩⟩⟩⟩⟩⟩⟩⟩⟩⟩) (by decide +kernel) (by decide) ?_
                                                              refine W.widen (k := 1000 + (t1.2.2.2.2 + 1)) (n := 20000 + 3 * (t1.2.2.2.2 + 1)) (by omega) (by omega) ?_
                                                              exact hK6 _ hf _ _ _ _ hG (lv_sub hl [0, 1, 2, 3] rfl)
