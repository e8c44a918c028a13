-- TOKENS
theorem sp_eq (s : MS) (k : Nat) (x : Int32) : (sp s k x).1 k = x := by rw [sp1, if_pos rfl]
theorem sp_ne (s : MS) (k j : Nat) (x : Int32) (h : j ≠ k) : (sp s k x).1 j = s.1 j := by rw [sp1, if_neg h]
theorem sb_small {b : Int32} (h : b.toInt < 128) : sb b = b := by
  unfold sb
  rw [if_pos (by rw [lt_i, show (128 : Int32).toInt = 128 by decide]; exact h)]
theorem sb_big {b : Int32} (hb : IR b 0 255) (h : ¬ b.toInt < 128) : (sb b).toInt = b.toInt - 256 := by
  have z : (256 : Int32).toInt = 256 := by decide
  unfold sb
  rw [if_neg (by rw [lt_i, show (128 : Int32).toInt = 128 by decide]; exact h), sub_i _ _ (by have := hb.1; have := hb.2; rw [z]; omega), z]
theorem sb_in {b : Int32} (hb : IR b 0 255) {lo hi : Int32} (h0 : 0 ≤ lo.toInt) (h1 : hi.toInt < 128) : (lo ≤ sb b ∧ sb b ≤ hi) = (lo ≤ b ∧ b ≤ hi) := by
  by_cases h : b.toInt < 128
  · rw [sb_small h]
  · have := sb_big hb h
    have := hb.2
    simp only [le_i]
    apply propext
    constructor <;> rintro ⟨u, v⟩ <;> omega
theorem sb_eq {b : Int32} (hb : IR b 0 255) {k : Int32} (h0 : 0 ≤ k.toInt) (h1 : k.toInt < 128) : (sb b = k) = (b = k) := by
  by_cases h : b.toInt < 128
  · rw [sb_small h]
  · have := sb_big hb h
    have := hb.2
    simp only [eq_i]
    apply propext
    constructor <;> intro u <;> omega
def TAPE (P s : MS) (Z : Nat) : Prop := P.1 1 = nI Z ∧ s.1 20 = nI Z ∧ Z ≤ 160 ∧ ∀ i, i < Z → IR (P.2 0 i) 0 255 ∧ s.2 19 i = sb (P.2 0 i)
def wl (k : Nat) : Nat := K_len.getD (k + 1) 0
def wa (k : Nat) : Nat := [0, 3, 8, 13, 19, 25, 29, 32, 37, 42, 45, 49].getD k 53
def tkO (k : Nat) : Int32 := [300, 301, 302, 303, 304, 305, 270, 271, 272, 256, 257, 258].getD k 0
def mnO (k : Nat) : Int32 := [0, 1, 2, 3, 4, 5, 10, 11, 12, 13, 14, 15].getD k 0
theorem wfacts : ∀ k, k < 12 → (∀ i, i < wl k → st0_X8.2 35 (wa k + i) = schr (k + 1) i ∧ ¬ schr (k + 1) i = 32 ∧ wa k + i < 53 ∧ 0 ≤ (schr (k + 1) i).toInt ∧ (schr (k + 1) i).toInt < 128) ∧ st0_X8.2 35 (wa k + wl k) = 32 ∧ wa k + wl k < 53 ∧ wa k + wl k + 1 = wa (k + 1) ∧ 1 ≤ wl k ∧ wl k ≤ 5 ∧ slen (k + 1) = nI (wl k) ∧ K_len.getD (k + 1) 0 = wl k ∧ st0_X8.2 36 k = mnO k ∧ 0 ≤ mnO k := by decide +kernel
def WM (B : Nat → Int32) (p q k : Nat) : Prop := q = p + wl k ∧ ∀ i, i < wl k → B (p + i) = schr (k + 1) i

def nx4 (n : Nat) (t1 : MS) : Option MS :=
  bn (sp t1 4 (t1.1 2)) fun z5 =>
  if (z5.1 2) < (z5.1 1) then (
    ck (ib (z5.1 2) 160) <| bn (z5.2 0 (Int32.toNatClampNeg (z5.1 2))) fun x7 =>
    cl (f_X4_isLetter n x7) fun q8 =>
    if q8 = 0 then (
      ck (ib (z5.1 2) 160) <| bn (z5.2 0 (Int32.toNatClampNeg (z5.1 2))) fun x10 =>
      cl (f_X4_isDigit n x10) fun q11 =>
      if q11 = 0 then (
        ck (ib (z5.1 2) 160) <| bn (z5.2 0 (Int32.toNatClampNeg (z5.1 2))) fun x13 =>
        cl (f_X4_signToken n x13) fun q14 =>
        bn (sp z5 3 q14) fun z15 =>
        bn (sp z15 2 ((z15.1 2) + 1)) fun z16 =>
        some z16)
      else (
        lp (fun K18 (t17 : MS) =>
          jn (fun (t19 : Unit) =>
            cl (f_X4_numberToken n t17) fun q21 =>
            bn (sp t17 3 q21) fun z22 =>
            some z22) fun K20 =>
          if (t17.1 1) ≤ (t17.1 2) then (
            K20 ())
          else (
            ck (ib (t17.1 2) 160) <| bn (t17.2 0 (Int32.toNatClampNeg (t17.1 2))) fun x24 =>
            cl (f_X4_isDigit n x24) fun q25 =>
            if q25 = 0 then (
              K20 ())
            else (
              bn (sp t17 2 ((t17.1 2) + 1)) fun z27 =>
              K18 z27))) n z5))
    else (
      lp (fun K29 (t28 : MS) =>
        jn (fun (t30 : Unit) =>
          cl (f_X4_wordToken n t28) fun q32 =>
          bn (sp t28 3 q32) fun z33 =>
          some z33) fun K31 =>
        if (t28.1 1) ≤ (t28.1 2) then (
          K31 ())
        else (
          ck (ib (t28.1 2) 160) <| bn (t28.2 0 (Int32.toNatClampNeg (t28.1 2))) fun x35 =>
          cl (f_X4_isLetter n x35) fun q36 =>
          if q36 = 0 then (
            K31 ())
          else (
            bn (sp t28 2 ((t28.1 2) + 1)) fun z38 =>
            K29 z38))) n z5))
  else (
    bn (sp z5 3 1) fun z39 =>
    some z39)
def nF4 (n : Nat) : ((MS) → Option MS) → (MS) → Option MS := fun K2 (t1 : MS) =>
  jn (fun (t3 : Unit) =>
    bn (sp t1 4 (t1.1 2)) fun z5 =>
    if (z5.1 2) < (z5.1 1) then (
      ck (ib (z5.1 2) 160) <| bn (z5.2 0 (Int32.toNatClampNeg (z5.1 2))) fun x7 =>
      cl (f_X4_isLetter n x7) fun q8 =>
      if q8 = 0 then (
        ck (ib (z5.1 2) 160) <| bn (z5.2 0 (Int32.toNatClampNeg (z5.1 2))) fun x10 =>
        cl (f_X4_isDigit n x10) fun q11 =>
        if q11 = 0 then (
          ck (ib (z5.1 2) 160) <| bn (z5.2 0 (Int32.toNatClampNeg (z5.1 2))) fun x13 =>
          cl (f_X4_signToken n x13) fun q14 =>
          bn (sp z5 3 q14) fun z15 =>
          bn (sp z15 2 ((z15.1 2) + 1)) fun z16 =>
          some z16)
        else (
          lp (fun K18 (t17 : MS) =>
            jn (fun (t19 : Unit) =>
              cl (f_X4_numberToken n t17) fun q21 =>
              bn (sp t17 3 q21) fun z22 =>
              some z22) fun K20 =>
            if (t17.1 1) ≤ (t17.1 2) then (
              K20 ())
            else (
              ck (ib (t17.1 2) 160) <| bn (t17.2 0 (Int32.toNatClampNeg (t17.1 2))) fun x24 =>
              cl (f_X4_isDigit n x24) fun q25 =>
              if q25 = 0 then (
                K20 ())
              else (
                bn (sp t17 2 ((t17.1 2) + 1)) fun z27 =>
                K18 z27))) n z5))
      else (
        lp (fun K29 (t28 : MS) =>
          jn (fun (t30 : Unit) =>
            cl (f_X4_wordToken n t28) fun q32 =>
            bn (sp t28 3 q32) fun z33 =>
            some z33) fun K31 =>
          if (t28.1 1) ≤ (t28.1 2) then (
            K31 ())
          else (
            ck (ib (t28.1 2) 160) <| bn (t28.2 0 (Int32.toNatClampNeg (t28.1 2))) fun x35 =>
            cl (f_X4_isLetter n x35) fun q36 =>
            if q36 = 0 then (
              K31 ())
            else (
              bn (sp t28 2 ((t28.1 2) + 1)) fun z38 =>
              K29 z38))) n z5))
    else (
      bn (sp z5 3 1) fun z39 =>
      some z39)) fun K4 =>
  if (t1.1 1) ≤ (t1.1 2) then (
    K4 ())
  else (
    ck (ib (t1.1 2) 160) <| bn (t1.2 0 (Int32.toNatClampNeg (t1.1 2))) fun x41 =>
    jn (fun (t42 : Unit) =>
      bn (sp t1 2 ((t1.1 2) + 1)) fun z44 =>
      K2 z44) fun K43 =>
    if x41 = 32 then (
      K43 ())
    else (
      ck (ib (t1.1 2) 160) <| bn (t1.2 0 (Int32.toNatClampNeg (t1.1 2))) fun x46 =>
      if x46 = 10 then (
        K43 ())
      else (
        K4 ())))
def nW4 (n : Nat) : ((MS) → Option MS) → (MS) → Option MS := fun K29 (t28 : MS) =>
  jn (fun (t30 : Unit) =>
    cl (f_X4_wordToken n t28) fun q32 =>
    bn (sp t28 3 q32) fun z33 =>
    some z33) fun K31 =>
  if (t28.1 1) ≤ (t28.1 2) then (
    K31 ())
  else (
    ck (ib (t28.1 2) 160) <| bn (t28.2 0 (Int32.toNatClampNeg (t28.1 2))) fun x35 =>
    cl (f_X4_isLetter n x35) fun q36 =>
    if q36 = 0 then (
      K31 ())
    else (
      bn (sp t28 2 ((t28.1 2) + 1)) fun z38 =>
      K29 z38))
def nD4 (n : Nat) : ((MS) → Option MS) → (MS) → Option MS := fun K18 (t17 : MS) =>
  jn (fun (t19 : Unit) =>
    cl (f_X4_numberToken n t17) fun q21 =>
    bn (sp t17 3 q21) fun z22 =>
    some z22) fun K20 =>
  if (t17.1 1) ≤ (t17.1 2) then (
    K20 ())
  else (
    ck (ib (t17.1 2) 160) <| bn (t17.2 0 (Int32.toNatClampNeg (t17.1 2))) fun x24 =>
    cl (f_X4_isDigit n x24) fun q25 =>
    if q25 = 0 then (
      K20 ())
    else (
      bn (sp t17 2 ((t17.1 2) + 1)) fun z27 =>
      K18 z27))
def nx8 (n : Nat) (t2 : MS) : Option MS :=
  bn (sp t2 30 (t2.1 29)) fun z6 =>
  if (z6.1 29) < (z6.1 20) then (
    ck (ib (z6.1 29) 160) <| bn (z6.2 19 (Int32.toNatClampNeg (z6.1 29))) fun x8 =>
    cl (f_X8_isLetter n x8) fun q9 =>
    if q9 = 0 then (
      cl (f_X8_isDigit n x8) fun q11 =>
      if q11 = 0 then (
        bn (sp z6 30 ((z6.1 30) + 1)) fun z13 =>
        bn (sp z13 32 x8) fun z14 =>
        jn (fun (t15 : Int32) =>
          bn (sp z14 31 t15) fun z17 =>
          some z17) fun K16 =>
        jn (fun (t18 : Unit) =>
          K16 3) fun K19 =>
        if x8 = 40 then (
          K19 ())
        else (
          if x8 = 41 then (
            K19 ())
          else (
            if x8 = 59 then (
              K19 ())
            else (
              if x8 = 43 then (
                K19 ())
              else (
                if x8 = 45 then (
                  K19 ())
                else (
                  if x8 = 42 then (
                    K19 ())
                  else (
                    if x8 = 60 then (
                      K19 ())
                    else (
                      if x8 = 61 then (
                        K19 ())
                      else (
                        K16 5)))))))))
      else (
        bn (sp z6 32 0) fun z28 =>
        lp (fun K30 (t29 : MS) =>
          jn (fun (t31 : Unit) =>
            jn (fun (t33 : Int32) =>
              bn (sp t29 31 t33) fun z35 =>
              some z35) fun K34 =>
            if ((t29.1 30) - (t29.1 29)) ≤ 4 then (
              K34 2)
            else (
              K34 5)) fun K32 =>
          if (t29.1 20) ≤ (t29.1 30) then (
            K32 ())
          else (
            ck (ib (t29.1 30) 160) <| bn (t29.2 19 (Int32.toNatClampNeg (t29.1 30))) fun x38 =>
            cl (f_X8_isDigit n x38) fun q39 =>
            if q39 = 0 then (
              K32 ())
            else (
              jn (fun (t41 : MS) =>
                bn (sp t41 30 ((t41.1 30) + 1)) fun z43 =>
                K30 z43) fun K42 =>
              if 4 ≤ ((t29.1 30) - (t29.1 29)) then (
                K42 t29)
              else (
                ck (ib (t29.1 30) 160) <| bn (t29.2 19 (Int32.toNatClampNeg (t29.1 30))) fun x45 =>
                bn (sp t29 32 (((10 * (t29.1 32)) + x45) - 48)) fun z46 =>
                K42 z46)))) n z28))
    else (
      lp (fun K48 (t47 : MS) =>
        jn (fun (t49 : Unit) =>
          cl (f_X8_wordNow n t47) fun q51 =>
          bn (sp t47 32 q51) fun z52 =>
          jn (fun (t53 : Int32) =>
            bn (sp z52 31 t53) fun z55 =>
            some z55) fun K54 =>
          if 0 ≤ (z52.1 32) then (
            K54 1)
          else (
            K54 5)) fun K50 =>
        if (t47.1 20) ≤ (t47.1 30) then (
          K50 ())
        else (
          ck (ib (t47.1 30) 160) <| bn (t47.2 19 (Int32.toNatClampNeg (t47.1 30))) fun x58 =>
          cl (f_X8_isLetter n x58) fun q59 =>
          if q59 = 0 then (
            K50 ())
          else (
            bn (sp t47 30 ((t47.1 30) + 1)) fun z61 =>
            K48 z61))) n z6))
  else (
    bn (sp z6 29 (z6.1 20)) fun z62 =>
    bn (sp z62 31 4) fun z63 =>
    some z63)
def nF8 (n : Nat) : ((MS) → Option MS) → (MS) → Option MS := fun K3 (t2 : MS) =>
  jn (fun (t4 : Unit) =>
    bn (sp t2 30 (t2.1 29)) fun z6 =>
    if (z6.1 29) < (z6.1 20) then (
      ck (ib (z6.1 29) 160) <| bn (z6.2 19 (Int32.toNatClampNeg (z6.1 29))) fun x8 =>
      cl (f_X8_isLetter n x8) fun q9 =>
      if q9 = 0 then (
        cl (f_X8_isDigit n x8) fun q11 =>
        if q11 = 0 then (
          bn (sp z6 30 ((z6.1 30) + 1)) fun z13 =>
          bn (sp z13 32 x8) fun z14 =>
          jn (fun (t15 : Int32) =>
            bn (sp z14 31 t15) fun z17 =>
            some z17) fun K16 =>
          jn (fun (t18 : Unit) =>
            K16 3) fun K19 =>
          if x8 = 40 then (
            K19 ())
          else (
            if x8 = 41 then (
              K19 ())
            else (
              if x8 = 59 then (
                K19 ())
              else (
                if x8 = 43 then (
                  K19 ())
                else (
                  if x8 = 45 then (
                    K19 ())
                  else (
                    if x8 = 42 then (
                      K19 ())
                    else (
                      if x8 = 60 then (
                        K19 ())
                      else (
                        if x8 = 61 then (
                          K19 ())
                        else (
                          K16 5)))))))))
        else (
          bn (sp z6 32 0) fun z28 =>
          lp (fun K30 (t29 : MS) =>
            jn (fun (t31 : Unit) =>
              jn (fun (t33 : Int32) =>
                bn (sp t29 31 t33) fun z35 =>
                some z35) fun K34 =>
              if ((t29.1 30) - (t29.1 29)) ≤ 4 then (
                K34 2)
              else (
                K34 5)) fun K32 =>
            if (t29.1 20) ≤ (t29.1 30) then (
              K32 ())
            else (
              ck (ib (t29.1 30) 160) <| bn (t29.2 19 (Int32.toNatClampNeg (t29.1 30))) fun x38 =>
              cl (f_X8_isDigit n x38) fun q39 =>
              if q39 = 0 then (
                K32 ())
              else (
                jn (fun (t41 : MS) =>
                  bn (sp t41 30 ((t41.1 30) + 1)) fun z43 =>
                  K30 z43) fun K42 =>
                if 4 ≤ ((t29.1 30) - (t29.1 29)) then (
                  K42 t29)
                else (
                  ck (ib (t29.1 30) 160) <| bn (t29.2 19 (Int32.toNatClampNeg (t29.1 30))) fun x45 =>
                  bn (sp t29 32 (((10 * (t29.1 32)) + x45) - 48)) fun z46 =>
                  K42 z46)))) n z28))
      else (
        lp (fun K48 (t47 : MS) =>
          jn (fun (t49 : Unit) =>
            cl (f_X8_wordNow n t47) fun q51 =>
            bn (sp t47 32 q51) fun z52 =>
            jn (fun (t53 : Int32) =>
              bn (sp z52 31 t53) fun z55 =>
              some z55) fun K54 =>
            if 0 ≤ (z52.1 32) then (
              K54 1)
            else (
              K54 5)) fun K50 =>
          if (t47.1 20) ≤ (t47.1 30) then (
            K50 ())
          else (
            ck (ib (t47.1 30) 160) <| bn (t47.2 19 (Int32.toNatClampNeg (t47.1 30))) fun x58 =>
            cl (f_X8_isLetter n x58) fun q59 =>
            if q59 = 0 then (
              K50 ())
            else (
              bn (sp t47 30 ((t47.1 30) + 1)) fun z61 =>
              K48 z61))) n z6))
    else (
      bn (sp z6 29 (z6.1 20)) fun z62 =>
      bn (sp z62 31 4) fun z63 =>
      some z63)) fun K5 =>
  if (t2.1 20) ≤ (t2.1 29) then (
    K5 ())
  else (
    ck (ib (t2.1 29) 160) <| bn (t2.2 19 (Int32.toNatClampNeg (t2.1 29))) fun x65 =>
    jn (fun (t66 : Unit) =>
      bn (sp t2 29 ((t2.1 29) + 1)) fun z68 =>
      K3 z68) fun K67 =>
    if x65 = 32 then (
      K67 ())
    else (
      ck (ib (t2.1 29) 160) <| bn (t2.2 19 (Int32.toNatClampNeg (t2.1 29))) fun x70 =>
      if x70 = 10 then (
        K67 ())
      else (
        K5 ())))
def nW8 (n : Nat) : ((MS) → Option MS) → (MS) → Option MS := fun K48 (t47 : MS) =>
  jn (fun (t49 : Unit) =>
    cl (f_X8_wordNow n t47) fun q51 =>
    bn (sp t47 32 q51) fun z52 =>
    jn (fun (t53 : Int32) =>
      bn (sp z52 31 t53) fun z55 =>
      some z55) fun K54 =>
    if 0 ≤ (z52.1 32) then (
      K54 1)
    else (
      K54 5)) fun K50 =>
  if (t47.1 20) ≤ (t47.1 30) then (
    K50 ())
  else (
    ck (ib (t47.1 30) 160) <| bn (t47.2 19 (Int32.toNatClampNeg (t47.1 30))) fun x58 =>
    cl (f_X8_isLetter n x58) fun q59 =>
    if q59 = 0 then (
      K50 ())
    else (
      bn (sp t47 30 ((t47.1 30) + 1)) fun z61 =>
      K48 z61))
def nD8 (n : Nat) : ((MS) → Option MS) → (MS) → Option MS := fun K30 (t29 : MS) =>
  jn (fun (t31 : Unit) =>
    jn (fun (t33 : Int32) =>
      bn (sp t29 31 t33) fun z35 =>
      some z35) fun K34 =>
    if ((t29.1 30) - (t29.1 29)) ≤ 4 then (
      K34 2)
    else (
      K34 5)) fun K32 =>
  if (t29.1 20) ≤ (t29.1 30) then (
    K32 ())
  else (
    ck (ib (t29.1 30) 160) <| bn (t29.2 19 (Int32.toNatClampNeg (t29.1 30))) fun x38 =>
    cl (f_X8_isDigit n x38) fun q39 =>
    if q39 = 0 then (
      K32 ())
    else (
      jn (fun (t41 : MS) =>
        bn (sp t41 30 ((t41.1 30) + 1)) fun z43 =>
        K30 z43) fun K42 =>
      if 4 ≤ ((t29.1 30) - (t29.1 29)) then (
        K42 t29)
      else (
        ck (ib (t29.1 30) 160) <| bn (t29.2 19 (Int32.toNatClampNeg (t29.1 30))) fun x45 =>
        bn (sp t29 32 (((10 * (t29.1 32)) + x45) - 48)) fun z46 =>
        K42 z46)))
def wI8 (n : Nat) (s0 : MS) (k : Int32) (K2 : Int32 × Int32 → Option Int32) : ((Int32 × Int32 × Int32) → Option Int32) → (Int32 × Int32 × Int32) → Option Int32 := fun K5 (t4 : Int32 × Int32 × Int32) =>
  ck (ib t4.1 53) <| bn (s0.2 35 (Int32.toNatClampNeg t4.1)) fun x6 =>
  if x6 = 32 then (
    jn (fun (t8 : Unit) =>
      K2 ((t4.1 + 1), (k + 1))) fun K9 =>
    if t4.2.2 = 0 then (
      K9 ())
    else (
      if t4.2.1 = (s0.1 30) then (
        ck (ib k 12) <| bn (s0.2 36 (Int32.toNatClampNeg k)) fun x12 =>
        some x12)
      else (
        K9 ())))
  else (
    jn (fun (t13 : Int32) =>
      K5 ((t4.1 + 1), (t4.2.1 + 1), t13)) fun K14 =>
    jn (fun (t15 : Unit) =>
      K14 0) fun K16 =>
    if (s0.1 30) ≤ t4.2.1 then (
      K16 ())
    else (
      ck (ib t4.2.1 160) <| bn (s0.2 19 (Int32.toNatClampNeg t4.2.1)) fun x18 =>
      ck (ib t4.1 53) <| bn (s0.2 35 (Int32.toNatClampNeg t4.1)) fun x19 =>
      if x18 = x19 then (
        K14 t4.2.2)
      else (
        K16 ())))
def wO8 (n : Nat) (s0 : MS) : ((Int32 × Int32) → Option Int32) → (Int32 × Int32) → Option Int32 := fun K2 (t1 : Int32 × Int32) =>
  if 12 ≤ t1.2 then (
    some (-1))
  else (
    lp (fun K5 (t4 : Int32 × Int32 × Int32) =>
      ck (ib t4.1 53) <| bn (s0.2 35 (Int32.toNatClampNeg t4.1)) fun x6 =>
      if x6 = 32 then (
        jn (fun (t8 : Unit) =>
          K2 ((t4.1 + 1), (t1.2 + 1))) fun K9 =>
        if t4.2.2 = 0 then (
          K9 ())
        else (
          if t4.2.1 = (s0.1 30) then (
            ck (ib t1.2 12) <| bn (s0.2 36 (Int32.toNatClampNeg t1.2)) fun x12 =>
            some x12)
          else (
            K9 ())))
      else (
        jn (fun (t13 : Int32) =>
          K5 ((t4.1 + 1), (t4.2.1 + 1), t13)) fun K14 =>
        jn (fun (t15 : Unit) =>
          K14 0) fun K16 =>
        if (s0.1 30) ≤ t4.2.1 then (
          K16 ())
        else (
          ck (ib t4.2.1 160) <| bn (s0.2 19 (Int32.toNatClampNeg t4.2.1)) fun x18 =>
          ck (ib t4.1 53) <| bn (s0.2 35 (Int32.toNatClampNeg t4.1)) fun x19 =>
          if x18 = x19 then (
            K14 t4.2.2)
          else (
            K16 ())))) n (t1.1, (s0.1 29), 1))
def vN4 (n : Nat) (s0 : MS) : ((Int32 × Int32) → Option Int32) → (Int32 × Int32) → Option Int32 := fun K3 (t2 : Int32 × Int32) =>
  if (s0.1 2) ≤ t2.2 then (
    some (1000 + t2.1))
  else (
    ck (ib t2.2 160) <| bn (s0.2 0 (Int32.toNatClampNeg t2.2)) fun x5 =>
    bn (((10 * t2.1) + x5) - 48) fun x6 =>
    K3 (x6, (t2.2 + 1)))

theorem c_spells (n : Nat) (hn : 170 ≤ n) (P : MS) (p q k : Nat) (hk : k < 12) (hp : P.1 4 = nI p) (hq : P.1 2 = nI q) (hpq : p ≤ q) (hq2 : q ≤ 160) : ∃ r, f_X4_spells n (k + 1) P = some r ∧ ((r = 1 ∧ WM (P.2 0) p q k) ∨ (r = 0 ∧ ¬ WM (P.2 0) p q k)) := by
  obtain ⟨f1, -, -, -, f5, f6, f7, f8, -, -⟩ := wfacts k hk
  have hs : (nI q - nI p) = nI (q - p) := by
    apply nI_eqI
    rw [sub_i _ _ (by rw [nI_toInt (by omega), nI_toInt (by omega)]; omega), nI_toInt (by omega), nI_toInt (by omega)]
    omega
  unfold f_X4_spells
  rw [hp, hq, hs, f7]
  by_cases h : q = p + wl k
  case neg =>
    rw [if_neg (by rw [eq_i, nI_toInt (by omega), nI_toInt (by omega)]; omega)]
    exact ⟨0, rfl, Or.inr ⟨rfl, fun hw => h hw.1⟩⟩
  rw [if_pos (by rw [h, Nat.add_sub_cancel_left])]
  obtain ⟨r, hr, he⟩ := lp_inv (F := fun K3 (t2 : Int32) =>
      if nI (wl k) ≤ t2 then (
        ck (isz 1) <| some (1 : Int32))
      else (
        ck (ib (nI p + t2) 160) <| bn (P.2 0 (Int32.toNatClampNeg (nI p + t2))) fun x5 =>
        ck (ib t2 (K_len.getD (k + 1) 0)) <| bn (schr (k + 1) (Int32.toNatClampNeg t2)) fun x6 =>
        if x5 = x6 then (
          K3 (t2 + 1))
        else (
          ck (isz 0) <| some 0))) (fun t => ∃ j, j ≤ wl k ∧ t = nI j ∧ ∀ i, i < j → P.2 0 (p + i) = schr (k + 1) i) (fun t => 6 - t.toNatClampNeg) (fun (r : Int32) => (r = 1 ∧ WM (P.2 0) p q k) ∨ (r = 0 ∧ ¬ WM (P.2 0) p q k)) (by
    rintro t ⟨j, hj, rfl, hm⟩
    by_cases e : j = wl k
    · subst e
      exact Or.inr ⟨1, Or.inl ⟨rfl, h, hm⟩, fun self => by rw [if_pos (Int32.le_refl _)]; rfl⟩
    · have a1 : ¬ nI (wl k) ≤ nI j := nI_ge (by omega) (by omega)
      have a2 : ib (nI (p + j)) 160 = true := ib_j (by omega) (by omega)
      have a3 : ib (nI j) (K_len.getD (k + 1) 0) = true := ib_j (by omega) (by omega)
      by_cases hb : P.2 0 (p + j) = schr (k + 1) j
      · refine Or.inl ⟨nI (j + 1), ⟨j + 1, by omega, rfl, fun i hi => ?_⟩, by rw [nI_clamp (by omega), nI_clamp (by omega)]; omega, fun self => ?_⟩
        · by_cases e2 : i = j
          · rw [e2]; exact hb
          · exact hm i (by omega)
        · rw [if_neg a1, nI_ad, a2, ck_t, bn_def, a3, ck_t, bn_def, nI_clamp (by omega), nI_clamp (by omega), if_pos hb, nI_succ]
      · refine Or.inr ⟨0, Or.inr ⟨rfl, fun hw => hb (hw.2 j (by omega))⟩, fun self => ?_⟩
        rw [if_neg a1, nI_ad, a2, ck_t, bn_def, a3, ck_t, bn_def, nI_clamp (by omega), nI_clamp (by omega), if_neg hb]
        rfl) n 0 ⟨0, Nat.zero_le _, rfl, fun i hi => absurd hi (Nat.not_lt_zero _)⟩ (by show 6 - (0 : Int32).toNatClampNeg < n; omega)
  exact ⟨r, he, hr⟩
/-- which word it is -/
def WD (B : Nat → Int32) (p q : Nat) (k : Nat) : Prop := k ≤ 12 ∧ (k < 12 → WM B p q k) ∧ ∀ j, j < k → ¬ WM B p q j
theorem WD_one {B : Nat → Int32} {p q k j : Nat} (h : WD B p q k) (h' : WD B p q j) : k = j := by
  obtain ⟨a1, a2, a3⟩ := h
  obtain ⟨b1, b2, b3⟩ := h'
  apply Nat.le_antisymm
  · exact Nat.le_of_not_lt (fun hlt => a3 j hlt (b2 (by omega)))
  · exact Nat.le_of_not_lt (fun hlt => b3 k hlt (a2 (by omega)))
theorem c_word (n : Nat) (hn : 170 ≤ n) (P : MS) (p q : Nat) (hp : P.1 4 = nI p) (hq : P.1 2 = nI q) (hpq : p ≤ q) (hq2 : q ≤ 160) : ∃ k, WD (P.2 0) p q k ∧ f_X4_wordToken n P = some (tkO k) := by
  unfold f_X4_wordToken
  obtain ⟨r0, e0, c0⟩ := c_spells n hn P p q 0 (by omega) hp hq hpq hq2
  rw [e0, cl_some]
  rcases c0 with ⟨rfl, m0⟩ | ⟨rfl, m0⟩
  · exact ⟨0, ⟨by omega, fun _ => m0, fun j hj => absurd hj (Nat.not_lt_zero _)⟩, rfl⟩
  rw [if_pos rfl]
  obtain ⟨r1, e1, c1⟩ := c_spells n hn P p q 1 (by omega) hp hq hpq hq2
  rw [e1, cl_some]
  rcases c1 with ⟨rfl, m1⟩ | ⟨rfl, m1⟩
  · exact ⟨1, ⟨by omega, fun _ => m1, fun j hj => (by omega : j = 0) ▸ m0⟩, rfl⟩
  rw [if_pos rfl]
  obtain ⟨r2, e2, c2⟩ := c_spells n hn P p q 2 (by omega) hp hq hpq hq2
  rw [e2, cl_some]
  rcases c2 with ⟨rfl, m2⟩ | ⟨rfl, m2⟩
  · exact ⟨2, ⟨by omega, fun _ => m2, fun j hj => (show j < 2 → ¬ WM (P.2 0) p q j from fun h => by rcases (by omega : j = 0 ∨ j = 1) with rfl | rfl <;> assumption) hj⟩, rfl⟩
  rw [if_pos rfl]
  obtain ⟨r3, e3, c3⟩ := c_spells n hn P p q 3 (by omega) hp hq hpq hq2
  rw [e3, cl_some]
  rcases c3 with ⟨rfl, m3⟩ | ⟨rfl, m3⟩
  · exact ⟨3, ⟨by omega, fun _ => m3, fun j hj => (show j < 3 → ¬ WM (P.2 0) p q j from fun h => by rcases (by omega : j = 0 ∨ j = 1 ∨ j = 2) with rfl | rfl | rfl <;> assumption) hj⟩, rfl⟩
  rw [if_pos rfl]
  obtain ⟨r4, e4, c4⟩ := c_spells n hn P p q 4 (by omega) hp hq hpq hq2
  rw [e4, cl_some]
  rcases c4 with ⟨rfl, m4⟩ | ⟨rfl, m4⟩
  · exact ⟨4, ⟨by omega, fun _ => m4, fun j hj => (show j < 4 → ¬ WM (P.2 0) p q j from fun h => by rcases (by omega : j = 0 ∨ j = 1 ∨ j = 2 ∨ j = 3) with rfl | rfl | rfl | rfl <;> assumption) hj⟩, rfl⟩
  rw [if_pos rfl]
  obtain ⟨r5, e5, c5⟩ := c_spells n hn P p q 5 (by omega) hp hq hpq hq2
  rw [e5, cl_some]
  rcases c5 with ⟨rfl, m5⟩ | ⟨rfl, m5⟩
  · exact ⟨5, ⟨by omega, fun _ => m5, fun j hj => (show j < 5 → ¬ WM (P.2 0) p q j from fun h => by rcases (by omega : j = 0 ∨ j = 1 ∨ j = 2 ∨ j = 3 ∨ j = 4) with rfl | rfl | rfl | rfl | rfl <;> assumption) hj⟩, rfl⟩
  rw [if_pos rfl]
  obtain ⟨r6, e6, c6⟩ := c_spells n hn P p q 6 (by omega) hp hq hpq hq2
  rw [e6, cl_some]
  rcases c6 with ⟨rfl, m6⟩ | ⟨rfl, m6⟩
  · exact ⟨6, ⟨by omega, fun _ => m6, fun j hj => (show j < 6 → ¬ WM (P.2 0) p q j from fun h => by rcases (by omega : j = 0 ∨ j = 1 ∨ j = 2 ∨ j = 3 ∨ j = 4 ∨ j = 5) with rfl | rfl | rfl | rfl | rfl | rfl <;> assumption) hj⟩, rfl⟩
  rw [if_pos rfl]
  obtain ⟨r7, e7, c7⟩ := c_spells n hn P p q 7 (by omega) hp hq hpq hq2
  rw [e7, cl_some]
  rcases c7 with ⟨rfl, m7⟩ | ⟨rfl, m7⟩
  · exact ⟨7, ⟨by omega, fun _ => m7, fun j hj => (show j < 7 → ¬ WM (P.2 0) p q j from fun h => by rcases (by omega : j = 0 ∨ j = 1 ∨ j = 2 ∨ j = 3 ∨ j = 4 ∨ j = 5 ∨ j = 6) with rfl | rfl | rfl | rfl | rfl | rfl | rfl <;> assumption) hj⟩, rfl⟩
  rw [if_pos rfl]
  obtain ⟨r8, e8, c8⟩ := c_spells n hn P p q 8 (by omega) hp hq hpq hq2
  rw [e8, cl_some]
  rcases c8 with ⟨rfl, m8⟩ | ⟨rfl, m8⟩
  · exact ⟨8, ⟨by omega, fun _ => m8, fun j hj => (show j < 8 → ¬ WM (P.2 0) p q j from fun h => by rcases (by omega : j = 0 ∨ j = 1 ∨ j = 2 ∨ j = 3 ∨ j = 4 ∨ j = 5 ∨ j = 6 ∨ j = 7) with rfl | rfl | rfl | rfl | rfl | rfl | rfl | rfl <;> assumption) hj⟩, rfl⟩
  rw [if_pos rfl]
  obtain ⟨r9, e9, c9⟩ := c_spells n hn P p q 9 (by omega) hp hq hpq hq2
  rw [e9, cl_some]
  rcases c9 with ⟨rfl, m9⟩ | ⟨rfl, m9⟩
  · exact ⟨9, ⟨by omega, fun _ => m9, fun j hj => (show j < 9 → ¬ WM (P.2 0) p q j from fun h => by rcases (by omega : j = 0 ∨ j = 1 ∨ j = 2 ∨ j = 3 ∨ j = 4 ∨ j = 5 ∨ j = 6 ∨ j = 7 ∨ j = 8) with rfl | rfl | rfl | rfl | rfl | rfl | rfl | rfl | rfl <;> assumption) hj⟩, rfl⟩
  rw [if_pos rfl]
  obtain ⟨r10, e10, c10⟩ := c_spells n hn P p q 10 (by omega) hp hq hpq hq2
  rw [e10, cl_some]
  rcases c10 with ⟨rfl, m10⟩ | ⟨rfl, m10⟩
  · exact ⟨10, ⟨by omega, fun _ => m10, fun j hj => (show j < 10 → ¬ WM (P.2 0) p q j from fun h => by rcases (by omega : j = 0 ∨ j = 1 ∨ j = 2 ∨ j = 3 ∨ j = 4 ∨ j = 5 ∨ j = 6 ∨ j = 7 ∨ j = 8 ∨ j = 9) with rfl | rfl | rfl | rfl | rfl | rfl | rfl | rfl | rfl | rfl <;> assumption) hj⟩, rfl⟩
  rw [if_pos rfl]
  obtain ⟨r11, e11, c11⟩ := c_spells n hn P p q 11 (by omega) hp hq hpq hq2
  rw [e11, cl_some]
  rcases c11 with ⟨rfl, m11⟩ | ⟨rfl, m11⟩
  · exact ⟨11, ⟨by omega, fun _ => m11, fun j hj => (show j < 11 → ¬ WM (P.2 0) p q j from fun h => by rcases (by omega : j = 0 ∨ j = 1 ∨ j = 2 ∨ j = 3 ∨ j = 4 ∨ j = 5 ∨ j = 6 ∨ j = 7 ∨ j = 8 ∨ j = 9 ∨ j = 10) with rfl | rfl | rfl | rfl | rfl | rfl | rfl | rfl | rfl | rfl | rfl <;> assumption) hj⟩, rfl⟩
  exact ⟨12, ⟨by omega, fun h => absurd h (by omega), fun j hj => (show j < 12 → ¬ WM (P.2 0) p q j from fun h => by rcases (by omega : j = 0 ∨ j = 1 ∨ j = 2 ∨ j = 3 ∨ j = 4 ∨ j = 5 ∨ j = 6 ∨ j = 7 ∨ j = 8 ∨ j = 9 ∨ j = 10 ∨ j = 11) with rfl | rfl | rfl | rfl | rfl | rfl | rfl | rfl | rfl | rfl | rfl | rfl <;> assumption) hj⟩, rfl⟩
theorem m_word (n : Nat) (hn : 170 ≤ n) (s : MS) (B : Nat → Int32) (Z p q : Nat) (h35 : s.2 35 = st0_X8.2 35) (h36 : s.2 36 = st0_X8.2 36) (hB : ∀ i, i < Z → IR (B i) 0 255 ∧ s.2 19 i = sb (B i)) (hp : s.1 29 = nI p) (hq : s.1 30 = nI q) (hpq : p ≤ q) (hqZ : q ≤ Z) (hZ : Z ≤ 160) : ∃ k, WD B p q k ∧ f_X8_wordNow n s = some (if k < 12 then mnO k else -1) := by
  obtain ⟨r, ⟨k, hk, hr⟩, he⟩ := lp_inv (F := wO8 n s) (fun x => ∃ k, k ≤ 12 ∧ x = (nI (wa k), nI k) ∧ ∀ j, j < k → ¬ WM B p q j) (fun x => 12 - x.2.toNatClampNeg) (fun r => ∃ k, WD B p q k ∧ r = (if k < 12 then mnO k else -1)) (by
    rintro x ⟨k, hk, rfl, hm⟩
    by_cases e : k = 12
    · subst e
      refine Or.inr ⟨-1, ⟨12, ⟨by omega, fun h => absurd h (by omega), hm⟩, rfl⟩, fun self => ?_⟩
      unfold wO8
      dsimp only
      rw [if_pos (by decide)]
    have hk12 : k < 12 := by omega
    obtain ⟨f1, f2, f3, f4, f5, f6, -, -, f9, f10⟩ := wfacts k hk12
    obtain ⟨y, ⟨y1, y2, y3⟩, hy⟩ := lp_to (F := wI8 n s (nI k)) (wl k) (fun j x => x.1 = nI (wa k + j) ∧ x.2.1 = nI (p + j) ∧ ((x.2.2 = 1 ∧ ∀ i, i < j → p + i < q ∧ B (p + i) = schr (k + 1) i) ∨ (x.2.2 = 0 ∧ ¬ WM B p q k))) (fun K2 x => if x.2.2 = 0 then K2 (nI (wa k + wl k) + 1, nI k + 1) else if x.2.1 = nI q then some (mnO k) else K2 (nI (wa k + wl k) + 1, nI k + 1)) (by
      rintro j ⟨a, b, d⟩ hj ⟨rfl, rfl, hd⟩
      obtain ⟨g1, g2, g3, g4, g5⟩ := f1 j hj
      have a1 : ib (nI (wa k + j)) 53 = true := ib_j (by omega) (by omega)
      have a2 : (nI (wa k + j)).toNatClampNeg = wa k + j := nI_clamp (by omega)
      have a3 : nI (wa k + j) + 1 = nI (wa k + (j + 1)) := (nI_succ _).symm
      have a4 : nI (p + j) + 1 = nI (p + (j + 1)) := (nI_succ _).symm
      have st : ∀ K2 self, wI8 n s (nI k) K2 self (nI (wa k + j), nI (p + j), d) = (if nI q ≤ nI (p + j) then self (nI (wa k + (j + 1)), nI (p + (j + 1)), 0) else if s.2 19 (p + j) = schr (k + 1) j then self (nI (wa k + (j + 1)), nI (p + (j + 1)), d) else self (nI (wa k + (j + 1)), nI (p + (j + 1)), 0)) := by
        intro K2 self
        unfold wI8
        dsimp only
        rw [a1, ck_t, a2, h35, bn_def, g1, if_neg g2, hq]
        simp only [jn_def, a3, a4]
        by_cases hc : nI q ≤ nI (p + j)
        · rw [if_pos hc, if_pos hc]
        · have hc' : p + j < q := by
            rw [le_i, nI_toInt (by omega), nI_toInt (by omega)] at hc; omega
          rw [if_neg hc, if_neg hc, ib_j (by omega) (by omega), ck_t, bn_def, ck_t, bn_def, nI_clamp (by omega)]
      by_cases hc : nI q ≤ nI (p + j)
      · refine ⟨(nI (wa k + (j + 1)), nI (p + (j + 1)), 0), ⟨rfl, rfl, Or.inr ⟨rfl, fun hw => ?_⟩⟩, fun K2 self => by rw [st, if_pos hc]⟩
        rw [le_i, nI_toInt (by omega), nI_toInt (by omega)] at hc
        have := hw.1
        omega
      · have hc' : p + j < q := by
          rw [le_i, nI_toInt (by omega), nI_toInt (by omega)] at hc; omega
        obtain ⟨b1, b2⟩ := hB (p + j) (by omega)
        by_cases hb : B (p + j) = schr (k + 1) j
        · have hb' : s.2 19 (p + j) = schr (k + 1) j := by rw [b2, sb_eq b1 g4 g5]; exact hb
          refine ⟨(nI (wa k + (j + 1)), nI (p + (j + 1)), d), ⟨rfl, rfl, ?_⟩, fun K2 self => by rw [st, if_neg hc, if_pos hb']⟩
          rcases hd with ⟨d1, d2⟩ | hd
          · refine Or.inl ⟨d1, fun i hi => ?_⟩
            by_cases e2 : i = j
            · rw [e2]; exact ⟨hc', hb⟩
            · exact d2 i (by omega)
          · exact Or.inr hd
        · have hb' : ¬ s.2 19 (p + j) = schr (k + 1) j := by rw [b2, sb_eq b1 g4 g5]; exact hb
          exact ⟨(nI (wa k + (j + 1)), nI (p + (j + 1)), 0), ⟨rfl, rfl, Or.inr ⟨rfl, fun hw => hb (hw.2 j hj)⟩⟩, fun K2 self => by rw [st, if_neg hc, if_neg hb']⟩) (by
      rintro ⟨a, b, d⟩ ⟨rfl, rfl, hd⟩ K2 self
      unfold wI8
      dsimp only
      rw [ib_j f3 (by omega), ck_t, nI_clamp (by omega), h35, bn_def, f2, if_pos rfl, hq, ib_j hk12 (by omega), ck_t, nI_clamp (by omega), h36, bn_def, f9]
      simp only [jn_def]) n (by omega) (nI (wa k), nI p, 1) ⟨rfl, rfl, Or.inl ⟨rfl, fun i hi => absurd hi (Nat.not_lt_zero _)⟩⟩
    have go : ∀ self, wO8 n s self (nI (wa k), nI k) = (if y.2.2 = 0 then self (nI (wa (k + 1)), nI (k + 1)) else if y.2.1 = nI q then some (mnO k) else self (nI (wa (k + 1)), nI (k + 1))) := by
      intro self
      have h1 : wO8 n s self (nI (wa k), nI k) = lp (wI8 n s (nI k) self) n (nI (wa k), s.1 29, 1) := by
        unfold wO8
        dsimp only
        rw [if_neg (lge 12 12 rfl hk12 (by omega))]
        rfl
      rw [h1, hp, hy self, ← nI_succ, ← nI_succ, f4]
    have nx : ¬ WM B p q k → (∃ x', (∃ k, k ≤ 12 ∧ x' = (nI (wa k), nI k) ∧ ∀ j, j < k → ¬ WM B p q j) ∧ 12 - x'.2.toNatClampNeg < 12 - (nI k).toNatClampNeg ∧ x' = (nI (wa (k + 1)), nI (k + 1))) := fun hw => ⟨_, ⟨k + 1, by omega, rfl, fun j hj => by
      by_cases e2 : j = k
      · rw [e2]; exact hw
      · exact hm j (by omega)⟩, by show 12 - (nI (k + 1)).toNatClampNeg < _; rw [nI_clamp (by omega), nI_clamp (by omega)]; omega, rfl⟩
    rcases y3 with ⟨d1, d2⟩ | ⟨d1, d2⟩
    · by_cases hend : p + wl k = q
      · refine Or.inr ⟨mnO k, ⟨k, ⟨by omega, fun _ => ⟨hend.symm, fun i hi => (d2 i hi).2⟩, hm⟩, (if_pos hk12).symm⟩, fun self => ?_⟩
        rw [go self, d1, if_neg (by decide), y2, hend, if_pos rfl]
      · obtain ⟨x', h1, h2, rfl⟩ := nx (fun hw => hend hw.1.symm)
        refine Or.inl ⟨_, h1, h2, fun self => ?_⟩
        rw [go self, d1, if_neg (by decide), y2, if_neg]
        intro h
        rw [eq_i, nI_toInt (by omega), nI_toInt (by omega)] at h
        omega
    · obtain ⟨x', h1, h2, rfl⟩ := nx d2
      refine Or.inl ⟨_, h1, h2, fun self => ?_⟩
      rw [go self, d1, if_pos rfl]) n (nI 0, nI 0) ⟨0, by omega, rfl, fun j hj => absurd hj (Nat.not_lt_zero _)⟩ (by show 12 - (nI 0).toNatClampNeg < n; omega)
  exact ⟨k, hk, by rw [← hr]; exact he⟩
def numV (B : Nat → Int32) (p : Nat) : Nat → Int32
  | 0 => 0
  | j + 1 => ((10 * numV B p j) + B (p + j)) - 48
theorem numV_bd (B : Nat → Int32) (p : Nat) : ∀ j, j ≤ 4 → (∀ i, i < j → IR (B (p + i)) 48 57) → IR (numV B p j) 0 ((10 ^ j : Nat) - 1) := by
  have z10 : (10 : Int32).toInt = 10 := by decide
  have z48 : (48 : Int32).toInt = 48 := by decide
  intro j
  induction j with
  | zero => intro _ _; exact ⟨by show 0 ≤ (0 : Int32).toInt; decide, by show (0 : Int32).toInt ≤ _; decide⟩
  | succ j ih =>
    intro hj hd
    obtain ⟨a1, a2⟩ := ih (by omega) (fun i hi => hd i (by omega))
    obtain ⟨b1, b2⟩ := hd j (by omega)
    have hp : (10 ^ j : Nat) ≤ 1000 := by
      have : j = 0 ∨ j = 1 ∨ j = 2 ∨ j = 3 := by omega
      rcases this with rfl | rfl | rfl | rfl <;> decide
    have hs : (10 ^ (j + 1) : Nat) = 10 * 10 ^ j := by rw [Nat.pow_succ]; omega
    have m1 : ((10 : Int32) * numV B p j).toInt = 10 * (numV B p j).toInt := by rw [mul_i _ _ (by rw [z10]; omega), z10]
    have m2 : ((10 : Int32) * numV B p j + B (p + j)).toInt = 10 * (numV B p j).toInt + (B (p + j)).toInt := by rw [add_i _ _ (by rw [m1]; omega), m1]
    have m3 : (numV B p (j + 1)).toInt = 10 * (numV B p j).toInt + (B (p + j)).toInt - 48 := by
      show (((10 : Int32) * numV B p j + B (p + j)) - 48).toInt = _
      rw [sub_i _ _ (by rw [m2, z48]; omega), m2, z48]
    refine ⟨by rw [m3]; omega, ?_⟩
    rw [m3, hs]
    omega
theorem c_num (n : Nat) (hn : 170 ≤ n) (P : MS) (p q : Nat) (hp : P.1 4 = nI p) (hq : P.1 2 = nI q) (hpq : p ≤ q) (hq2 : q ≤ 160) : f_X4_numberToken n P = some (if q - p ≤ 4 then 1000 + numV (P.2 0) p (q - p) else 0) := by
  have hs : (nI q - nI p) = nI (q - p) := by
    apply nI_eqI
    rw [sub_i _ _ (by rw [nI_toInt (by omega), nI_toInt (by omega)]; omega), nI_toInt (by omega), nI_toInt (by omega)]
    omega
  have e4 : (nI (q - p) ≤ (4 : Int32)) = (q - p ≤ 4) := by
    rw [le_i, nI_toInt (by omega), show (4 : Int32).toInt = 4 by decide]
    exact propext ⟨fun h => by omega, fun h => by omega⟩
  have h1 : f_X4_numberToken n P = (if P.1 2 - P.1 4 ≤ 4 then lp (vN4 n P) n (0, P.1 4) else some 0) := rfl
  rw [h1, hp, hq, hs]
  simp only [e4]
  by_cases h : q - p ≤ 4
  · rw [if_pos h, if_pos h]
    have := lp_fn (F := vN4 n P) (q - p) (fun j => (numV (P.2 0) p j, nI (p + j))) (some (1000 + numV (P.2 0) p (q - p))) (fun j hj self => by
      unfold vN4
      dsimp only
      rw [hq, if_neg (nI_ge (by omega) (by omega)), ib_j (by omega) (by omega), ck_t, bn_def, bn_def, nI_clamp (by omega), ← nI_succ]
      rfl) (fun self => by
      unfold vN4
      dsimp only
      rw [hq, show p + (q - p) = q by omega, if_pos (Int32.le_refl _)]) n (by omega)
    exact this
  · rw [if_neg h, if_neg h]
abbrev SG (b : Int32) : Prop := b = 40 ∨ b = 41 ∨ b = 59 ∨ b = 43 ∨ b = 45 ∨ b = 42 ∨ b = 60 ∨ b = 61
theorem c_sign (n : Nat) (b : Int32) : f_X4_signToken n b = some (if SG b then b else 0) := by
  unfold f_X4_signToken SG
  by_cases h40 : b = 40
  · subst h40; rfl
  by_cases h41 : b = 41
  · subst h41; rfl
  by_cases h42 : b = 42
  · subst h42; rfl
  by_cases h43 : b = 43
  · subst h43; rfl
  by_cases h44 : b = 44
  · subst h44; rfl
  by_cases h45 : b = 45
  · subst h45; rfl
  by_cases h46 : b = 46
  · subst h46; rfl
  by_cases h47 : b = 47
  · subst h47; rfl
  by_cases h48 : b = 48
  · subst h48; rfl
  by_cases h49 : b = 49
  · subst h49; rfl
  by_cases h50 : b = 50
  · subst h50; rfl
  by_cases h51 : b = 51
  · subst h51; rfl
  by_cases h52 : b = 52
  · subst h52; rfl
  by_cases h53 : b = 53
  · subst h53; rfl
  by_cases h54 : b = 54
  · subst h54; rfl
  by_cases h55 : b = 55
  · subst h55; rfl
  by_cases h56 : b = 56
  · subst h56; rfl
  by_cases h57 : b = 57
  · subst h57; rfl
  by_cases h58 : b = 58
  · subst h58; rfl
  by_cases h59 : b = 59
  · subst h59; rfl
  by_cases h60 : b = 60
  · subst h60; rfl
  by_cases h61 : b = 61
  · subst h61; rfl
  simp only [h40, h41, h42, h43, h44, h45, h46, h47, h48, h49, h50, h51, h52, h53, h54, h55, h56, h57, h58, h59, h60, h61, if_false, or_self]
theorem m_sign {ρ : Type} (b : Int32) (X Y : Option ρ) : (if b = 40 then X else if b = 41 then X else if b = 59 then X else if b = 43 then X else if b = 45 then X else if b = 42 then X else if b = 60 then X else if b = 61 then X else Y) = if SG b then X else Y := by
  unfold SG
  by_cases h40 : b = 40
  · simp only [h40, if_true, if_false, true_or, or_true, show ((40 : Int32) = 41) = False by decide, show ((40 : Int32) = 59) = False by decide, show ((40 : Int32) = 43) = False by decide, show ((40 : Int32) = 45) = False by decide, show ((40 : Int32) = 42) = False by decide, show ((40 : Int32) = 60) = False by decide, show ((40 : Int32) = 61) = False by decide]
  by_cases h41 : b = 41
  · simp only [h41, if_true, if_false, true_or, or_true, show ((41 : Int32) = 40) = False by decide, show ((41 : Int32) = 59) = False by decide, show ((41 : Int32) = 43) = False by decide, show ((41 : Int32) = 45) = False by decide, show ((41 : Int32) = 42) = False by decide, show ((41 : Int32) = 60) = False by decide, show ((41 : Int32) = 61) = False by decide]
  by_cases h59 : b = 59
  · simp only [h59, if_true, if_false, true_or, or_true, show ((59 : Int32) = 40) = False by decide, show ((59 : Int32) = 41) = False by decide, show ((59 : Int32) = 43) = False by decide, show ((59 : Int32) = 45) = False by decide, show ((59 : Int32) = 42) = False by decide, show ((59 : Int32) = 60) = False by decide, show ((59 : Int32) = 61) = False by decide]
  by_cases h43 : b = 43
  · simp only [h43, if_true, if_false, true_or, or_true, show ((43 : Int32) = 40) = False by decide, show ((43 : Int32) = 41) = False by decide, show ((43 : Int32) = 59) = False by decide, show ((43 : Int32) = 45) = False by decide, show ((43 : Int32) = 42) = False by decide, show ((43 : Int32) = 60) = False by decide, show ((43 : Int32) = 61) = False by decide]
  by_cases h45 : b = 45
  · simp only [h45, if_true, if_false, true_or, or_true, show ((45 : Int32) = 40) = False by decide, show ((45 : Int32) = 41) = False by decide, show ((45 : Int32) = 59) = False by decide, show ((45 : Int32) = 43) = False by decide, show ((45 : Int32) = 42) = False by decide, show ((45 : Int32) = 60) = False by decide, show ((45 : Int32) = 61) = False by decide]
  by_cases h42 : b = 42
  · simp only [h42, if_true, if_false, true_or, or_true, show ((42 : Int32) = 40) = False by decide, show ((42 : Int32) = 41) = False by decide, show ((42 : Int32) = 59) = False by decide, show ((42 : Int32) = 43) = False by decide, show ((42 : Int32) = 45) = False by decide, show ((42 : Int32) = 60) = False by decide, show ((42 : Int32) = 61) = False by decide]
  by_cases h60 : b = 60
  · simp only [h60, if_true, if_false, true_or, or_true, show ((60 : Int32) = 40) = False by decide, show ((60 : Int32) = 41) = False by decide, show ((60 : Int32) = 59) = False by decide, show ((60 : Int32) = 43) = False by decide, show ((60 : Int32) = 45) = False by decide, show ((60 : Int32) = 42) = False by decide, show ((60 : Int32) = 61) = False by decide]
  by_cases h61 : b = 61
  · simp only [h61, if_true, if_false, true_or, or_true, show ((61 : Int32) = 40) = False by decide, show ((61 : Int32) = 41) = False by decide, show ((61 : Int32) = 59) = False by decide, show ((61 : Int32) = 43) = False by decide, show ((61 : Int32) = 45) = False by decide, show ((61 : Int32) = 42) = False by decide, show ((61 : Int32) = 60) = False by decide]
  simp only [h40, h41, h59, h43, h45, h42, h60, h61, if_false, or_self]
/-- the same token, as both sides say it -/
def TKN (k sn is : Int32) : Prop := (k = is ∧ sn = 3 ∧ SG k) ∨ (k = 0 ∧ sn = 5) ∨ (∃ j, j < 12 ∧ k = tkO j ∧ is = mnO j ∧ sn = 1) ∨ (sn = 2 ∧ k = 1000 + is ∧ IR is 0 9999)
def NXT (P s : MS) (Z p0 : Nat) (P' s' : MS) : Prop := P'.2 = P.2 ∧ s'.2 = s.2 ∧ (∀ k, k ≠ 2 → k ≠ 3 → k ≠ 4 → P'.1 k = P.1 k) ∧ (∀ k, k ≠ 29 → k ≠ 30 → k ≠ 31 → k ≠ 32 → s'.1 k = s.1 k) ∧ ∃ p q, p0 ≤ p ∧ p ≤ q ∧ q ≤ Z ∧ P'.1 4 = nI p ∧ s'.1 29 = nI p ∧ P'.1 2 = nI q ∧ s'.1 30 = nI q ∧ ((p = Z ∧ P'.1 3 = 1 ∧ s'.1 31 = 4) ∨ (p < q ∧ TKN (P'.1 3) (s'.1 31) (s'.1 32)))
theorem c_let (n : Nat) (b : Int32) : f_X4_isLetter n b = some (bo (97 ≤ b ∧ b ≤ 122)) := by
  unfold f_X4_isLetter; rw [btw, cl_some, isz_bo, ck_t]
theorem c_dig (n : Nat) (b : Int32) : f_X4_isDigit n b = some (bo (48 ≤ b ∧ b ≤ 57)) := by
  unfold f_X4_isDigit; rw [btw, cl_some, isz_bo, ck_t]
theorem m_let (n : Nat) (b : Int32) : f_X8_isLetter n b = some (bo (97 ≤ b ∧ b ≤ 122)) := by
  unfold f_X8_isLetter; rw [m_in, cl_some, isz_bo, ck_t]
theorem m_dig (n : Nat) (b : Int32) : f_X8_isDigit n b = some (bo (48 ≤ b ∧ b ≤ 57)) := by
  unfold f_X8_isDigit; rw [m_in, cl_some, isz_bo, ck_t]
theorem let_sb {b : Int32} (hb : IR b 0 255) : ((97 : Int32) ≤ sb b ∧ sb b ≤ 122) = ((97 : Int32) ≤ b ∧ b ≤ 122) := sb_in hb (by decide) (by decide)
theorem dig_sb {b : Int32} (hb : IR b 0 255) : ((48 : Int32) ≤ sb b ∧ sb b ≤ 57) = ((48 : Int32) ≤ b ∧ b ≤ 57) := sb_in hb (by decide) (by decide)

def NXW (x y : MS) (Z p : Nat) (P' s' : MS) : Prop := P'.2 = x.2 ∧ s'.2 = y.2 ∧ (∀ k, k ≠ 2 → k ≠ 3 → P'.1 k = x.1 k) ∧ (∀ k, k ≠ 30 → k ≠ 31 → k ≠ 32 → s'.1 k = y.1 k) ∧ ∃ q, p < q ∧ q ≤ Z ∧ P'.1 2 = nI q ∧ s'.1 30 = nI q ∧ TKN (P'.1 3) (s'.1 31) (s'.1 32)
theorem nx_word (n : Nat) (hn : 170 ≤ n) (x y : MS) (Z p : Nat) (hT : TAPE x y Z) (h35 : y.2 35 = st0_X8.2 35) (h36 : y.2 36 = st0_X8.2 36) (hp : p < Z) (x2 : x.1 2 = nI p) (x4 : x.1 4 = nI p) (y29 : y.1 29 = nI p) (y30 : y.1 30 = nI p) (hb : (97 : Int32) ≤ x.2 0 p ∧ x.2 0 p ≤ 122) : ∃ P' s', NXW x y Z p P' s' ∧ lp (nW4 n) n x = some P' ∧ lp (nW8 n) n y = some s' := by
  obtain ⟨t1, t2, t3, t4⟩ := hT
  refine lp_two (F := nW4 n) (G := nW8 n) (fun x' y' => ∃ q, p ≤ q ∧ q ≤ Z ∧ x'.1 2 = nI q ∧ y'.1 30 = nI q ∧ x'.2 = x.2 ∧ y'.2 = y.2 ∧ (∀ k, k ≠ 2 → x'.1 k = x.1 k) ∧ (∀ k, k ≠ 30 → y'.1 k = y.1 k)) (fun x' => 161 - (x'.1 2).toNatClampNeg) (NXW x y Z p) ?_ n n x y ⟨p, Nat.le_refl _, by omega, x2, y30, rfl, rfl, fun _ _ => rfl, fun _ _ => rfl⟩ (by show 161 - _ < n; omega) (by show 161 - _ < n; omega)
  rintro x' y' ⟨q, pq, qZ, a1, a2, a3, a4, a5, a6⟩
  have b1 : x'.1 1 = nI Z := by rw [a5 1 (by decide), t1]
  have b2 : y'.1 20 = nI Z := by rw [a6 20 (by decide), t2]
  have stop : p < q → ∃ P' s', NXW x y Z p P' s' ∧ (∀ self, nW4 n self x' = (if nI Z ≤ nI q then some P' else ck (ib (nI q) 160) <| bn (x'.2 0 q) fun x35 => cl (f_X4_isLetter n x35) fun q36 => if q36 = 0 then some P' else self (sp x' 2 (nI q + 1)))) ∧ ∀ self, nW8 n self y' = (if nI Z ≤ nI q then some s' else ck (ib (nI q) 160) <| bn (y'.2 19 q) fun x35 => cl (f_X8_isLetter n x35) fun q36 => if q36 = 0 then some s' else self (sp y' 30 (nI q + 1))) := by
    intro hlt
    obtain ⟨k, k1, k2⟩ := c_word n hn x' p q (by rw [a5 4 (by decide), x4]) a1 pq (by omega)
    obtain ⟨j, j1, j2⟩ := m_word n hn y' (x'.2 0) Z p q (by rw [a4, h35]) (by rw [a4, h36]) (fun i hi => by rw [a3, a4]; exact t4 i hi) (by rw [a6 29 (by decide), y29]) a2 pq qZ t3
    have e := WD_one k1 j1
    subst e
    refine ⟨sp x' 3 (tkO k), sp (sp y' 32 (if k < 12 then mnO k else -1)) 31 (if k < 12 then 1 else 5), ⟨a3, a4, fun i h2 h3 => by rw [sp1, if_neg h3, a5 i h2], fun i h1 h2 h3 => by rw [sp1, if_neg h2, sp1, if_neg h3, a6 i h1], q, hlt, qZ, by rw [sp1, if_neg (by decide), a1], by rw [sp1, if_neg (by decide), sp1, if_neg (by decide), a2], ?_⟩, fun self => ?_, fun self => ?_⟩
    · rw [sp_eq, sp_eq, sp_ne _ _ _ _ (by decide), sp_eq]
      by_cases h : k < 12
      · rw [if_pos h, if_pos h]; exact Or.inr (Or.inr (Or.inl ⟨k, h, rfl, rfl, rfl⟩))
      · have : k = 12 := by have := k1.1; omega
        subst this
        exact Or.inr (Or.inl ⟨rfl, rfl⟩)
    · unfold nW4
      simp only [jn_def]
      rw [k2, cl_some, bn_def, b1, a1, nI_clamp (by omega)]
      rfl
    · unfold nW8
      simp only [jn_def]
      rw [j2, cl_some, bn_def, b2, a2, nI_clamp (by omega)]
      have e0 : (0 ≤ (sp y' 32 (if k < 12 then mnO k else -1)).1 32) = (k < 12) := by
        rw [sp1, if_pos rfl]
        by_cases h : k < 12
        · rw [if_pos h]; exact propext ⟨fun _ => h, fun _ => (wfacts k h).2.2.2.2.2.2.2.2.2⟩
        · rw [if_neg h]; exact propext ⟨fun q => absurd q (by decide), fun q => absurd q h⟩
      simp only [e0]
      by_cases h : k < 12
      · simp only [if_pos h]; rfl
      · simp only [if_neg h]; rfl
  by_cases hq : q < Z
  · have c1 : ¬ nI Z ≤ nI q := nI_ge hq (by omega)
    obtain ⟨d1, d2⟩ := t4 q hq
    have d3 : y'.2 19 q = sb (x'.2 0 q) := by rw [a3, a4, d2]
    have d4 : IR (x'.2 0 q) 0 255 := by rw [a3]; exact d1
    have d5 : ib (nI q) 160 = true := ib_j (by omega) (by omega)
    by_cases hl : (97 : Int32) ≤ x'.2 0 q ∧ x'.2 0 q ≤ 122
    · refine Or.inl ⟨sp x' 2 (nI (q + 1)), sp y' 30 (nI (q + 1)), ⟨q + 1, by omega, by omega, by rw [sp1, if_pos rfl], by rw [sp1, if_pos rfl], a3, a4, fun k hk => by rw [sp1, if_neg hk, a5 k hk], fun k hk => by rw [sp1, if_neg hk, a6 k hk]⟩, ?_, fun self => ?_, fun self => ?_⟩
      · show 161 - ((sp x' 2 (nI (q + 1))).1 2).toNatClampNeg < 161 - (x'.1 2).toNatClampNeg
        rw [sp1, if_pos rfl, a1, nI_clamp (by omega), nI_clamp (by omega)]
        omega
      · unfold nW4
        simp only [jn_def]
        rw [b1, a1, if_neg c1, nI_clamp (by omega), d5, ck_t, bn_def, c_let, cl_some]
        simp only [bo_0]
        rw [ite_not_t hl, bn_def, nI_succ]
      · unfold nW8
        simp only [jn_def]
        rw [b2, a2, if_neg c1, nI_clamp (by omega), d5, ck_t, bn_def, m_let, cl_some]
        simp only [bo_0, d3, let_sb d4]
        rw [ite_not_t hl, bn_def, nI_succ]
    · have hlt : p < q := by
        rcases Nat.lt_or_ge p q with h | h
        · exact h
        · have : p = q := by omega
          subst this
          rw [a3] at hl
          exact absurd hb hl
      obtain ⟨P', s', r1, r2, r3⟩ := stop hlt
      refine Or.inr ⟨P', s', r1, fun self => ?_, fun self => ?_⟩
      · rw [r2, if_neg c1, d5, ck_t, bn_def, c_let, cl_some]
        simp only [bo_0]
        rw [ite_not_f hl]
      · rw [r3, if_neg c1, d5, ck_t, bn_def, m_let, cl_some]
        simp only [bo_0, d3, let_sb d4]
        rw [ite_not_f hl]
  · have e : q = Z := by omega
    obtain ⟨P', s', r1, r2, r3⟩ := stop (by omega)
    exact Or.inr ⟨P', s', r1, fun self => by rw [r2, if_pos (by rw [e]; exact Int32.le_refl _)], fun self => by rw [r3, if_pos (by rw [e]; exact Int32.le_refl _)]⟩
theorem numV_cut (B : Nat → Int32) (p d : Nat) (h : d ≤ 4) : numV B p (min d 4) = numV B p d := by rw [Nat.min_eq_left h]
theorem nx_dig (n : Nat) (hn : 170 ≤ n) (x y : MS) (Z p : Nat) (hT : TAPE x y Z) (hp : p < Z) (x2 : x.1 2 = nI p) (x4 : x.1 4 = nI p) (y29 : y.1 29 = nI p) (y30 : y.1 30 = nI p) (y32 : y.1 32 = 0) (hb : (48 : Int32) ≤ x.2 0 p ∧ x.2 0 p ≤ 57) : ∃ P' s', NXW x y Z p P' s' ∧ lp (nD4 n) n x = some P' ∧ lp (nD8 n) n y = some s' := by
  obtain ⟨t1, t2, t3, t4⟩ := hT
  have z48 : (48 : Int32).toInt = 48 := by decide
  have z57 : (57 : Int32).toInt = 57 := by decide
  have z4 : (4 : Int32).toInt = 4 := by decide
  refine lp_two (F := nD4 n) (G := nD8 n) (fun x' y' => ∃ q, p ≤ q ∧ q ≤ Z ∧ x'.1 2 = nI q ∧ y'.1 30 = nI q ∧ x'.2 = x.2 ∧ y'.2 = y.2 ∧ (∀ k, k ≠ 2 → x'.1 k = x.1 k) ∧ (∀ k, k ≠ 30 → k ≠ 32 → y'.1 k = y.1 k) ∧ (∀ i, p ≤ i → i < q → IR (x.2 0 i) 48 57) ∧ y'.1 32 = numV (x.2 0) p (min (q - p) 4)) (fun x' => 161 - (x'.1 2).toNatClampNeg) (NXW x y Z p) ?_ n n x y ⟨p, Nat.le_refl _, by omega, x2, y30, rfl, rfl, fun _ _ => rfl, fun _ _ _ => rfl, fun i h1 h2 => by omega, by rw [y32, Nat.sub_self]; rfl⟩ (by show 161 - _ < n; omega) (by show 161 - _ < n; omega)
  rintro x' y' ⟨q, pq, qZ, a1, a2, a3, a4, a5, a6, a7, a8⟩
  have b1 : x'.1 1 = nI Z := by rw [a5 1 (by decide), t1]
  have b2 : y'.1 20 = nI Z := by rw [a6 20 (by decide) (by decide), t2]
  have b29 : y'.1 29 = nI p := by rw [a6 29 (by decide) (by decide), y29]
  have hs : (nI q - nI p) = nI (q - p) := by
    apply nI_eqI
    rw [sub_i _ _ (by rw [nI_toInt (by omega), nI_toInt (by omega)]; omega), nI_toInt (by omega), nI_toInt (by omega)]
    omega
  have e4 : (nI (q - p) ≤ (4 : Int32)) = (q - p ≤ 4) := by
    rw [le_i, nI_toInt (by omega), z4]
    exact propext ⟨fun h => by omega, fun h => by omega⟩
  have e4' : ((4 : Int32) ≤ nI (q - p)) = (4 ≤ q - p) := by
    rw [le_i, nI_toInt (by omega), z4]
    exact propext ⟨fun h => by omega, fun h => by omega⟩
  have stop : p < q → ∃ P' s', NXW x y Z p P' s' ∧ (∀ self, nD4 n self x' = (if nI Z ≤ nI q then some P' else ck (ib (nI q) 160) <| bn (x'.2 0 q) fun x35 => cl (f_X4_isDigit n x35) fun q36 => if q36 = 0 then some P' else self (sp x' 2 (nI q + 1)))) ∧ ∀ self, nD8 n self y' = (if nI Z ≤ nI q then some s' else ck (ib (nI q) 160) <| bn (y'.2 19 q) fun x35 => cl (f_X8_isDigit n x35) fun q36 => if q36 = 0 then some s' else (if 4 ≤ nI q - nI p then self (sp y' 30 (nI q + 1)) else ck (ib (nI q) 160) <| bn (y'.2 19 q) fun x45 => self (sp (sp y' 32 (((10 * (y'.1 32)) + x45) - 48)) 30 (nI q + 1)))) := by
    intro hlt
    have k2 := c_num n hn x' p q (by rw [a5 4 (by decide), x4]) a1 pq (by omega)
    refine ⟨sp x' 3 (if q - p ≤ 4 then 1000 + numV (x'.2 0) p (q - p) else 0), sp y' 31 (if q - p ≤ 4 then 2 else 5), ⟨a3, a4, fun i h2 h3 => by rw [sp1, if_neg h3, a5 i h2], fun i h1 h2 h3 => by rw [sp1, if_neg h2, a6 i h1 h3], q, hlt, qZ, by rw [sp1, if_neg (by decide), a1], by rw [sp1, if_neg (by decide), a2], ?_⟩, fun self => ?_, fun self => ?_⟩
    · rw [sp_eq, sp_eq, sp_ne _ _ _ _ (by decide), a8, a3]
      by_cases h : q - p ≤ 4
      · rw [if_pos h, if_pos h, numV_cut _ _ _ h]
        have hbd := numV_bd (x.2 0) p (q - p) h (fun i hi => a7 (p + i) (by omega) (by omega))
        refine Or.inr (Or.inr (Or.inr ⟨rfl, rfl, hbd.1, ?_⟩))
        have hp4 : (10 ^ (q - p) : Nat) ≤ 10000 := by
          have : q - p = 0 ∨ q - p = 1 ∨ q - p = 2 ∨ q - p = 3 ∨ q - p = 4 := by omega
          rcases this with e | e | e | e | e <;> rw [e] <;> decide
        have := hbd.2
        omega
      · rw [if_neg h, if_neg h]; exact Or.inr (Or.inl ⟨rfl, rfl⟩)
    · unfold nD4
      simp only [jn_def]
      rw [k2, cl_some, bn_def, b1, a1, nI_clamp (by omega)]
      rfl
    · unfold nD8
      simp only [jn_def]
      rw [b2, a2, b29, nI_clamp (by omega), hs]
      simp only [e4]
      by_cases h : q - p ≤ 4
      · simp only [if_pos h, bn_def, sp1]
        simp only [if_neg (show ¬ (30 = 32) by decide), a2]
      · simp only [if_neg h, bn_def, sp1]
        simp only [if_neg (show ¬ (30 = 32) by decide), a2]
  by_cases hq : q < Z
  · have c1 : ¬ nI Z ≤ nI q := nI_ge hq (by omega)
    obtain ⟨d1, d2⟩ := t4 q hq
    have d3 : y'.2 19 q = sb (x'.2 0 q) := by rw [a3, a4, d2]
    have d4 : IR (x'.2 0 q) 0 255 := by rw [a3]; exact d1
    have d5 : ib (nI q) 160 = true := ib_j (by omega) (by omega)
    by_cases hl : (48 : Int32) ≤ x'.2 0 q ∧ x'.2 0 q ≤ 57
    · have hl' := hl
      rw [le_i, le_i, z48, z57] at hl'
      have d6 : sb (x'.2 0 q) = x'.2 0 q := sb_small (by omega)
      have dig : ∀ i, p ≤ i → i < q + 1 → IR (x.2 0 i) 48 57 := fun i h1 h2 => by
        by_cases e : i = q
        · rw [e, ← a3]; exact hl'
        · exact a7 i h1 (by omega)
      refine Or.inl ⟨sp x' 2 (nI (q + 1)), sp (if 4 ≤ q - p then y' else sp y' 32 (((10 * (y'.1 32)) + x'.2 0 q) - 48)) 30 (nI (q + 1)), ⟨q + 1, by omega, by omega, by rw [sp1, if_pos rfl], by rw [sp1, if_pos rfl], a3, ?_, fun k hk => by rw [sp1, if_neg hk, a5 k hk], fun k h1 h2 => ?_, dig, ?_⟩, ?_, fun self => ?_, fun self => ?_⟩
      · split
        · exact a4
        · exact a4
      · rw [sp1, if_neg h1]
        split
        · exact a6 k h1 h2
        · rw [sp1, if_neg h2]; exact a6 k h1 h2
      · rw [sp1, if_neg (by decide)]
        by_cases h : 4 ≤ q - p
        · rw [if_pos h, a8, Nat.min_eq_right (by omega), Nat.min_eq_right (by omega)]
        · rw [if_neg h, sp1, if_pos rfl, a8, Nat.min_eq_left (by omega), Nat.min_eq_left (by omega), show q + 1 - p = (q - p) + 1 by omega, a3]
          show _ = ((10 * numV (x.2 0) p (q - p)) + x.2 0 (p + (q - p))) - 48
          rw [show p + (q - p) = q by omega]
      · show 161 - ((sp x' 2 (nI (q + 1))).1 2).toNatClampNeg < 161 - (x'.1 2).toNatClampNeg
        rw [sp1, if_pos rfl, a1, nI_clamp (by omega), nI_clamp (by omega)]
        omega
      · unfold nD4
        simp only [jn_def]
        rw [b1, a1, if_neg c1, nI_clamp (by omega), d5, ck_t, bn_def, c_dig, cl_some]
        simp only [bo_0]
        rw [ite_not_t hl, bn_def, nI_succ]
      · unfold nD8
        simp only [jn_def]
        rw [b2, a2, if_neg c1, nI_clamp (by omega), d5, ck_t, bn_def, m_dig, cl_some]
        simp only [bo_0, d3, dig_sb d4]
        rw [ite_not_t hl, b29, hs]
        simp only [e4', d6, ck_t, bn_def, a2]
        by_cases h : 4 ≤ q - p
        · simp only [if_pos h]
          rw [nI_succ]
        · simp only [if_neg h]
          rw [sp_ne _ _ _ _ (by decide), a2, nI_succ]
    · have hlt : p < q := by
        rcases Nat.lt_or_ge p q with h | h
        · exact h
        · have : p = q := by omega
          subst this
          rw [a3] at hl
          exact absurd hb hl
      obtain ⟨P', s', r1, r2, r3⟩ := stop hlt
      refine Or.inr ⟨P', s', r1, fun self => ?_, fun self => ?_⟩
      · rw [r2, if_neg c1, d5, ck_t, bn_def, c_dig, cl_some]
        simp only [bo_0]
        rw [ite_not_f hl]
      · rw [r3, if_neg c1, d5, ck_t, bn_def, m_dig, cl_some]
        simp only [bo_0, d3, dig_sb d4]
        rw [ite_not_f hl]
  · have e : q = Z := by omega
    obtain ⟨P', s', r1, r2, r3⟩ := stop (by omega)
    exact Or.inr ⟨P', s', r1, fun self => by rw [r2, if_pos (by rw [e]; exact Int32.le_refl _)], fun self => by rw [r3, if_pos (by rw [e]; exact Int32.le_refl _)]⟩
def nx4b (n : Nat) (z5 : MS) : Option MS :=
  if (z5.1 2) < (z5.1 1) then (
    ck (ib (z5.1 2) 160) <| bn (z5.2 0 (Int32.toNatClampNeg (z5.1 2))) fun x7 =>
    cl (f_X4_isLetter n x7) fun q8 =>
    if q8 = 0 then (
      ck (ib (z5.1 2) 160) <| bn (z5.2 0 (Int32.toNatClampNeg (z5.1 2))) fun x10 =>
      cl (f_X4_isDigit n x10) fun q11 =>
      if q11 = 0 then (
        ck (ib (z5.1 2) 160) <| bn (z5.2 0 (Int32.toNatClampNeg (z5.1 2))) fun x13 =>
        cl (f_X4_signToken n x13) fun q14 =>
        bn (sp z5 3 q14) fun z15 =>
        bn (sp z15 2 ((z15.1 2) + 1)) fun z16 =>
        some z16)
      else (lp (nD4 n) n z5))
    else (lp (nW4 n) n z5))
  else (
    bn (sp z5 3 1) fun z39 =>
    some z39)
theorem nx4_eq (n : Nat) (x : MS) : nx4 n x = nx4b n (sp x 4 (x.1 2)) := rfl
def nx8b (n : Nat) (z6 : MS) : Option MS :=
  if (z6.1 29) < (z6.1 20) then (
    ck (ib (z6.1 29) 160) <| bn (z6.2 19 (Int32.toNatClampNeg (z6.1 29))) fun x8 =>
    cl (f_X8_isLetter n x8) fun q9 =>
    if q9 = 0 then (
      cl (f_X8_isDigit n x8) fun q11 =>
      if q11 = 0 then (
        if x8 = 40 then some (sp (sp (sp z6 30 ((z6.1 30) + 1)) 32 x8) 31 3) else if x8 = 41 then some (sp (sp (sp z6 30 ((z6.1 30) + 1)) 32 x8) 31 3) else if x8 = 59 then some (sp (sp (sp z6 30 ((z6.1 30) + 1)) 32 x8) 31 3) else if x8 = 43 then some (sp (sp (sp z6 30 ((z6.1 30) + 1)) 32 x8) 31 3) else if x8 = 45 then some (sp (sp (sp z6 30 ((z6.1 30) + 1)) 32 x8) 31 3) else if x8 = 42 then some (sp (sp (sp z6 30 ((z6.1 30) + 1)) 32 x8) 31 3) else if x8 = 60 then some (sp (sp (sp z6 30 ((z6.1 30) + 1)) 32 x8) 31 3) else if x8 = 61 then some (sp (sp (sp z6 30 ((z6.1 30) + 1)) 32 x8) 31 3) else some (sp (sp (sp z6 30 ((z6.1 30) + 1)) 32 x8) 31 5))
      else (lp (nD8 n) n (sp z6 32 0)))
    else (lp (nW8 n) n z6))
  else (
    bn (sp z6 29 (z6.1 20)) fun z62 =>
    bn (sp z62 31 4) fun z63 =>
    some z63)
theorem nx8_eq (n : Nat) (y : MS) : nx8 n y = nx8b n (sp y 30 (y.1 29)) := rfl
/-- behind the blanks -/
theorem nx_both (n : Nat) (hn : 170 ≤ n) (x y : MS) (Z p : Nat) (hT : TAPE x y Z) (h35 : y.2 35 = st0_X8.2 35) (h36 : y.2 36 = st0_X8.2 36) (hp : p ≤ Z) (x2 : x.1 2 = nI p) (y29 : y.1 29 = nI p) : ∃ P' s', nx4 n x = some P' ∧ nx8 n y = some s' ∧ NXT x y Z p P' s' := by
  have hT0 := hT
  obtain ⟨t1, t2, t3, t4⟩ := hT
  have e1 : (sp x 4 (x.1 2)).1 2 = nI p := by rw [sp1, if_neg (by decide), x2]
  have e2 : (sp x 4 (x.1 2)).1 1 = nI Z := by rw [sp1, if_neg (by decide), t1]
  have e3 : (sp y 30 (y.1 29)).1 29 = nI p := by rw [sp1, if_neg (by decide), y29]
  have e4 : (sp y 30 (y.1 29)).1 20 = nI Z := by rw [sp1, if_neg (by decide), t2]
  have e5 : (sp y 30 (y.1 29)).1 30 = nI p := by rw [sp1, if_pos rfl, y29]
  have e6 : (sp x 4 (x.1 2)).1 4 = nI p := by rw [sp1, if_pos rfl, x2]
  by_cases h : p < Z
  case neg =>
    have hz : p = Z := by omega
    have nlt : ¬ nI p < nI Z := by rw [lt_i, nI_toInt (by omega), nI_toInt (by omega)]; omega
    refine ⟨sp (sp x 4 (x.1 2)) 3 1, sp (sp (sp y 30 (y.1 29)) 29 (nI Z)) 31 4, ?_, ?_, rfl, rfl, fun k h2 h3 h4 => by rw [sp1, if_neg h3, sp1, if_neg h4], fun k h1 h2 h3 h4 => by rw [sp1, if_neg h3, sp1, if_neg h1, sp1, if_neg h2], p, p, Nat.le_refl _, Nat.le_refl _, hp, by rw [sp1, if_neg (by decide), e6], by rw [sp1, if_neg (by decide), sp1, if_pos rfl, hz], by rw [sp1, if_neg (by decide), e1], by rw [sp1, if_neg (by decide), sp1, if_neg (by decide), e5], Or.inl ⟨hz, by rw [sp1, if_pos rfl], by rw [sp1, if_pos rfl]⟩⟩
    · rw [nx4_eq]; unfold nx4b
      rw [e1, e2, if_neg nlt, bn_def]
    · rw [nx8_eq]; unfold nx8b
      rw [e3, e4, if_neg nlt, bn_def, bn_def]
  have hlt : nI p < nI Z := by rw [lt_i, nI_toInt (by omega), nI_toInt (by omega)]; omega
  obtain ⟨d1, d2⟩ := t4 p h
  have d5 : ib (nI p) 160 = true := ib_j (by omega) (by omega)
  have d6 : (nI p).toNatClampNeg = p := nI_clamp (by omega)
  have hT4 : TAPE (sp x 4 (x.1 2)) (sp y 30 (y.1 29)) Z := ⟨e2, e4, t3, t4⟩
  have ux : nx4 n x = (if ¬ ((97 : Int32) ≤ x.2 0 p ∧ x.2 0 p ≤ 122) then (if ¬ ((48 : Int32) ≤ x.2 0 p ∧ x.2 0 p ≤ 57) then some (sp (sp (sp x 4 (x.1 2)) 3 (if SG (x.2 0 p) then x.2 0 p else 0)) 2 (nI p + 1)) else lp (nD4 n) n (sp x 4 (x.1 2))) else lp (nW4 n) n (sp x 4 (x.1 2))) := by
    rw [nx4_eq]; unfold nx4b
    simp only [bn_def]
    rw [e1, e2, if_pos hlt, d5, ck_t, d6]
    simp only [sp2, ck_t, c_let, c_dig, c_sign, cl_some, bo_0]
    rw [show (sp (sp x 4 (x.1 2)) 3 (if SG (x.2 0 p) then x.2 0 p else 0)).1 2 = nI p by rw [sp_ne _ _ _ _ (by decide), e1]]
  have uy : nx8 n y = (if ¬ ((97 : Int32) ≤ x.2 0 p ∧ x.2 0 p ≤ 122) then (if ¬ ((48 : Int32) ≤ x.2 0 p ∧ x.2 0 p ≤ 57) then some (sp (sp (sp (sp y 30 (y.1 29)) 30 (nI p + 1)) 32 (sb (x.2 0 p))) 31 (if SG (sb (x.2 0 p)) then 3 else 5)) else lp (nD8 n) n (sp (sp y 30 (y.1 29)) 32 0)) else lp (nW8 n) n (sp y 30 (y.1 29))) := by
    rw [nx8_eq]; unfold nx8b
    simp only [bn_def]
    rw [e3, e4, if_pos hlt, d5, ck_t, d6]
    simp only [sp2, ck_t, m_let, m_dig, cl_some, bo_0, d2, let_sb d1, dig_sb d1, m_sign]
    rw [e5]
    by_cases q3 : SG (sb (x.2 0 p))
    · rw [if_pos q3, if_pos q3]
    · rw [if_neg q3, if_neg q3]
  have wrap : ∀ (x0 y0 P' s' : MS), x0.2 = x.2 → y0.2 = y.2 → (∀ k, k ≠ 4 → x0.1 k = x.1 k) → (∀ k, k ≠ 30 → k ≠ 32 → y0.1 k = y.1 k) → x0.1 4 = nI p → y0.1 29 = nI p → NXW x0 y0 Z p P' s' → NXT x y Z p P' s' := by
    rintro x0 y0 P' s' a1 a2 a3 a4 a5 a6 ⟨b1, b2, b3, b4, q, b5, b6, b7, b8, b9⟩
    exact ⟨b1.trans a1, b2.trans a2, fun k h2 h3 h4 => (b3 k h2 h3).trans (a3 k h4), fun k h1 h2 h3 h4 => (b4 k h2 h3 h4).trans (a4 k h2 h4), p, q, Nat.le_refl _, by omega, b6, (b3 4 (by decide) (by decide)).trans a5, (b4 29 (by decide) (by decide) (by decide)).trans a6, b7, b8, Or.inr ⟨b5, b9⟩⟩
  by_cases q1 : ((97 : Int32) ≤ x.2 0 p ∧ x.2 0 p ≤ 122)
  · obtain ⟨P', s', r1, r2, r3⟩ := nx_word n hn (sp x 4 (x.1 2)) (sp y 30 (y.1 29)) Z p hT4 h35 h36 h e1 e6 e3 e5 q1
    exact ⟨P', s', by rw [ux, ite_not_t q1, r2], by rw [uy, ite_not_t q1, r3], wrap (sp x 4 (x.1 2)) (sp y 30 (y.1 29)) _ _ rfl rfl (fun k hk => by rw [sp1, if_neg hk]) (fun k h1 h2 => by rw [sp1, if_neg h1]) e6 e3 r1⟩
  by_cases q2 : ((48 : Int32) ≤ x.2 0 p ∧ x.2 0 p ≤ 57)
  · obtain ⟨P', s', r1, r2, r3⟩ := nx_dig n hn (sp x 4 (x.1 2)) (sp (sp y 30 (y.1 29)) 32 0) Z p ⟨e2, by rw [sp1, if_neg (by decide), e4], t3, t4⟩ h e1 e6 (by rw [sp1, if_neg (by decide), e3]) (by rw [sp1, if_neg (by decide), e5]) (by rw [sp1, if_pos rfl]) q2
    exact ⟨P', s', by rw [ux, ite_not_f q1, ite_not_t q2, r2], by rw [uy, ite_not_f q1, ite_not_t q2, r3], wrap (sp x 4 (x.1 2)) (sp (sp y 30 (y.1 29)) 32 0) _ _ rfl rfl (fun k hk => by rw [sp1, if_neg hk]) (fun k h1 h2 => by rw [sp1, if_neg h2, sp1, if_neg h1]) e6 (by rw [sp1, if_neg (by decide), e3]) r1⟩
  refine ⟨sp (sp (sp x 4 (x.1 2)) 3 (if SG (x.2 0 p) then x.2 0 p else 0)) 2 (nI p + 1), sp (sp (sp (sp y 30 (y.1 29)) 30 (nI p + 1)) 32 (sb (x.2 0 p))) 31 (if SG (sb (x.2 0 p)) then 3 else 5), by rw [ux, ite_not_f q1, ite_not_f q2], by rw [uy, ite_not_f q1, ite_not_f q2], rfl, rfl, fun k h2 h3 h4 => by rw [sp1, if_neg h2, sp1, if_neg h3, sp1, if_neg h4], fun k h1 h2 h3 h4 => by rw [sp1, if_neg h3, sp1, if_neg h4, sp1, if_neg h2, sp1, if_neg h2], p, p + 1, Nat.le_refl _, by omega, by omega, by rw [sp1, if_neg (by decide), sp1, if_neg (by decide), e6], by rw [sp1, if_neg (by decide), sp1, if_neg (by decide), sp1, if_neg (by decide), e3], by rw [sp1, if_pos rfl, nI_succ], by rw [sp1, if_neg (by decide), sp1, if_neg (by decide), sp1, if_pos rfl, nI_succ], Or.inr ⟨by omega, ?_⟩⟩
  rw [sp_ne _ _ _ _ (by decide), sp_eq, sp_eq, sp_ne _ _ _ _ (by decide), sp_eq]
  have hsg : SG (sb (x.2 0 p)) = SG (x.2 0 p) := by
    unfold SG
    rw [sb_eq d1 (by decide) (by decide), sb_eq d1 (by decide) (by decide), sb_eq d1 (by decide) (by decide), sb_eq d1 (by decide) (by decide), sb_eq d1 (by decide) (by decide), sb_eq d1 (by decide) (by decide), sb_eq d1 (by decide) (by decide), sb_eq d1 (by decide) (by decide)]
  by_cases q3 : SG (x.2 0 p)
  · rw [if_pos q3, if_pos (by rw [hsg]; exact q3)]
    refine Or.inl ⟨?_, rfl, q3⟩
    have : (x.2 0 p).toInt < 128 := by
      rcases q3 with e | e | e | e | e | e | e | e <;> rw [e] <;> decide
    exact (sb_small this).symm
  · rw [if_neg q3, if_neg (by rw [hsg]; exact q3)]
    exact Or.inr (Or.inl ⟨rfl, rfl⟩)
/-- both go on to the next token -/
theorem next_both (n : Nat) (hn : 170 ≤ n) (P s : MS) (Z p : Nat) (hT : TAPE P s Z) (h35 : s.2 35 = st0_X8.2 35) (h36 : s.2 36 = st0_X8.2 36) (hp : p ≤ Z) (x2 : P.1 2 = nI p) (y30 : s.1 30 = nI p) : ∃ P' s', f_X4_next n P = some P' ∧ f_X8_next n s = some s' ∧ NXT P s Z p P' s' := by
  obtain ⟨t1, t2, t3, t4⟩ := hT
  have h1 : f_X4_next n P = lp (nF4 n) n P := rfl
  have h2 : f_X8_next n s = lp (nF8 n) n (sp s 29 (s.1 30)) := rfl
  rw [h1, h2]
  suffices H : ∃ P' s', NXT P s Z p P' s' ∧ lp (nF4 n) n P = some P' ∧ lp (nF8 n) n (sp s 29 (s.1 30)) = some s' by
    obtain ⟨P', s', a, b, c⟩ := H
    exact ⟨P', s', b, c, a⟩
  refine lp_two (F := nF4 n) (G := nF8 n) (fun x y => ∃ q, p ≤ q ∧ q ≤ Z ∧ x.1 2 = nI q ∧ y.1 29 = nI q ∧ x.2 = P.2 ∧ y.2 = s.2 ∧ (∀ k, k ≠ 2 → x.1 k = P.1 k) ∧ (∀ k, k ≠ 29 → y.1 k = s.1 k)) (fun x => 161 - (x.1 2).toNatClampNeg) (NXT P s Z p) ?_ n n P (sp s 29 (s.1 30)) ⟨p, Nat.le_refl _, hp, x2, by rw [sp1, if_pos rfl, y30], rfl, rfl, fun _ _ => rfl, fun k hk => by rw [sp1, if_neg hk]⟩ (by show 161 - _ < n; omega) (by show 161 - _ < n; omega)
  rintro x y ⟨q, pq, qZ, a1, a2, a3, a4, a5, a6⟩
  have b1 : x.1 1 = nI Z := by rw [a5 1 (by decide), t1]
  have b2 : y.1 20 = nI Z := by rw [a6 20 (by decide), t2]
  have hT' : TAPE x y Z := ⟨b1, b2, t3, fun i hi => by rw [a3, a4]; exact t4 i hi⟩
  obtain ⟨P', s', r1, r2, r3⟩ := nx_both n hn x y Z q hT' (by rw [a4, h35]) (by rw [a4, h36]) qZ a1 a2
  have r4 : NXT P s Z p P' s' := by
    obtain ⟨u1, u2, u3, u4, p', q', u5, u6, u7, u8, u9, u10, u11, u12⟩ := r3
    exact ⟨u1.trans a3, u2.trans a4, fun k h2 h3 h4 => (u3 k h2 h3 h4).trans (a5 k h2), fun k g1 g2 g3 g4 => (u4 k g1 g2 g3 g4).trans (a6 k g1), p', q', by omega, u6, u7, u8, u9, u10, u11, u12⟩
  have ux : ∀ self, nF4 n self x = (if nI Z ≤ nI q then some P' else ck (ib (nI q) 160) (if x.2 0 q = 32 then self (sp x 2 (nI q + 1)) else (if x.2 0 q = 10 then self (sp x 2 (nI q + 1)) else some P'))) := by
    intro self
    have : nF4 n self x = (if x.1 1 ≤ x.1 2 then nx4 n x else ck (ib (x.1 2) 160) (if x.2 0 (x.1 2).toNatClampNeg = 32 then self (sp x 2 (x.1 2 + 1)) else ck (ib (x.1 2) 160) (if x.2 0 (x.1 2).toNatClampNeg = 10 then self (sp x 2 (x.1 2 + 1)) else nx4 n x))) := rfl
    rw [this, b1, a1, r1, nI_clamp (by omega)]
    cases hi : ib (nI q) 160 with
    | true => simp only [ck_t]
    | false => rfl
  have uy : ∀ self, nF8 n self y = (if nI Z ≤ nI q then some s' else ck (ib (nI q) 160) (if y.2 19 q = 32 then self (sp y 29 (nI q + 1)) else (if y.2 19 q = 10 then self (sp y 29 (nI q + 1)) else some s'))) := by
    intro self
    have : nF8 n self y = (if y.1 20 ≤ y.1 29 then nx8 n y else ck (ib (y.1 29) 160) (if y.2 19 (y.1 29).toNatClampNeg = 32 then self (sp y 29 (y.1 29 + 1)) else ck (ib (y.1 29) 160) (if y.2 19 (y.1 29).toNatClampNeg = 10 then self (sp y 29 (y.1 29 + 1)) else nx8 n y))) := rfl
    rw [this, b2, a2, r2, nI_clamp (by omega)]
    cases hi : ib (nI q) 160 with
    | true => simp only [ck_t]
    | false => rfl
  by_cases hq : q < Z
  case neg =>
    have e : nI Z ≤ nI q := by rw [le_i, nI_toInt (by omega), nI_toInt (by omega)]; omega
    exact Or.inr ⟨P', s', r4, fun self => by rw [ux, if_pos e], fun self => by rw [uy, if_pos e]⟩
  have c1 : ¬ nI Z ≤ nI q := nI_ge hq (by omega)
  have d5 : ib (nI q) 160 = true := ib_j (by omega) (by omega)
  obtain ⟨d1, d2⟩ := hT'.2.2.2 q hq
  have s32 : (y.2 19 q = 32) = (x.2 0 q = 32) := by rw [d2, sb_eq d1 (by decide) (by decide)]
  have s10 : (y.2 19 q = 10) = (x.2 0 q = 10) := by rw [d2, sb_eq d1 (by decide) (by decide)]
  have nxt : (∃ x' y', (∃ q, p ≤ q ∧ q ≤ Z ∧ x'.1 2 = nI q ∧ y'.1 29 = nI q ∧ x'.2 = P.2 ∧ y'.2 = s.2 ∧ (∀ k, k ≠ 2 → x'.1 k = P.1 k) ∧ (∀ k, k ≠ 29 → y'.1 k = s.1 k)) ∧ 161 - (x'.1 2).toNatClampNeg < 161 - (x.1 2).toNatClampNeg ∧ x' = sp x 2 (nI q + 1) ∧ y' = sp y 29 (nI q + 1)) := by
    refine ⟨sp x 2 (nI q + 1), sp y 29 (nI q + 1), ⟨q + 1, by omega, by omega, by rw [sp1, if_pos rfl, nI_succ], by rw [sp1, if_pos rfl, nI_succ], a3, a4, fun k hk => by rw [sp1, if_neg hk, a5 k hk], fun k hk => by rw [sp1, if_neg hk, a6 k hk]⟩, ?_, rfl, rfl⟩
    rw [sp1, if_pos rfl, a1, ← nI_succ, nI_clamp (by omega), nI_clamp (by omega)]
    omega
  obtain ⟨x', y', n1, n2, rfl, rfl⟩ := nxt
  by_cases h32 : x.2 0 q = 32
  · exact Or.inl ⟨_, _, n1, n2, fun self => by rw [ux, if_neg c1, d5, ck_t, if_pos h32], fun self => by rw [uy, if_neg c1, d5, ck_t, if_pos (by rw [s32]; exact h32)]⟩
  by_cases h10 : x.2 0 q = 10
  · exact Or.inl ⟨_, _, n1, n2, fun self => by rw [ux, if_neg c1, d5, ck_t, if_neg h32, if_pos h10], fun self => by rw [uy, if_neg c1, d5, ck_t, if_neg (by rw [s32]; exact h32), if_pos (by rw [s10]; exact h10)]⟩
  exact Or.inr ⟨P', s', r4, fun self => by rw [ux, if_neg c1, d5, ck_t, if_neg h32, if_neg h10], fun self => by rw [uy, if_neg c1, d5, ck_t, if_neg (by rw [s32]; exact h32), if_neg (by rw [s10]; exact h10)]⟩
