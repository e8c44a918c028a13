-- THE LAW: one turn of it
def lwA0 (n : Nat) (L : Nat) (xs : Nat → Int32) (t1 : Int32 × Nat × CS × MS × Nat) (K6 : (Nat × CS × MS × Nat) → Option Unit) : Option Unit :=
  ck (ib (t1.1 + 1) L) <| bn (xs (Int32.toNatClampNeg (t1.1 + 1))) fun x8 =>
  ck (ib (t1.1 + 2) L) <| bn (xs (Int32.toNatClampNeg (t1.1 + 2))) fun x9 =>
  cl (f_X7_people n t1.2.1 x8 x9 t1.2.2.1) fun q10 =>
  ck (ib (t1.1 + 1) L) <| bn (xs (Int32.toNatClampNeg (t1.1 + 1))) fun x11 =>
  ck (ib (t1.1 + 2) L) <| bn (xs (Int32.toNatClampNeg (t1.1 + 2))) fun x12 =>
  cl (f_X8_people n x11 x12 t1.2.2.2.1) fun q13 =>
  if q10.1 = q13.1 then (
    K6 (t1.2.1, q10.2, q13.2, (t1.2.2.2.2 + 1)))
  else (
    none)
def lwA1 (n : Nat) (L : Nat) (xs : Nat → Int32) (t1 : Int32 × Nat × CS × MS × Nat) (K6 : (Nat × CS × MS × Nat) → Option Unit) : Option Unit :=
  ck (ib (t1.1 + 1) L) <| bn (xs (Int32.toNatClampNeg (t1.1 + 1))) fun x15 =>
  ck (ib (t1.1 + 2) L) <| bn (xs (Int32.toNatClampNeg (t1.1 + 2))) fun x16 =>
  ck (ib (t1.1 + 3) L) <| bn (xs (Int32.toNatClampNeg (t1.1 + 3))) fun x17 =>
  cl (f_X7_car n t1.2.1 x15 x16 x17 t1.2.2.1) fun q18 =>
  ck (ib (t1.1 + 1) L) <| bn (xs (Int32.toNatClampNeg (t1.1 + 1))) fun x19 =>
  ck (ib (t1.1 + 2) L) <| bn (xs (Int32.toNatClampNeg (t1.1 + 2))) fun x20 =>
  ck (ib (t1.1 + 3) L) <| bn (xs (Int32.toNatClampNeg (t1.1 + 3))) fun x21 =>
  cl (f_X8_car n x19 x20 x21 t1.2.2.2.1) fun q22 =>
  if q18.1 = q22.1 then (
    K6 (t1.2.1, q18.2, q22.2, (t1.2.2.2.2 + 1)))
  else (
    none)
def lwA2 (n : Nat) (L : Nat) (xs : Nat → Int32) (t1 : Int32 × Nat × CS × MS × Nat) (K6 : (Nat × CS × MS × Nat) → Option Unit) : Option Unit :=
  ck (ib (t1.1 + 1) L) <| bn (xs (Int32.toNatClampNeg (t1.1 + 1))) fun x24 =>
  ck (ib (t1.1 + 2) L) <| bn (xs (Int32.toNatClampNeg (t1.1 + 2))) fun x25 =>
  ck (ib (t1.1 + 3) L) <| bn (xs (Int32.toNatClampNeg (t1.1 + 3))) fun x26 =>
  cl (f_X7_way n t1.2.1 x24 x25 x26 t1.2.2.1) fun q27 =>
  ck (ib (t1.1 + 1) L) <| bn (xs (Int32.toNatClampNeg (t1.1 + 1))) fun x28 =>
  ck (ib (t1.1 + 2) L) <| bn (xs (Int32.toNatClampNeg (t1.1 + 2))) fun x29 =>
  ck (ib (t1.1 + 3) L) <| bn (xs (Int32.toNatClampNeg (t1.1 + 3))) fun x30 =>
  cl (f_X8_way n x28 x29 x30 t1.2.2.2.1) fun q31 =>
  if q27.1 = q31.1 then (
    K6 ((cond q27.2.1 (t1.2.1 + 1) t1.2.1), q27.2.2, q31.2, (t1.2.2.2.2 + 1)))
  else (
    none)
def lwA3 (n : Nat) (L : Nat) (xs : Nat → Int32) (t1 : Int32 × Nat × CS × MS × Nat) (K6 : (Nat × CS × MS × Nat) → Option Unit) : Option Unit :=
  ck (ib (t1.1 + 1) L) <| bn (xs (Int32.toNatClampNeg (t1.1 + 1))) fun x33 =>
  ck (ib (t1.1 + 2) L) <| bn (xs (Int32.toNatClampNeg (t1.1 + 2))) fun x34 =>
  ck (ib (t1.1 + 3) L) <| bn (xs (Int32.toNatClampNeg (t1.1 + 3))) fun x35 =>
  cl (f_X7_set n t1.2.1 x33 x34 x35 t1.2.2.1) fun q36 =>
  ck (ib (t1.1 + 1) L) <| bn (xs (Int32.toNatClampNeg (t1.1 + 1))) fun x37 =>
  ck (ib (t1.1 + 2) L) <| bn (xs (Int32.toNatClampNeg (t1.1 + 2))) fun x38 =>
  ck (ib (t1.1 + 3) L) <| bn (xs (Int32.toNatClampNeg (t1.1 + 3))) fun x39 =>
  cl (f_X8_set n x37 x38 x39 t1.2.2.2.1) fun q40 =>
  if q36.1 = q40.1 then (
    K6 (t1.2.1, q36.2, q40.2, (t1.2.2.2.2 + 1)))
  else (
    none)
def lwA4 (n : Nat) (L : Nat) (xs : Nat → Int32) (t1 : Int32 × Nat × CS × MS × Nat) (K6 : (Nat × CS × MS × Nat) → Option Unit) : Option Unit :=
  ck (ib (t1.1 + 1) L) <| bn (xs (Int32.toNatClampNeg (t1.1 + 1))) fun x42 =>
  ck (ib (t1.1 + 2) L) <| bn (xs (Int32.toNatClampNeg (t1.1 + 2))) fun x43 =>
  cl (f_X7_shut n t1.2.1 x42 x43 t1.2.2.1) fun q44 =>
  ck (ib (t1.1 + 1) L) <| bn (xs (Int32.toNatClampNeg (t1.1 + 1))) fun x45 =>
  ck (ib (t1.1 + 2) L) <| bn (xs (Int32.toNatClampNeg (t1.1 + 2))) fun x46 =>
  cl (f_X8_shut n x45 x46 t1.2.2.2.1) fun q47 =>
  if q44.1 = q47.1 then (
    K6 (t1.2.1, q44.2, q47.2, (t1.2.2.2.2 + 1)))
  else (
    none)
def lwA5 (n : Nat) (L : Nat) (xs : Nat → Int32) (t1 : Int32 × Nat × CS × MS × Nat) (K6 : (Nat × CS × MS × Nat) → Option Unit) : Option Unit :=
  ck (ib (t1.1 + 1) L) <| bn (xs (Int32.toNatClampNeg (t1.1 + 1))) fun x49 =>
  ck (ib (t1.1 + 2) L) <| bn (xs (Int32.toNatClampNeg (t1.1 + 2))) fun x50 =>
  ck (ib (t1.1 + 3) L) <| bn (xs (Int32.toNatClampNeg (t1.1 + 3))) fun x51 =>
  cl (f_X7_told n t1.2.1 x49 x50 x51 t1.2.2.1) fun q52 =>
  ck (ib (t1.1 + 1) L) <| bn (xs (Int32.toNatClampNeg (t1.1 + 1))) fun x53 =>
  ck (ib (t1.1 + 2) L) <| bn (xs (Int32.toNatClampNeg (t1.1 + 2))) fun x54 =>
  ck (ib (t1.1 + 3) L) <| bn (xs (Int32.toNatClampNeg (t1.1 + 3))) fun x55 =>
  cl (f_X8_told n x53 x54 x55 t1.2.2.2.1) fun q56 =>
  if q52 = q56 then (
    K6 (t1.2.1, t1.2.2.1, t1.2.2.2.1, (t1.2.2.2.2 + 1)))
  else (
    none)
def lwA6 (n : Nat) (L : Nat) (xs : Nat → Int32) (t1 : Int32 × Nat × CS × MS × Nat) (K6 : (Nat × CS × MS × Nat) → Option Unit) : Option Unit :=
  ck (ib (t1.1 + 1) L) <| bn (xs (Int32.toNatClampNeg (t1.1 + 1))) fun x58 =>
  ck (ib (t1.1 + 2) L) <| bn (xs (Int32.toNatClampNeg (t1.1 + 2))) fun x59 =>
  ck (ib (t1.1 + 3) L) <| bn (xs (Int32.toNatClampNeg (t1.1 + 3))) fun x60 =>
  cl (f_X7_feed n t1.2.1 x58 (((Int32.toInt64 x59) <<< (Int32.toInt64 32 &&& 63)) ||| ((Int32.toInt64 x60) &&& 4294967295)) t1.2.2.1) fun q61 =>
  ck (ib (t1.1 + 1) L) <| bn (xs (Int32.toNatClampNeg (t1.1 + 1))) fun x62 =>
  ck (ib (t1.1 + 2) L) <| bn (xs (Int32.toNatClampNeg (t1.1 + 2))) fun x63 =>
  ck (ib (t1.1 + 3) L) <| bn (xs (Int32.toNatClampNeg (t1.1 + 3))) fun x64 =>
  cl (f_X8_feed n x62 (((Int32.toInt64 x63) <<< (Int32.toInt64 32 &&& 63)) ||| ((Int32.toInt64 x64) &&& 4294967295)) t1.2.2.2.1) fun q65 =>
  if q61.1 = q65.1 then (
    K6 (t1.2.1, q61.2, q65.2, (t1.2.2.2.2 + 1)))
  else (
    none)
def lwA7 (n : Nat) (L : Nat) (xs : Nat → Int32) (t1 : Int32 × Nat × CS × MS × Nat) (K6 : (Nat × CS × MS × Nat) → Option Unit) : Option Unit :=
  cl (f_X7_text n t1.2.1 t1.2.2.1) fun q67 =>
  cl (f_X8_text n t1.2.2.2.1) fun q68 =>
  if q67.1 = q68.1 then (
    K6 (t1.2.1, q67.2, q68.2, (t1.2.2.2.2 + 1)))
  else (
    none)
def lwA8 (n : Nat) (L : Nat) (xs : Nat → Int32) (t1 : Int32 × Nat × CS × MS × Nat) (K6 : (Nat × CS × MS × Nat) → Option Unit) : Option Unit :=
  ck (ib (t1.1 + 1) L) <| bn (xs (Int32.toNatClampNeg (t1.1 + 1))) fun x70 =>
  cl (f_X7_force n t1.2.1 x70 t1.2.2.1) fun q71 =>
  ck (ib (t1.1 + 1) L) <| bn (xs (Int32.toNatClampNeg (t1.1 + 1))) fun x72 =>
  cl (f_X8_force n x72 t1.2.2.2.1) fun q73 =>
  if q71.1 = q73.1 then (
    K6 (t1.2.1, q71.2, q73.2, (t1.2.2.2.2 + 1)))
  else (
    none)
def lwA9 (n : Nat) (L : Nat) (xs : Nat → Int32) (t1 : Int32 × Nat × CS × MS × Nat) (K6 : (Nat × CS × MS × Nat) → Option Unit) : Option Unit :=
  ck (ib (t1.1 + 1) L) <| bn (xs (Int32.toNatClampNeg (t1.1 + 1))) fun x75 =>
  ck (ib (t1.1 + 2) L) <| bn (xs (Int32.toNatClampNeg (t1.1 + 2))) fun x76 =>
  cl (f_X7_left n t1.2.1 x75 x76 t1.2.2.1) fun q77 =>
  ck (ib (t1.1 + 1) L) <| bn (xs (Int32.toNatClampNeg (t1.1 + 1))) fun x78 =>
  ck (ib (t1.1 + 2) L) <| bn (xs (Int32.toNatClampNeg (t1.1 + 2))) fun x79 =>
  cl (f_X8_left n x78 x79 t1.2.2.2.1) fun q80 =>
  if q77.1 = q80.1 then (
    K6 (t1.2.1, q77.2, q80.2, (t1.2.2.2.2 + 1)))
  else (
    none)
def lwA10 (n : Nat) (L : Nat) (xs : Nat → Int32) (t1 : Int32 × Nat × CS × MS × Nat) (K6 : (Nat × CS × MS × Nat) → Option Unit) : Option Unit :=
  ck (ib (t1.1 + 1) L) <| bn (xs (Int32.toNatClampNeg (t1.1 + 1))) fun x82 =>
  cl (f_X7_harm n t1.2.1 x82 t1.2.2.1) fun q83 =>
  ck (ib (t1.1 + 1) L) <| bn (xs (Int32.toNatClampNeg (t1.1 + 1))) fun x84 =>
  cl (f_X8_harm n x84 t1.2.2.2.1) fun q85 =>
  if (lg_cmp q83.1 q85.1) = 0 then (
    K6 (t1.2.1, q83.2, q85.2, (t1.2.2.2.2 + 1)))
  else (
    none)
def lwA11 (n : Nat) (L : Nat) (xs : Nat → Int32) (t1 : Int32 × Nat × CS × MS × Nat) (K6 : (Nat × CS × MS × Nat) → Option Unit) : Option Unit :=
  ck (ib (t1.1 + 1) L) <| bn (xs (Int32.toNatClampNeg (t1.1 + 1))) fun x87 =>
  ck (ib (t1.1 + 2) L) <| bn (xs (Int32.toNatClampNeg (t1.1 + 2))) fun x88 =>
  cl (f_X7_rode n t1.2.1 x87 x88 t1.2.2.1) fun q89 =>
  ck (ib (t1.1 + 1) L) <| bn (xs (Int32.toNatClampNeg (t1.1 + 1))) fun x90 =>
  ck (ib (t1.1 + 2) L) <| bn (xs (Int32.toNatClampNeg (t1.1 + 2))) fun x91 =>
  cl (f_X8_rode n x90 x91 t1.2.2.2.1) fun q92 =>
  if q89.1 = q92.1 then (
    K6 (t1.2.1, q89.2, q92.2, (t1.2.2.2.2 + 1)))
  else (
    none)
def lwA12 (n : Nat) (L : Nat) (xs : Nat → Int32) (t1 : Int32 × Nat × CS × MS × Nat) (K6 : (Nat × CS × MS × Nat) → Option Unit) : Option Unit :=
  ck (ib (t1.1 + 1) L) <| bn (xs (Int32.toNatClampNeg (t1.1 + 1))) fun x94 =>
  ck (ib (t1.1 + 2) L) <| bn (xs (Int32.toNatClampNeg (t1.1 + 2))) fun x95 =>
  cl (f_X7_waits n t1.2.1 x94 x95 t1.2.2.1) fun q96 =>
  ck (ib (t1.1 + 1) L) <| bn (xs (Int32.toNatClampNeg (t1.1 + 1))) fun x97 =>
  ck (ib (t1.1 + 2) L) <| bn (xs (Int32.toNatClampNeg (t1.1 + 2))) fun x98 =>
  cl (f_X8_waits n x97 x98 t1.2.2.2.1) fun q99 =>
  if q96.1 = q99.1 then (
    K6 (t1.2.1, q96.2, q99.2, (t1.2.2.2.2 + 1)))
  else (
    none)
def lwA13 (n : Nat) (L : Nat) (xs : Nat → Int32) (t1 : Int32 × Nat × CS × MS × Nat) (K6 : (Nat × CS × MS × Nat) → Option Unit) : Option Unit :=
  ck (ib (t1.1 + 1) L) <| bn (xs (Int32.toNatClampNeg (t1.1 + 1))) fun x101 =>
  ck (ib (t1.1 + 2) L) <| bn (xs (Int32.toNatClampNeg (t1.1 + 2))) fun x102 =>
  ck (ib (t1.1 + 3) L) <| bn (xs (Int32.toNatClampNeg (t1.1 + 3))) fun x103 =>
  cl (f_X7_down n t1.2.1 x101 x102 x103 t1.2.2.1) fun q104 =>
  ck (ib (t1.1 + 1) L) <| bn (xs (Int32.toNatClampNeg (t1.1 + 1))) fun x105 =>
  ck (ib (t1.1 + 2) L) <| bn (xs (Int32.toNatClampNeg (t1.1 + 2))) fun x106 =>
  ck (ib (t1.1 + 3) L) <| bn (xs (Int32.toNatClampNeg (t1.1 + 3))) fun x107 =>
  cl (f_X8_down n x105 x106 x107 t1.2.2.2.1) fun q108 =>
  if q104.1 = q108.1 then (
    K6 (t1.2.1, q104.2, q108.2, (t1.2.2.2.2 + 1)))
  else (
    none)
def lwA14 (n : Nat) (L : Nat) (xs : Nat → Int32) (t1 : Int32 × Nat × CS × MS × Nat) (K6 : (Nat × CS × MS × Nat) → Option Unit) : Option Unit :=
  ck (ib (t1.1 + 1) L) <| bn (xs (Int32.toNatClampNeg (t1.1 + 1))) fun x110 =>
  ck (ib (t1.1 + 2) L) <| bn (xs (Int32.toNatClampNeg (t1.1 + 2))) fun x111 =>
  cl (f_X7_behind n t1.2.1 x110 x111 t1.2.2.1) fun q112 =>
  ck (ib (t1.1 + 1) L) <| bn (xs (Int32.toNatClampNeg (t1.1 + 1))) fun x113 =>
  ck (ib (t1.1 + 2) L) <| bn (xs (Int32.toNatClampNeg (t1.1 + 2))) fun x114 =>
  cl (f_X8_behind n x113 x114 t1.2.2.2.1) fun q115 =>
  if q112.1 = q115.1 then (
    K6 (t1.2.1, q112.2, q115.2, (t1.2.2.2.2 + 1)))
  else (
    none)
def lwA15 (n : Nat) (L : Nat) (xs : Nat → Int32) (t1 : Int32 × Nat × CS × MS × Nat) (K6 : (Nat × CS × MS × Nat) → Option Unit) : Option Unit :=
  ck (ib (t1.1 + 1) L) <| bn (xs (Int32.toNatClampNeg (t1.1 + 1))) fun x117 =>
  ck (ib (t1.1 + 2) L) <| bn (xs (Int32.toNatClampNeg (t1.1 + 2))) fun x118 =>
  cl (f_X7_latest n t1.2.1 x117 x118 t1.2.2.1) fun q119 =>
  ck (ib (t1.1 + 1) L) <| bn (xs (Int32.toNatClampNeg (t1.1 + 1))) fun x120 =>
  ck (ib (t1.1 + 2) L) <| bn (xs (Int32.toNatClampNeg (t1.1 + 2))) fun x121 =>
  cl (f_X8_latest n x120 x121 t1.2.2.2.1) fun q122 =>
  if q119.1 = q122.1 then (
    K6 (t1.2.1, q119.2, q122.2, (t1.2.2.2.2 + 1)))
  else (
    none)
def lwA16 (n : Nat) (L : Nat) (xs : Nat → Int32) (t1 : Int32 × Nat × CS × MS × Nat) (K6 : (Nat × CS × MS × Nat) → Option Unit) : Option Unit :=
  ck (ib (t1.1 + 1) L) <| bn (xs (Int32.toNatClampNeg (t1.1 + 1))) fun x124 =>
  ck (ib (t1.1 + 2) L) <| bn (xs (Int32.toNatClampNeg (t1.1 + 2))) fun x125 =>
  cl (f_X7_more n t1.2.1 x124 x125 t1.2.2.1) fun q126 =>
  ck (ib (t1.1 + 1) L) <| bn (xs (Int32.toNatClampNeg (t1.1 + 1))) fun x127 =>
  ck (ib (t1.1 + 2) L) <| bn (xs (Int32.toNatClampNeg (t1.1 + 2))) fun x128 =>
  cl (f_X8_more n x127 x128 t1.2.2.2.1) fun q129 =>
  if q126.1 = q129.1 then (
    K6 (t1.2.1, q126.2, q129.2, (t1.2.2.2.2 + 1)))
  else (
    none)
def lwA17 (n : Nat) (L : Nat) (xs : Nat → Int32) (t1 : Int32 × Nat × CS × MS × Nat) (K6 : (Nat × CS × MS × Nat) → Option Unit) : Option Unit :=
  ck (ib (t1.1 + 1) L) <| bn (xs (Int32.toNatClampNeg (t1.1 + 1))) fun x131 =>
  cl (f_X7_choose n t1.2.1 x131 t1.2.2.1) fun q132 =>
  ck (ib (t1.1 + 1) L) <| bn (xs (Int32.toNatClampNeg (t1.1 + 1))) fun x133 =>
  cl (f_X8_choose n x133 t1.2.2.2.1) fun q134 =>
  if (lg_cmp q132.1 q134.1) = 0 then (
    K6 (t1.2.1, q132.2, q134.2, (t1.2.2.2.2 + 1)))
  else (
    none)
def lwA18 (n : Nat) (L : Nat) (xs : Nat → Int32) (t1 : Int32 × Nat × CS × MS × Nat) (K6 : (Nat × CS × MS × Nat) → Option Unit) : Option Unit :=
  cl (f_X7_must n t1.2.1 t1.2.2.1) fun q136 =>
  cl (f_X8_must n t1.2.2.2.1) fun q137 =>
  if q136 = q137 then (
    K6 (t1.2.1, t1.2.2.1, t1.2.2.2.1, (t1.2.2.2.2 + 1)))
  else (
    none)
def lwA19 (n : Nat) (L : Nat) (xs : Nat → Int32) (t1 : Int32 × Nat × CS × MS × Nat) (K6 : (Nat × CS × MS × Nat) → Option Unit) : Option Unit :=
  ck (ib (t1.1 + 1) L) <| bn (xs (Int32.toNatClampNeg (t1.1 + 1))) fun x139 =>
  cl (f_X7_latestUp n t1.2.1 x139 t1.2.2.1) fun q140 =>
  ck (ib (t1.1 + 1) L) <| bn (xs (Int32.toNatClampNeg (t1.1 + 1))) fun x141 =>
  cl (f_X8_latestUp n x141 t1.2.2.2.1) fun q142 =>
  if q140 = q142 then (
    K6 (t1.2.1, t1.2.2.1, t1.2.2.2.1, (t1.2.2.2.2 + 1)))
  else (
    none)
def lwA20 (n : Nat) (L : Nat) (xs : Nat → Int32) (t1 : Int32 × Nat × CS × MS × Nat) (K6 : (Nat × CS × MS × Nat) → Option Unit) : Option Unit :=
  ck (ib (t1.1 + 1) L) <| bn (xs (Int32.toNatClampNeg (t1.1 + 1))) fun x144 =>
  cl (f_X7_judge n t1.2.1 x144 t1.2.2.1) fun q145 =>
  ck (ib (t1.1 + 1) L) <| bn (xs (Int32.toNatClampNeg (t1.1 + 1))) fun x146 =>
  cl (f_X8_judge n x146 t1.2.2.2.1) fun q147 =>
  if q145.1 = q147.1 then (
    K6 (t1.2.1, q145.2, q147.2, (t1.2.2.2.2 + 1)))
  else (
    none)
def lwA21 (n : Nat) (L : Nat) (xs : Nat → Int32) (t1 : Int32 × Nat × CS × MS × Nat) (K6 : (Nat × CS × MS × Nat) → Option Unit) : Option Unit :=
  cl (f_X7_image n t1.2.1 t1.2.2.1) fun q149 =>
  cl (f_X8_image n t1.2.2.2.1) fun q150 =>
  if q149.1 = q150.1 then (
    K6 (t1.2.1, q149.2, q150.2, (t1.2.2.2.2 + 1)))
  else (
    none)
def lwA22 (n : Nat) (L : Nat) (xs : Nat → Int32) (t1 : Int32 × Nat × CS × MS × Nat) (K6 : (Nat × CS × MS × Nat) → Option Unit) : Option Unit :=
  cl (f_X7_back n t1.2.1 t1.2.2.1) fun q152 =>
  cl (f_X8_back n t1.2.2.2.1) fun q153 =>
  if q152.1 = q153.1 then (
    K6 (t1.2.1, q152.2, q153.2, (t1.2.2.2.2 + 1)))
  else (
    none)
def lwA23 (n : Nat) (L : Nat) (xs : Nat → Int32) (t1 : Int32 × Nat × CS × MS × Nat) (K6 : (Nat × CS × MS × Nat) → Option Unit) : Option Unit :=
  ck (ib (t1.1 + 1) L) <| bn (xs (Int32.toNatClampNeg (t1.1 + 1))) fun x155 =>
  cl (f_X7_count n t1.2.1 x155 t1.2.2.1) fun q156 =>
  ck (ib (t1.1 + 1) L) <| bn (xs (Int32.toNatClampNeg (t1.1 + 1))) fun x157 =>
  cl (f_X8_count n x157 t1.2.2.2.1) fun q158 =>
  if q156 = q158 then (
    K6 (t1.2.1, t1.2.2.1, t1.2.2.2.1, (t1.2.2.2.2 + 1)))
  else (
    none)
def lwA24 (n : Nat) (L : Nat) (xs : Nat → Int32) (t1 : Int32 × Nat × CS × MS × Nat) (K6 : (Nat × CS × MS × Nat) → Option Unit) : Option Unit :=
  ck (ib (t1.1 + 1) L) <| bn (xs (Int32.toNatClampNeg (t1.1 + 1))) fun x160 =>
  ck (ib (t1.1 + 2) L) <| bn (xs (Int32.toNatClampNeg (t1.1 + 2))) fun x161 =>
  ck (ib (t1.1 + 3) L) <| bn (xs (Int32.toNatClampNeg (t1.1 + 3))) fun x162 =>
  cl (f_X7_sheet n t1.2.1 x160 x161 x162 t1.2.2.1) fun q163 =>
  ck (ib (t1.1 + 1) L) <| bn (xs (Int32.toNatClampNeg (t1.1 + 1))) fun x164 =>
  ck (ib (t1.1 + 2) L) <| bn (xs (Int32.toNatClampNeg (t1.1 + 2))) fun x165 =>
  ck (ib (t1.1 + 3) L) <| bn (xs (Int32.toNatClampNeg (t1.1 + 3))) fun x166 =>
  cl (f_X8_sheet n x164 x165 x166 t1.2.2.2.1) fun q167 =>
  if q163.1 = q167.1 then (
    K6 (t1.2.1, q163.2, q167.2, (t1.2.2.2.2 + 1)))
  else (
    none)
def lwA25 (n : Nat) (L : Nat) (xs : Nat → Int32) (t1 : Int32 × Nat × CS × MS × Nat) (K6 : (Nat × CS × MS × Nat) → Option Unit) : Option Unit :=
  ck (ib (t1.1 + 1) L) <| bn (xs (Int32.toNatClampNeg (t1.1 + 1))) fun x169 =>
  ck (ib (t1.1 + 2) L) <| bn (xs (Int32.toNatClampNeg (t1.1 + 2))) fun x170 =>
  ck (ib (t1.1 + 3) L) <| bn (xs (Int32.toNatClampNeg (t1.1 + 3))) fun x171 =>
  cl (f_X7_cell n t1.2.1 x169 x170 x171 t1.2.2.1) fun q172 =>
  ck (ib (t1.1 + 1) L) <| bn (xs (Int32.toNatClampNeg (t1.1 + 1))) fun x173 =>
  ck (ib (t1.1 + 2) L) <| bn (xs (Int32.toNatClampNeg (t1.1 + 2))) fun x174 =>
  ck (ib (t1.1 + 3) L) <| bn (xs (Int32.toNatClampNeg (t1.1 + 3))) fun x175 =>
  cl (f_X8_cell n x173 x174 x175 t1.2.2.2.1) fun q176 =>
  if q172.1 = q176.1 then (
    K6 (t1.2.1, q172.2, q176.2, (t1.2.2.2.2 + 1)))
  else (
    none)
def lwA26 (n : Nat) (L : Nat) (xs : Nat → Int32) (t1 : Int32 × Nat × CS × MS × Nat) (K6 : (Nat × CS × MS × Nat) → Option Unit) : Option Unit :=
  ck (ib (t1.1 + 1) L) <| bn (xs (Int32.toNatClampNeg (t1.1 + 1))) fun x178 =>
  ck (ib (t1.1 + 2) L) <| bn (xs (Int32.toNatClampNeg (t1.1 + 2))) fun x179 =>
  ck (ib (t1.1 + 3) L) <| bn (xs (Int32.toNatClampNeg (t1.1 + 3))) fun x180 =>
  ck (ib (t1.1 + 4) L) <| bn (xs (Int32.toNatClampNeg (t1.1 + 4))) fun x181 =>
  ck (ib (t1.1 + 5) L) <| bn (xs (Int32.toNatClampNeg (t1.1 + 5))) fun x182 =>
  cl (f_X7_copy n t1.2.1 x178 x179 x180 x181 x182 t1.2.2.1) fun q183 =>
  ck (ib (t1.1 + 1) L) <| bn (xs (Int32.toNatClampNeg (t1.1 + 1))) fun x184 =>
  ck (ib (t1.1 + 2) L) <| bn (xs (Int32.toNatClampNeg (t1.1 + 2))) fun x185 =>
  ck (ib (t1.1 + 3) L) <| bn (xs (Int32.toNatClampNeg (t1.1 + 3))) fun x186 =>
  ck (ib (t1.1 + 4) L) <| bn (xs (Int32.toNatClampNeg (t1.1 + 4))) fun x187 =>
  ck (ib (t1.1 + 5) L) <| bn (xs (Int32.toNatClampNeg (t1.1 + 5))) fun x188 =>
  cl (f_X8_copy n x184 x185 x186 x187 x188 t1.2.2.2.1) fun q189 =>
  if q183.1 = q189.1 then (
    K6 (t1.2.1, q183.2, q189.2, (t1.2.2.2.2 + 1)))
  else (
    none)
def lwA27 (n : Nat) (L : Nat) (xs : Nat → Int32) (t1 : Int32 × Nat × CS × MS × Nat) (K6 : (Nat × CS × MS × Nat) → Option Unit) : Option Unit :=
  ck (ib (t1.1 + 1) L) <| bn (xs (Int32.toNatClampNeg (t1.1 + 1))) fun x191 =>
  ck (ib (t1.1 + 2) L) <| bn (xs (Int32.toNatClampNeg (t1.1 + 2))) fun x192 =>
  ck (ib (t1.1 + 3) L) <| bn (xs (Int32.toNatClampNeg (t1.1 + 3))) fun x193 =>
  ck (ib (t1.1 + 4) L) <| bn (xs (Int32.toNatClampNeg (t1.1 + 4))) fun x194 =>
  cl (f_X7_sorts n t1.2.1 x191 x192 x193 x194 t1.2.2.1) fun q195 =>
  ck (ib (t1.1 + 1) L) <| bn (xs (Int32.toNatClampNeg (t1.1 + 1))) fun x196 =>
  ck (ib (t1.1 + 2) L) <| bn (xs (Int32.toNatClampNeg (t1.1 + 2))) fun x197 =>
  ck (ib (t1.1 + 3) L) <| bn (xs (Int32.toNatClampNeg (t1.1 + 3))) fun x198 =>
  ck (ib (t1.1 + 4) L) <| bn (xs (Int32.toNatClampNeg (t1.1 + 4))) fun x199 =>
  cl (f_X8_sorts n x196 x197 x198 x199 t1.2.2.2.1) fun q200 =>
  if q195.1 = q200.1 then (
    K6 (t1.2.1, q195.2, q200.2, (t1.2.2.2.2 + 1)))
  else (
    none)
def lwA28 (n : Nat) (L : Nat) (xs : Nat → Int32) (t1 : Int32 × Nat × CS × MS × Nat) (K6 : (Nat × CS × MS × Nat) → Option Unit) : Option Unit :=
  ck (ib (t1.1 + 1) L) <| bn (xs (Int32.toNatClampNeg (t1.1 + 1))) fun x202 =>
  ck (ib (t1.1 + 2) L) <| bn (xs (Int32.toNatClampNeg (t1.1 + 2))) fun x203 =>
  cl (f_X7_taken n t1.2.1 x202 x203 t1.2.2.1) fun q204 =>
  ck (ib (t1.1 + 1) L) <| bn (xs (Int32.toNatClampNeg (t1.1 + 1))) fun x205 =>
  ck (ib (t1.1 + 2) L) <| bn (xs (Int32.toNatClampNeg (t1.1 + 2))) fun x206 =>
  cl (f_X8_taken n x205 x206 t1.2.2.2.1) fun q207 =>
  if q204 = q207 then (
    K6 (t1.2.1, t1.2.2.1, t1.2.2.2.1, (t1.2.2.2.2 + 1)))
  else (
    none)
def lwJ (n : Nat) (L : Nat) (xs : Nat → Int32) (t1 : Int32 × Nat × CS × MS × Nat) (K6 : (Nat × CS × MS × Nat) → Option Unit) (x4 : Int32) : Option Unit :=
  if (x4 &&& 31) = 0 then lwA0 n L xs t1 K6 else if (x4 &&& 31) = 1 then lwA1 n L xs t1 K6 else if (x4 &&& 31) = 2 then lwA2 n L xs t1 K6 else if (x4 &&& 31) = 3 then lwA3 n L xs t1 K6 else if (x4 &&& 31) = 4 then lwA4 n L xs t1 K6 else if (x4 &&& 31) = 5 then lwA5 n L xs t1 K6 else if (x4 &&& 31) = 6 then lwA6 n L xs t1 K6 else if (x4 &&& 31) = 7 then lwA7 n L xs t1 K6 else if (x4 &&& 31) = 8 then lwA8 n L xs t1 K6 else if (x4 &&& 31) = 9 then lwA9 n L xs t1 K6 else if (x4 &&& 31) = 10 then lwA10 n L xs t1 K6 else if (x4 &&& 31) = 11 then lwA11 n L xs t1 K6 else if (x4 &&& 31) = 12 then lwA12 n L xs t1 K6 else if (x4 &&& 31) = 13 then lwA13 n L xs t1 K6 else if (x4 &&& 31) = 14 then lwA14 n L xs t1 K6 else if (x4 &&& 31) = 15 then lwA15 n L xs t1 K6 else if (x4 &&& 31) = 16 then lwA16 n L xs t1 K6 else if (x4 &&& 31) = 17 then lwA17 n L xs t1 K6 else if (x4 &&& 31) = 18 then lwA18 n L xs t1 K6 else if (x4 &&& 31) = 19 then lwA19 n L xs t1 K6 else if (x4 &&& 31) = 20 then lwA20 n L xs t1 K6 else if (x4 &&& 31) = 21 then lwA21 n L xs t1 K6 else if (x4 &&& 31) = 22 then lwA22 n L xs t1 K6 else if (x4 &&& 31) = 23 then lwA23 n L xs t1 K6 else if (x4 &&& 31) = 24 then lwA24 n L xs t1 K6 else if (x4 &&& 31) = 25 then lwA25 n L xs t1 K6 else if (x4 &&& 31) = 26 then lwA26 n L xs t1 K6 else if (x4 &&& 31) = 27 then lwA27 n L xs t1 K6 else if (x4 &&& 31) = 28 then lwA28 n L xs t1 K6 else K6 (t1.2.1, t1.2.2.1, t1.2.2.2.1, (t1.2.2.2.2 + 1))
theorem law_eq (n L : Nat) (xs : Nat → Int32) (nw : Nat) (c : CS) (s : MS) : f_law n L xs nw c s = lp (fun K2 (t1 : Int32 × Nat × CS × MS × Nat) =>
  ck (decide (t1.2.2.2.2 < 65)) <| ck (decide (t1.2.1 < 100)) <|
  if ((nI L) - 6) < t1.1 then some () else
    ck (ib t1.1 L) <| bn (xs (Int32.toNatClampNeg t1.1)) fun x4 =>
    lwJ n L xs t1 (fun (t5 : Nat × CS × MS × Nat) => K2 ((t1.1 + 6), t5.1, t5.2.1, t5.2.2.1, t5.2.2.2)) x4) n (0, nw, c, s, 0) := rfl
theorem lw0 (t0 : MS) (h0 : T0OK t0) (L : Nat) (xs : Nat → Int32) (t1 : Int32 × Nat × CS × MS × Nat) (hr : R t0 t1.2.1 t1.2.2.1 t1.2.2.2.1) (I1 : ib (t1.1 + 1) L = true) (I2 : ib (t1.1 + 2) L = true) (I3 : ib (t1.1 + 3) L = true) (I4 : ib (t1.1 + 4) L = true) (I5 : ib (t1.1 + 5) L = true) : ∃ nw c s, R t0 nw c s ∧ ∀ K6, lwA0 NF L xs t1 K6 = K6 (nw, c, s, t1.2.2.2.2 + 1) := by
  obtain ⟨r, c, s, hx, hy, hR⟩ := op_people t0 t1.2.1 NF (xs (Int32.toNatClampNeg (t1.1 + 1))) (xs (Int32.toNatClampNeg (t1.1 + 2))) t1.2.2.1 t1.2.2.2.1 hr
  refine ⟨_, _, _, hR, fun K6 => ?_⟩
  unfold lwA0
  simp only [I1, I2, ck_t, bn_def, hx, hy, cl_some]
  rw [if_pos trivial]
theorem lw1 (t0 : MS) (h0 : T0OK t0) (L : Nat) (xs : Nat → Int32) (t1 : Int32 × Nat × CS × MS × Nat) (hr : R t0 t1.2.1 t1.2.2.1 t1.2.2.2.1) (I1 : ib (t1.1 + 1) L = true) (I2 : ib (t1.1 + 2) L = true) (I3 : ib (t1.1 + 3) L = true) (I4 : ib (t1.1 + 4) L = true) (I5 : ib (t1.1 + 5) L = true) : ∃ nw c s, R t0 nw c s ∧ ∀ K6, lwA1 NF L xs t1 K6 = K6 (nw, c, s, t1.2.2.2.2 + 1) := by
  obtain ⟨r, c, s, hx, hy, hR⟩ := op_car t0 t1.2.1 NF (xs (Int32.toNatClampNeg (t1.1 + 1))) (xs (Int32.toNatClampNeg (t1.1 + 2))) (xs (Int32.toNatClampNeg (t1.1 + 3))) t1.2.2.1 t1.2.2.2.1 hr
  refine ⟨_, _, _, hR, fun K6 => ?_⟩
  unfold lwA1
  simp only [I1, I2, I3, ck_t, bn_def, hx, hy, cl_some]
  rw [if_pos trivial]
theorem lw2 (t0 : MS) (h0 : T0OK t0) (L : Nat) (xs : Nat → Int32) (t1 : Int32 × Nat × CS × MS × Nat) (hr : R t0 t1.2.1 t1.2.2.1 t1.2.2.2.1) (I1 : ib (t1.1 + 1) L = true) (I2 : ib (t1.1 + 2) L = true) (I3 : ib (t1.1 + 3) L = true) (I4 : ib (t1.1 + 4) L = true) (I5 : ib (t1.1 + 5) L = true) : ∃ nw c s, R t0 nw c s ∧ ∀ K6, lwA2 NF L xs t1 K6 = K6 (nw, c, s, t1.2.2.2.2 + 1) := by
  obtain ⟨r, z, c, s, hx, hy, hR⟩ := op_way t0 t1.2.1 NF (xs (Int32.toNatClampNeg (t1.1 + 1))) (xs (Int32.toNatClampNeg (t1.1 + 2))) (xs (Int32.toNatClampNeg (t1.1 + 3))) t1.2.2.1 t1.2.2.2.1 hr
  refine ⟨_, _, _, hR, fun K6 => ?_⟩
  unfold lwA2
  simp only [I1, I2, I3, ck_t, bn_def, hx, hy, cl_some]
  rw [if_pos trivial]
theorem lw3 (t0 : MS) (h0 : T0OK t0) (L : Nat) (xs : Nat → Int32) (t1 : Int32 × Nat × CS × MS × Nat) (hr : R t0 t1.2.1 t1.2.2.1 t1.2.2.2.1) (I1 : ib (t1.1 + 1) L = true) (I2 : ib (t1.1 + 2) L = true) (I3 : ib (t1.1 + 3) L = true) (I4 : ib (t1.1 + 4) L = true) (I5 : ib (t1.1 + 5) L = true) : ∃ nw c s, R t0 nw c s ∧ ∀ K6, lwA3 NF L xs t1 K6 = K6 (nw, c, s, t1.2.2.2.2 + 1) := by
  obtain ⟨r, c, s, hx, hy, hR⟩ := op_set t0 t1.2.1 NF (xs (Int32.toNatClampNeg (t1.1 + 1))) (xs (Int32.toNatClampNeg (t1.1 + 2))) (xs (Int32.toNatClampNeg (t1.1 + 3))) t1.2.2.1 t1.2.2.2.1 hr
  refine ⟨_, _, _, hR, fun K6 => ?_⟩
  unfold lwA3
  simp only [I1, I2, I3, ck_t, bn_def, hx, hy, cl_some]
  rw [if_pos trivial]
theorem lw4 (t0 : MS) (h0 : T0OK t0) (L : Nat) (xs : Nat → Int32) (t1 : Int32 × Nat × CS × MS × Nat) (hr : R t0 t1.2.1 t1.2.2.1 t1.2.2.2.1) (I1 : ib (t1.1 + 1) L = true) (I2 : ib (t1.1 + 2) L = true) (I3 : ib (t1.1 + 3) L = true) (I4 : ib (t1.1 + 4) L = true) (I5 : ib (t1.1 + 5) L = true) : ∃ nw c s, R t0 nw c s ∧ ∀ K6, lwA4 NF L xs t1 K6 = K6 (nw, c, s, t1.2.2.2.2 + 1) := by
  obtain ⟨r, c, s, hx, hy, hR⟩ := op_shut t0 t1.2.1 NF (xs (Int32.toNatClampNeg (t1.1 + 1))) (xs (Int32.toNatClampNeg (t1.1 + 2))) t1.2.2.1 t1.2.2.2.1 hr
  refine ⟨_, _, _, hR, fun K6 => ?_⟩
  unfold lwA4
  simp only [I1, I2, ck_t, bn_def, hx, hy, cl_some]
  rw [if_pos trivial]
theorem lw5 (t0 : MS) (h0 : T0OK t0) (L : Nat) (xs : Nat → Int32) (t1 : Int32 × Nat × CS × MS × Nat) (hr : R t0 t1.2.1 t1.2.2.1 t1.2.2.2.1) (I1 : ib (t1.1 + 1) L = true) (I2 : ib (t1.1 + 2) L = true) (I3 : ib (t1.1 + 3) L = true) (I4 : ib (t1.1 + 4) L = true) (I5 : ib (t1.1 + 5) L = true) : ∃ nw c s, R t0 nw c s ∧ ∀ K6, lwA5 NF L xs t1 K6 = K6 (nw, c, s, t1.2.2.2.2 + 1) := by
  obtain ⟨r, hx, hy⟩ := op_told t0 t1.2.1 NF (xs (Int32.toNatClampNeg (t1.1 + 1))) (xs (Int32.toNatClampNeg (t1.1 + 2))) (xs (Int32.toNatClampNeg (t1.1 + 3))) t1.2.2.1 t1.2.2.2.1 hr
  refine ⟨_, _, _, hr, fun K6 => ?_⟩
  unfold lwA5
  simp only [I1, I2, I3, ck_t, bn_def, hx, hy, cl_some]
  rw [if_pos trivial]
theorem lw6 (t0 : MS) (h0 : T0OK t0) (L : Nat) (xs : Nat → Int32) (t1 : Int32 × Nat × CS × MS × Nat) (hr : R t0 t1.2.1 t1.2.2.1 t1.2.2.2.1) (I1 : ib (t1.1 + 1) L = true) (I2 : ib (t1.1 + 2) L = true) (I3 : ib (t1.1 + 3) L = true) (I4 : ib (t1.1 + 4) L = true) (I5 : ib (t1.1 + 5) L = true) : ∃ nw c s, R t0 nw c s ∧ ∀ K6, lwA6 NF L xs t1 K6 = K6 (nw, c, s, t1.2.2.2.2 + 1) := by
  obtain ⟨r, c, s, hx, hy, hR⟩ := op_feed t0 t1.2.1 NF (by decide) (xs (Int32.toNatClampNeg (t1.1 + 1))) (((Int32.toInt64 (xs (Int32.toNatClampNeg (t1.1 + 2)))) <<< (Int32.toInt64 32 &&& 63)) ||| ((Int32.toInt64 (xs (Int32.toNatClampNeg (t1.1 + 3)))) &&& 4294967295)) t1.2.2.1 t1.2.2.2.1 hr
  refine ⟨_, _, _, hR, fun K6 => ?_⟩
  unfold lwA6
  simp only [I1, I2, I3, ck_t, bn_def, hx, hy, cl_some]
  rw [if_pos trivial]
theorem lw7 (t0 : MS) (h0 : T0OK t0) (L : Nat) (xs : Nat → Int32) (t1 : Int32 × Nat × CS × MS × Nat) (hr : R t0 t1.2.1 t1.2.2.1 t1.2.2.2.1) (I1 : ib (t1.1 + 1) L = true) (I2 : ib (t1.1 + 2) L = true) (I3 : ib (t1.1 + 3) L = true) (I4 : ib (t1.1 + 4) L = true) (I5 : ib (t1.1 + 5) L = true) : ∃ nw c s, R t0 nw c s ∧ ∀ K6, lwA7 NF L xs t1 K6 = K6 (nw, c, s, t1.2.2.2.2 + 1) := by
  obtain ⟨r, c, s, hx, hy, hR⟩ := op_text t0 t1.2.1 NF (by decide)  t1.2.2.1 t1.2.2.2.1 hr
  refine ⟨_, _, _, hR, fun K6 => ?_⟩
  unfold lwA7
  simp only [ck_t, bn_def, hx, hy, cl_some]
  rw [if_pos trivial]
theorem lw8 (t0 : MS) (h0 : T0OK t0) (L : Nat) (xs : Nat → Int32) (t1 : Int32 × Nat × CS × MS × Nat) (hr : R t0 t1.2.1 t1.2.2.1 t1.2.2.2.1) (I1 : ib (t1.1 + 1) L = true) (I2 : ib (t1.1 + 2) L = true) (I3 : ib (t1.1 + 3) L = true) (I4 : ib (t1.1 + 4) L = true) (I5 : ib (t1.1 + 5) L = true) : ∃ nw c s, R t0 nw c s ∧ ∀ K6, lwA8 NF L xs t1 K6 = K6 (nw, c, s, t1.2.2.2.2 + 1) := by
  obtain ⟨r, c, s, hx, hy, hR⟩ := op_force t0 t1.2.1 NF (xs (Int32.toNatClampNeg (t1.1 + 1))) t1.2.2.1 t1.2.2.2.1 hr
  refine ⟨_, _, _, hR, fun K6 => ?_⟩
  unfold lwA8
  simp only [I1, ck_t, bn_def, hx, hy, cl_some]
  rw [if_pos trivial]
theorem lw9 (t0 : MS) (h0 : T0OK t0) (L : Nat) (xs : Nat → Int32) (t1 : Int32 × Nat × CS × MS × Nat) (hr : R t0 t1.2.1 t1.2.2.1 t1.2.2.2.1) (I1 : ib (t1.1 + 1) L = true) (I2 : ib (t1.1 + 2) L = true) (I3 : ib (t1.1 + 3) L = true) (I4 : ib (t1.1 + 4) L = true) (I5 : ib (t1.1 + 5) L = true) : ∃ nw c s, R t0 nw c s ∧ ∀ K6, lwA9 NF L xs t1 K6 = K6 (nw, c, s, t1.2.2.2.2 + 1) := by
  obtain ⟨r, c, s, hx, hy, hR⟩ := op_left t0 h0 t1.2.1 NF (by decide) (xs (Int32.toNatClampNeg (t1.1 + 1))) (xs (Int32.toNatClampNeg (t1.1 + 2))) t1.2.2.1 t1.2.2.2.1 hr
  refine ⟨_, _, _, hR, fun K6 => ?_⟩
  unfold lwA9
  simp only [I1, I2, ck_t, bn_def, hx, hy, cl_some]
  rw [if_pos trivial]
theorem lw10 (t0 : MS) (h0 : T0OK t0) (L : Nat) (xs : Nat → Int32) (t1 : Int32 × Nat × CS × MS × Nat) (hr : R t0 t1.2.1 t1.2.2.1 t1.2.2.2.1) (I1 : ib (t1.1 + 1) L = true) (I2 : ib (t1.1 + 2) L = true) (I3 : ib (t1.1 + 3) L = true) (I4 : ib (t1.1 + 4) L = true) (I5 : ib (t1.1 + 5) L = true) : ∃ nw c s, R t0 nw c s ∧ ∀ K6, lwA10 NF L xs t1 K6 = K6 (nw, c, s, t1.2.2.2.2 + 1) := by
  obtain ⟨r, c, s, hx, hy, hR⟩ := op_harm t0 h0 t1.2.1 NF (by decide) (xs (Int32.toNatClampNeg (t1.1 + 1))) t1.2.2.1 t1.2.2.2.1 hr
  refine ⟨_, _, _, hR, fun K6 => ?_⟩
  unfold lwA10
  simp only [I1, ck_t, bn_def, hx, hy, cl_some]
  rw [if_pos ((cmp_eq r r).mpr rfl)]
theorem lw11 (t0 : MS) (h0 : T0OK t0) (L : Nat) (xs : Nat → Int32) (t1 : Int32 × Nat × CS × MS × Nat) (hr : R t0 t1.2.1 t1.2.2.1 t1.2.2.2.1) (I1 : ib (t1.1 + 1) L = true) (I2 : ib (t1.1 + 2) L = true) (I3 : ib (t1.1 + 3) L = true) (I4 : ib (t1.1 + 4) L = true) (I5 : ib (t1.1 + 5) L = true) : ∃ nw c s, R t0 nw c s ∧ ∀ K6, lwA11 NF L xs t1 K6 = K6 (nw, c, s, t1.2.2.2.2 + 1) := by
  obtain ⟨r, c, s, hx, hy, hR⟩ := op_rode t0 h0 t1.2.1 NF (by decide) (xs (Int32.toNatClampNeg (t1.1 + 1))) (xs (Int32.toNatClampNeg (t1.1 + 2))) t1.2.2.1 t1.2.2.2.1 hr
  refine ⟨_, _, _, hR, fun K6 => ?_⟩
  unfold lwA11
  simp only [I1, I2, ck_t, bn_def, hx, hy, cl_some]
  rw [if_pos trivial]
theorem lw12 (t0 : MS) (h0 : T0OK t0) (L : Nat) (xs : Nat → Int32) (t1 : Int32 × Nat × CS × MS × Nat) (hr : R t0 t1.2.1 t1.2.2.1 t1.2.2.2.1) (I1 : ib (t1.1 + 1) L = true) (I2 : ib (t1.1 + 2) L = true) (I3 : ib (t1.1 + 3) L = true) (I4 : ib (t1.1 + 4) L = true) (I5 : ib (t1.1 + 5) L = true) : ∃ nw c s, R t0 nw c s ∧ ∀ K6, lwA12 NF L xs t1 K6 = K6 (nw, c, s, t1.2.2.2.2 + 1) := by
  obtain ⟨r, c, s, hx, hy, hR⟩ := op_waits t0 h0 t1.2.1 NF (by decide) (xs (Int32.toNatClampNeg (t1.1 + 1))) (xs (Int32.toNatClampNeg (t1.1 + 2))) t1.2.2.1 t1.2.2.2.1 hr
  refine ⟨_, _, _, hR, fun K6 => ?_⟩
  unfold lwA12
  simp only [I1, I2, ck_t, bn_def, hx, hy, cl_some]
  rw [if_pos trivial]
theorem lw13 (t0 : MS) (h0 : T0OK t0) (L : Nat) (xs : Nat → Int32) (t1 : Int32 × Nat × CS × MS × Nat) (hr : R t0 t1.2.1 t1.2.2.1 t1.2.2.2.1) (I1 : ib (t1.1 + 1) L = true) (I2 : ib (t1.1 + 2) L = true) (I3 : ib (t1.1 + 3) L = true) (I4 : ib (t1.1 + 4) L = true) (I5 : ib (t1.1 + 5) L = true) : ∃ nw c s, R t0 nw c s ∧ ∀ K6, lwA13 NF L xs t1 K6 = K6 (nw, c, s, t1.2.2.2.2 + 1) := by
  obtain ⟨r, c, s, hx, hy, hR⟩ := op_down t0 h0 t1.2.1 NF (by decide) (xs (Int32.toNatClampNeg (t1.1 + 1))) (xs (Int32.toNatClampNeg (t1.1 + 2))) (xs (Int32.toNatClampNeg (t1.1 + 3))) t1.2.2.1 t1.2.2.2.1 hr
  refine ⟨_, _, _, hR, fun K6 => ?_⟩
  unfold lwA13
  simp only [I1, I2, I3, ck_t, bn_def, hx, hy, cl_some]
  rw [if_pos trivial]
theorem lw14 (t0 : MS) (h0 : T0OK t0) (L : Nat) (xs : Nat → Int32) (t1 : Int32 × Nat × CS × MS × Nat) (hr : R t0 t1.2.1 t1.2.2.1 t1.2.2.2.1) (I1 : ib (t1.1 + 1) L = true) (I2 : ib (t1.1 + 2) L = true) (I3 : ib (t1.1 + 3) L = true) (I4 : ib (t1.1 + 4) L = true) (I5 : ib (t1.1 + 5) L = true) : ∃ nw c s, R t0 nw c s ∧ ∀ K6, lwA14 NF L xs t1 K6 = K6 (nw, c, s, t1.2.2.2.2 + 1) := by
  obtain ⟨r, c, s, hx, hy, hR⟩ := op_behind t0 h0 t1.2.1 NF (by decide) (xs (Int32.toNatClampNeg (t1.1 + 1))) (xs (Int32.toNatClampNeg (t1.1 + 2))) t1.2.2.1 t1.2.2.2.1 hr
  refine ⟨_, _, _, hR, fun K6 => ?_⟩
  unfold lwA14
  simp only [I1, I2, ck_t, bn_def, hx, hy, cl_some]
  rw [if_pos trivial]
theorem lw15 (t0 : MS) (h0 : T0OK t0) (L : Nat) (xs : Nat → Int32) (t1 : Int32 × Nat × CS × MS × Nat) (hr : R t0 t1.2.1 t1.2.2.1 t1.2.2.2.1) (I1 : ib (t1.1 + 1) L = true) (I2 : ib (t1.1 + 2) L = true) (I3 : ib (t1.1 + 3) L = true) (I4 : ib (t1.1 + 4) L = true) (I5 : ib (t1.1 + 5) L = true) : ∃ nw c s, R t0 nw c s ∧ ∀ K6, lwA15 NF L xs t1 K6 = K6 (nw, c, s, t1.2.2.2.2 + 1) := by
  obtain ⟨r, c, s, hx, hy, hR⟩ := op_latest t0 h0 t1.2.1 NF (by decide) (xs (Int32.toNatClampNeg (t1.1 + 1))) (xs (Int32.toNatClampNeg (t1.1 + 2))) t1.2.2.1 t1.2.2.2.1 hr
  refine ⟨_, _, _, hR, fun K6 => ?_⟩
  unfold lwA15
  simp only [I1, I2, ck_t, bn_def, hx, hy, cl_some]
  rw [if_pos trivial]
theorem lw16 (t0 : MS) (h0 : T0OK t0) (L : Nat) (xs : Nat → Int32) (t1 : Int32 × Nat × CS × MS × Nat) (hr : R t0 t1.2.1 t1.2.2.1 t1.2.2.2.1) (I1 : ib (t1.1 + 1) L = true) (I2 : ib (t1.1 + 2) L = true) (I3 : ib (t1.1 + 3) L = true) (I4 : ib (t1.1 + 4) L = true) (I5 : ib (t1.1 + 5) L = true) : ∃ nw c s, R t0 nw c s ∧ ∀ K6, lwA16 NF L xs t1 K6 = K6 (nw, c, s, t1.2.2.2.2 + 1) := by
  obtain ⟨r, c, s, hx, hy, hR⟩ := op_more t0 h0 t1.2.1 NF (by decide) (xs (Int32.toNatClampNeg (t1.1 + 1))) (xs (Int32.toNatClampNeg (t1.1 + 2))) t1.2.2.1 t1.2.2.2.1 hr
  refine ⟨_, _, _, hR, fun K6 => ?_⟩
  unfold lwA16
  simp only [I1, I2, ck_t, bn_def, hx, hy, cl_some]
  rw [if_pos trivial]
theorem lw17 (t0 : MS) (h0 : T0OK t0) (L : Nat) (xs : Nat → Int32) (t1 : Int32 × Nat × CS × MS × Nat) (hr : R t0 t1.2.1 t1.2.2.1 t1.2.2.2.1) (I1 : ib (t1.1 + 1) L = true) (I2 : ib (t1.1 + 2) L = true) (I3 : ib (t1.1 + 3) L = true) (I4 : ib (t1.1 + 4) L = true) (I5 : ib (t1.1 + 5) L = true) : ∃ nw c s, R t0 nw c s ∧ ∀ K6, lwA17 NF L xs t1 K6 = K6 (nw, c, s, t1.2.2.2.2 + 1) := by
  obtain ⟨r, c, s, hx, hy, hR⟩ := op_choose t0 h0 t1.2.1 NF (by decide) (xs (Int32.toNatClampNeg (t1.1 + 1))) t1.2.2.1 t1.2.2.2.1 hr
  refine ⟨_, _, _, hR, fun K6 => ?_⟩
  unfold lwA17
  simp only [I1, ck_t, bn_def, hx, hy, cl_some]
  rw [if_pos ((cmp_eq r r).mpr rfl)]
theorem lw18 (t0 : MS) (h0 : T0OK t0) (L : Nat) (xs : Nat → Int32) (t1 : Int32 × Nat × CS × MS × Nat) (hr : R t0 t1.2.1 t1.2.2.1 t1.2.2.2.1) (I1 : ib (t1.1 + 1) L = true) (I2 : ib (t1.1 + 2) L = true) (I3 : ib (t1.1 + 3) L = true) (I4 : ib (t1.1 + 4) L = true) (I5 : ib (t1.1 + 5) L = true) : ∃ nw c s, R t0 nw c s ∧ ∀ K6, lwA18 NF L xs t1 K6 = K6 (nw, c, s, t1.2.2.2.2 + 1) := by
  obtain ⟨r, hx, hy⟩ := op_must t0 t1.2.1 NF (by decide)  t1.2.2.1 t1.2.2.2.1 hr
  refine ⟨_, _, _, hr, fun K6 => ?_⟩
  unfold lwA18
  simp only [ck_t, bn_def, hx, hy, cl_some]
  rw [if_pos trivial]
theorem lw19 (t0 : MS) (h0 : T0OK t0) (L : Nat) (xs : Nat → Int32) (t1 : Int32 × Nat × CS × MS × Nat) (hr : R t0 t1.2.1 t1.2.2.1 t1.2.2.2.1) (I1 : ib (t1.1 + 1) L = true) (I2 : ib (t1.1 + 2) L = true) (I3 : ib (t1.1 + 3) L = true) (I4 : ib (t1.1 + 4) L = true) (I5 : ib (t1.1 + 5) L = true) : ∃ nw c s, R t0 nw c s ∧ ∀ K6, lwA19 NF L xs t1 K6 = K6 (nw, c, s, t1.2.2.2.2 + 1) := by
  obtain ⟨r, hx, hy⟩ := op_latestUp t0 t1.2.1 NF (by decide) (xs (Int32.toNatClampNeg (t1.1 + 1))) t1.2.2.1 t1.2.2.2.1 hr
  refine ⟨_, _, _, hr, fun K6 => ?_⟩
  unfold lwA19
  simp only [I1, ck_t, bn_def, hx, hy, cl_some]
  rw [if_pos trivial]
theorem lw20 (t0 : MS) (h0 : T0OK t0) (L : Nat) (xs : Nat → Int32) (t1 : Int32 × Nat × CS × MS × Nat) (hr : R t0 t1.2.1 t1.2.2.1 t1.2.2.2.1) (I1 : ib (t1.1 + 1) L = true) (I2 : ib (t1.1 + 2) L = true) (I3 : ib (t1.1 + 3) L = true) (I4 : ib (t1.1 + 4) L = true) (I5 : ib (t1.1 + 5) L = true) : ∃ nw c s, R t0 nw c s ∧ ∀ K6, lwA20 NF L xs t1 K6 = K6 (nw, c, s, t1.2.2.2.2 + 1) := by
  obtain ⟨r, c, s, hx, hy, hR⟩ := op_judge t0 h0 t1.2.1 NF (by decide) (xs (Int32.toNatClampNeg (t1.1 + 1))) t1.2.2.1 t1.2.2.2.1 hr
  refine ⟨_, _, _, hR, fun K6 => ?_⟩
  unfold lwA20
  simp only [I1, ck_t, bn_def, hx, hy, cl_some]
  rw [if_pos trivial]
theorem lw21 (t0 : MS) (h0 : T0OK t0) (L : Nat) (xs : Nat → Int32) (t1 : Int32 × Nat × CS × MS × Nat) (hr : R t0 t1.2.1 t1.2.2.1 t1.2.2.2.1) (I1 : ib (t1.1 + 1) L = true) (I2 : ib (t1.1 + 2) L = true) (I3 : ib (t1.1 + 3) L = true) (I4 : ib (t1.1 + 4) L = true) (I5 : ib (t1.1 + 5) L = true) : ∃ nw c s, R t0 nw c s ∧ ∀ K6, lwA21 NF L xs t1 K6 = K6 (nw, c, s, t1.2.2.2.2 + 1) := by
  obtain ⟨r, c, s, hx, hy, hR⟩ := op_image t0 t1.2.1 NF (by decide)  t1.2.2.1 t1.2.2.2.1 hr
  refine ⟨_, _, _, hR, fun K6 => ?_⟩
  unfold lwA21
  simp only [ck_t, bn_def, hx, hy, cl_some]
  rw [if_pos trivial]
theorem lw22 (t0 : MS) (h0 : T0OK t0) (L : Nat) (xs : Nat → Int32) (t1 : Int32 × Nat × CS × MS × Nat) (hr : R t0 t1.2.1 t1.2.2.1 t1.2.2.2.1) (I1 : ib (t1.1 + 1) L = true) (I2 : ib (t1.1 + 2) L = true) (I3 : ib (t1.1 + 3) L = true) (I4 : ib (t1.1 + 4) L = true) (I5 : ib (t1.1 + 5) L = true) : ∃ nw c s, R t0 nw c s ∧ ∀ K6, lwA22 NF L xs t1 K6 = K6 (nw, c, s, t1.2.2.2.2 + 1) := by
  obtain ⟨r, c, s, hx, hy, hR⟩ := op_back t0 t1.2.1 NF (by decide)  t1.2.2.1 t1.2.2.2.1 hr
  refine ⟨_, _, _, hR, fun K6 => ?_⟩
  unfold lwA22
  simp only [ck_t, bn_def, hx, hy, cl_some]
  rw [if_pos trivial]
theorem lw23 (t0 : MS) (h0 : T0OK t0) (L : Nat) (xs : Nat → Int32) (t1 : Int32 × Nat × CS × MS × Nat) (hr : R t0 t1.2.1 t1.2.2.1 t1.2.2.2.1) (I1 : ib (t1.1 + 1) L = true) (I2 : ib (t1.1 + 2) L = true) (I3 : ib (t1.1 + 3) L = true) (I4 : ib (t1.1 + 4) L = true) (I5 : ib (t1.1 + 5) L = true) : ∃ nw c s, R t0 nw c s ∧ ∀ K6, lwA23 NF L xs t1 K6 = K6 (nw, c, s, t1.2.2.2.2 + 1) := by
  obtain ⟨r, hx, hy⟩ := op_count t0 t1.2.1 NF (by decide) (xs (Int32.toNatClampNeg (t1.1 + 1))) t1.2.2.1 t1.2.2.2.1 hr
  refine ⟨_, _, _, hr, fun K6 => ?_⟩
  unfold lwA23
  simp only [I1, ck_t, bn_def, hx, hy, cl_some]
  rw [if_pos trivial]
theorem lw24 (t0 : MS) (h0 : T0OK t0) (L : Nat) (xs : Nat → Int32) (t1 : Int32 × Nat × CS × MS × Nat) (hr : R t0 t1.2.1 t1.2.2.1 t1.2.2.2.1) (I1 : ib (t1.1 + 1) L = true) (I2 : ib (t1.1 + 2) L = true) (I3 : ib (t1.1 + 3) L = true) (I4 : ib (t1.1 + 4) L = true) (I5 : ib (t1.1 + 5) L = true) : ∃ nw c s, R t0 nw c s ∧ ∀ K6, lwA24 NF L xs t1 K6 = K6 (nw, c, s, t1.2.2.2.2 + 1) := by
  obtain ⟨r, c, s, hx, hy, hR⟩ := op_sheet t0 t1.2.1 NF (by decide) (xs (Int32.toNatClampNeg (t1.1 + 1))) (xs (Int32.toNatClampNeg (t1.1 + 2))) (xs (Int32.toNatClampNeg (t1.1 + 3))) t1.2.2.1 t1.2.2.2.1 hr
  refine ⟨_, _, _, hR, fun K6 => ?_⟩
  unfold lwA24
  simp only [I1, I2, I3, ck_t, bn_def, hx, hy, cl_some]
  rw [if_pos trivial]
theorem lw25 (t0 : MS) (h0 : T0OK t0) (L : Nat) (xs : Nat → Int32) (t1 : Int32 × Nat × CS × MS × Nat) (hr : R t0 t1.2.1 t1.2.2.1 t1.2.2.2.1) (I1 : ib (t1.1 + 1) L = true) (I2 : ib (t1.1 + 2) L = true) (I3 : ib (t1.1 + 3) L = true) (I4 : ib (t1.1 + 4) L = true) (I5 : ib (t1.1 + 5) L = true) : ∃ nw c s, R t0 nw c s ∧ ∀ K6, lwA25 NF L xs t1 K6 = K6 (nw, c, s, t1.2.2.2.2 + 1) := by
  obtain ⟨r, c, s, hx, hy, hR⟩ := op_cell t0 t1.2.1 NF (xs (Int32.toNatClampNeg (t1.1 + 1))) (xs (Int32.toNatClampNeg (t1.1 + 2))) (xs (Int32.toNatClampNeg (t1.1 + 3))) t1.2.2.1 t1.2.2.2.1 hr
  refine ⟨_, _, _, hR, fun K6 => ?_⟩
  unfold lwA25
  simp only [I1, I2, I3, ck_t, bn_def, hx, hy, cl_some]
  rw [if_pos trivial]
theorem lw26 (t0 : MS) (h0 : T0OK t0) (L : Nat) (xs : Nat → Int32) (t1 : Int32 × Nat × CS × MS × Nat) (hr : R t0 t1.2.1 t1.2.2.1 t1.2.2.2.1) (I1 : ib (t1.1 + 1) L = true) (I2 : ib (t1.1 + 2) L = true) (I3 : ib (t1.1 + 3) L = true) (I4 : ib (t1.1 + 4) L = true) (I5 : ib (t1.1 + 5) L = true) : ∃ nw c s, R t0 nw c s ∧ ∀ K6, lwA26 NF L xs t1 K6 = K6 (nw, c, s, t1.2.2.2.2 + 1) := by
  obtain ⟨r, c, s, hx, hy, hR⟩ := op_copy t0 t1.2.1 NF (by decide) (xs (Int32.toNatClampNeg (t1.1 + 1))) (xs (Int32.toNatClampNeg (t1.1 + 2))) (xs (Int32.toNatClampNeg (t1.1 + 3))) (xs (Int32.toNatClampNeg (t1.1 + 4))) (xs (Int32.toNatClampNeg (t1.1 + 5))) t1.2.2.1 t1.2.2.2.1 hr
  refine ⟨_, _, _, hR, fun K6 => ?_⟩
  unfold lwA26
  simp only [I1, I2, I3, I4, I5, ck_t, bn_def, hx, hy, cl_some]
  rw [if_pos trivial]
theorem lw27 (t0 : MS) (h0 : T0OK t0) (L : Nat) (xs : Nat → Int32) (t1 : Int32 × Nat × CS × MS × Nat) (hr : R t0 t1.2.1 t1.2.2.1 t1.2.2.2.1) (I1 : ib (t1.1 + 1) L = true) (I2 : ib (t1.1 + 2) L = true) (I3 : ib (t1.1 + 3) L = true) (I4 : ib (t1.1 + 4) L = true) (I5 : ib (t1.1 + 5) L = true) : ∃ nw c s, R t0 nw c s ∧ ∀ K6, lwA27 NF L xs t1 K6 = K6 (nw, c, s, t1.2.2.2.2 + 1) := by
  obtain ⟨r, c, s, hx, hy, hR⟩ := op_sorts t0 t1.2.1 NF (by decide) (xs (Int32.toNatClampNeg (t1.1 + 1))) (xs (Int32.toNatClampNeg (t1.1 + 2))) (xs (Int32.toNatClampNeg (t1.1 + 3))) (xs (Int32.toNatClampNeg (t1.1 + 4))) t1.2.2.1 t1.2.2.2.1 hr
  refine ⟨_, _, _, hR, fun K6 => ?_⟩
  unfold lwA27
  simp only [I1, I2, I3, I4, ck_t, bn_def, hx, hy, cl_some]
  rw [if_pos trivial]
theorem lw28 (t0 : MS) (h0 : T0OK t0) (L : Nat) (xs : Nat → Int32) (t1 : Int32 × Nat × CS × MS × Nat) (hr : R t0 t1.2.1 t1.2.2.1 t1.2.2.2.1) (I1 : ib (t1.1 + 1) L = true) (I2 : ib (t1.1 + 2) L = true) (I3 : ib (t1.1 + 3) L = true) (I4 : ib (t1.1 + 4) L = true) (I5 : ib (t1.1 + 5) L = true) : ∃ nw c s, R t0 nw c s ∧ ∀ K6, lwA28 NF L xs t1 K6 = K6 (nw, c, s, t1.2.2.2.2 + 1) := by
  obtain ⟨r, hx, hy⟩ := op_taken t0 t1.2.1 (xs (Int32.toNatClampNeg (t1.1 + 1))) (xs (Int32.toNatClampNeg (t1.1 + 2))) t1.2.2.1 t1.2.2.2.1 hr
  refine ⟨_, _, _, hr, fun K6 => ?_⟩
  unfold lwA28
  simp only [I1, I2, ck_t, bn_def, hx, hy, cl_some]
  rw [if_pos trivial]
theorem lw_turn (t0 : MS) (h0 : T0OK t0) (L : Nat) (xs : Nat → Int32) (t1 : Int32 × Nat × CS × MS × Nat) (hr : R t0 t1.2.1 t1.2.2.1 t1.2.2.2.1) (I1 : ib (t1.1 + 1) L = true) (I2 : ib (t1.1 + 2) L = true) (I3 : ib (t1.1 + 3) L = true) (I4 : ib (t1.1 + 4) L = true) (I5 : ib (t1.1 + 5) L = true) (x4 : Int32) : ∃ nw c s, R t0 nw c s ∧ ∀ K6, lwJ NF L xs t1 K6 x4 = K6 (nw, c, s, t1.2.2.2.2 + 1) := by
  by_cases e0 : (x4 &&& 31) = 0
  · obtain ⟨nw, c, s, hR, h⟩ := lw0 t0 h0 L xs t1 hr I1 I2 I3 I4 I5
    refine ⟨nw, c, s, hR, fun K6 => ?_⟩
    unfold lwJ
    rw [if_pos e0]
    exact h K6
  by_cases e1 : (x4 &&& 31) = 1
  · obtain ⟨nw, c, s, hR, h⟩ := lw1 t0 h0 L xs t1 hr I1 I2 I3 I4 I5
    refine ⟨nw, c, s, hR, fun K6 => ?_⟩
    unfold lwJ
    rw [if_neg e0, if_pos e1]
    exact h K6
  by_cases e2 : (x4 &&& 31) = 2
  · obtain ⟨nw, c, s, hR, h⟩ := lw2 t0 h0 L xs t1 hr I1 I2 I3 I4 I5
    refine ⟨nw, c, s, hR, fun K6 => ?_⟩
    unfold lwJ
    rw [if_neg e0, if_neg e1, if_pos e2]
    exact h K6
  by_cases e3 : (x4 &&& 31) = 3
  · obtain ⟨nw, c, s, hR, h⟩ := lw3 t0 h0 L xs t1 hr I1 I2 I3 I4 I5
    refine ⟨nw, c, s, hR, fun K6 => ?_⟩
    unfold lwJ
    rw [if_neg e0, if_neg e1, if_neg e2, if_pos e3]
    exact h K6
  by_cases e4 : (x4 &&& 31) = 4
  · obtain ⟨nw, c, s, hR, h⟩ := lw4 t0 h0 L xs t1 hr I1 I2 I3 I4 I5
    refine ⟨nw, c, s, hR, fun K6 => ?_⟩
    unfold lwJ
    rw [if_neg e0, if_neg e1, if_neg e2, if_neg e3, if_pos e4]
    exact h K6
  by_cases e5 : (x4 &&& 31) = 5
  · obtain ⟨nw, c, s, hR, h⟩ := lw5 t0 h0 L xs t1 hr I1 I2 I3 I4 I5
    refine ⟨nw, c, s, hR, fun K6 => ?_⟩
    unfold lwJ
    rw [if_neg e0, if_neg e1, if_neg e2, if_neg e3, if_neg e4, if_pos e5]
    exact h K6
  by_cases e6 : (x4 &&& 31) = 6
  · obtain ⟨nw, c, s, hR, h⟩ := lw6 t0 h0 L xs t1 hr I1 I2 I3 I4 I5
    refine ⟨nw, c, s, hR, fun K6 => ?_⟩
    unfold lwJ
    rw [if_neg e0, if_neg e1, if_neg e2, if_neg e3, if_neg e4, if_neg e5, if_pos e6]
    exact h K6
  by_cases e7 : (x4 &&& 31) = 7
  · obtain ⟨nw, c, s, hR, h⟩ := lw7 t0 h0 L xs t1 hr I1 I2 I3 I4 I5
    refine ⟨nw, c, s, hR, fun K6 => ?_⟩
    unfold lwJ
    rw [if_neg e0, if_neg e1, if_neg e2, if_neg e3, if_neg e4, if_neg e5, if_neg e6, if_pos e7]
    exact h K6
  by_cases e8 : (x4 &&& 31) = 8
  · obtain ⟨nw, c, s, hR, h⟩ := lw8 t0 h0 L xs t1 hr I1 I2 I3 I4 I5
    refine ⟨nw, c, s, hR, fun K6 => ?_⟩
    unfold lwJ
    rw [if_neg e0, if_neg e1, if_neg e2, if_neg e3, if_neg e4, if_neg e5, if_neg e6, if_neg e7, if_pos e8]
    exact h K6
  by_cases e9 : (x4 &&& 31) = 9
  · obtain ⟨nw, c, s, hR, h⟩ := lw9 t0 h0 L xs t1 hr I1 I2 I3 I4 I5
    refine ⟨nw, c, s, hR, fun K6 => ?_⟩
    unfold lwJ
    rw [if_neg e0, if_neg e1, if_neg e2, if_neg e3, if_neg e4, if_neg e5, if_neg e6, if_neg e7, if_neg e8, if_pos e9]
    exact h K6
  by_cases e10 : (x4 &&& 31) = 10
  · obtain ⟨nw, c, s, hR, h⟩ := lw10 t0 h0 L xs t1 hr I1 I2 I3 I4 I5
    refine ⟨nw, c, s, hR, fun K6 => ?_⟩
    unfold lwJ
    rw [if_neg e0, if_neg e1, if_neg e2, if_neg e3, if_neg e4, if_neg e5, if_neg e6, if_neg e7, if_neg e8, if_neg e9, if_pos e10]
    exact h K6
  by_cases e11 : (x4 &&& 31) = 11
  · obtain ⟨nw, c, s, hR, h⟩ := lw11 t0 h0 L xs t1 hr I1 I2 I3 I4 I5
    refine ⟨nw, c, s, hR, fun K6 => ?_⟩
    unfold lwJ
    rw [if_neg e0, if_neg e1, if_neg e2, if_neg e3, if_neg e4, if_neg e5, if_neg e6, if_neg e7, if_neg e8, if_neg e9, if_neg e10, if_pos e11]
    exact h K6
  by_cases e12 : (x4 &&& 31) = 12
  · obtain ⟨nw, c, s, hR, h⟩ := lw12 t0 h0 L xs t1 hr I1 I2 I3 I4 I5
    refine ⟨nw, c, s, hR, fun K6 => ?_⟩
    unfold lwJ
    rw [if_neg e0, if_neg e1, if_neg e2, if_neg e3, if_neg e4, if_neg e5, if_neg e6, if_neg e7, if_neg e8, if_neg e9, if_neg e10, if_neg e11, if_pos e12]
    exact h K6
  by_cases e13 : (x4 &&& 31) = 13
  · obtain ⟨nw, c, s, hR, h⟩ := lw13 t0 h0 L xs t1 hr I1 I2 I3 I4 I5
    refine ⟨nw, c, s, hR, fun K6 => ?_⟩
    unfold lwJ
    rw [if_neg e0, if_neg e1, if_neg e2, if_neg e3, if_neg e4, if_neg e5, if_neg e6, if_neg e7, if_neg e8, if_neg e9, if_neg e10, if_neg e11, if_neg e12, if_pos e13]
    exact h K6
  by_cases e14 : (x4 &&& 31) = 14
  · obtain ⟨nw, c, s, hR, h⟩ := lw14 t0 h0 L xs t1 hr I1 I2 I3 I4 I5
    refine ⟨nw, c, s, hR, fun K6 => ?_⟩
    unfold lwJ
    rw [if_neg e0, if_neg e1, if_neg e2, if_neg e3, if_neg e4, if_neg e5, if_neg e6, if_neg e7, if_neg e8, if_neg e9, if_neg e10, if_neg e11, if_neg e12, if_neg e13, if_pos e14]
    exact h K6
  by_cases e15 : (x4 &&& 31) = 15
  · obtain ⟨nw, c, s, hR, h⟩ := lw15 t0 h0 L xs t1 hr I1 I2 I3 I4 I5
    refine ⟨nw, c, s, hR, fun K6 => ?_⟩
    unfold lwJ
    rw [if_neg e0, if_neg e1, if_neg e2, if_neg e3, if_neg e4, if_neg e5, if_neg e6, if_neg e7, if_neg e8, if_neg e9, if_neg e10, if_neg e11, if_neg e12, if_neg e13, if_neg e14, if_pos e15]
    exact h K6
  by_cases e16 : (x4 &&& 31) = 16
  · obtain ⟨nw, c, s, hR, h⟩ := lw16 t0 h0 L xs t1 hr I1 I2 I3 I4 I5
    refine ⟨nw, c, s, hR, fun K6 => ?_⟩
    unfold lwJ
    rw [if_neg e0, if_neg e1, if_neg e2, if_neg e3, if_neg e4, if_neg e5, if_neg e6, if_neg e7, if_neg e8, if_neg e9, if_neg e10, if_neg e11, if_neg e12, if_neg e13, if_neg e14, if_neg e15, if_pos e16]
    exact h K6
  by_cases e17 : (x4 &&& 31) = 17
  · obtain ⟨nw, c, s, hR, h⟩ := lw17 t0 h0 L xs t1 hr I1 I2 I3 I4 I5
    refine ⟨nw, c, s, hR, fun K6 => ?_⟩
    unfold lwJ
    rw [if_neg e0, if_neg e1, if_neg e2, if_neg e3, if_neg e4, if_neg e5, if_neg e6, if_neg e7, if_neg e8, if_neg e9, if_neg e10, if_neg e11, if_neg e12, if_neg e13, if_neg e14, if_neg e15, if_neg e16, if_pos e17]
    exact h K6
  by_cases e18 : (x4 &&& 31) = 18
  · obtain ⟨nw, c, s, hR, h⟩ := lw18 t0 h0 L xs t1 hr I1 I2 I3 I4 I5
    refine ⟨nw, c, s, hR, fun K6 => ?_⟩
    unfold lwJ
    rw [if_neg e0, if_neg e1, if_neg e2, if_neg e3, if_neg e4, if_neg e5, if_neg e6, if_neg e7, if_neg e8, if_neg e9, if_neg e10, if_neg e11, if_neg e12, if_neg e13, if_neg e14, if_neg e15, if_neg e16, if_neg e17, if_pos e18]
    exact h K6
  by_cases e19 : (x4 &&& 31) = 19
  · obtain ⟨nw, c, s, hR, h⟩ := lw19 t0 h0 L xs t1 hr I1 I2 I3 I4 I5
    refine ⟨nw, c, s, hR, fun K6 => ?_⟩
    unfold lwJ
    rw [if_neg e0, if_neg e1, if_neg e2, if_neg e3, if_neg e4, if_neg e5, if_neg e6, if_neg e7, if_neg e8, if_neg e9, if_neg e10, if_neg e11, if_neg e12, if_neg e13, if_neg e14, if_neg e15, if_neg e16, if_neg e17, if_neg e18, if_pos e19]
    exact h K6
  by_cases e20 : (x4 &&& 31) = 20
  · obtain ⟨nw, c, s, hR, h⟩ := lw20 t0 h0 L xs t1 hr I1 I2 I3 I4 I5
    refine ⟨nw, c, s, hR, fun K6 => ?_⟩
    unfold lwJ
    rw [if_neg e0, if_neg e1, if_neg e2, if_neg e3, if_neg e4, if_neg e5, if_neg e6, if_neg e7, if_neg e8, if_neg e9, if_neg e10, if_neg e11, if_neg e12, if_neg e13, if_neg e14, if_neg e15, if_neg e16, if_neg e17, if_neg e18, if_neg e19, if_pos e20]
    exact h K6
  by_cases e21 : (x4 &&& 31) = 21
  · obtain ⟨nw, c, s, hR, h⟩ := lw21 t0 h0 L xs t1 hr I1 I2 I3 I4 I5
    refine ⟨nw, c, s, hR, fun K6 => ?_⟩
    unfold lwJ
    rw [if_neg e0, if_neg e1, if_neg e2, if_neg e3, if_neg e4, if_neg e5, if_neg e6, if_neg e7, if_neg e8, if_neg e9, if_neg e10, if_neg e11, if_neg e12, if_neg e13, if_neg e14, if_neg e15, if_neg e16, if_neg e17, if_neg e18, if_neg e19, if_neg e20, if_pos e21]
    exact h K6
  by_cases e22 : (x4 &&& 31) = 22
  · obtain ⟨nw, c, s, hR, h⟩ := lw22 t0 h0 L xs t1 hr I1 I2 I3 I4 I5
    refine ⟨nw, c, s, hR, fun K6 => ?_⟩
    unfold lwJ
    rw [if_neg e0, if_neg e1, if_neg e2, if_neg e3, if_neg e4, if_neg e5, if_neg e6, if_neg e7, if_neg e8, if_neg e9, if_neg e10, if_neg e11, if_neg e12, if_neg e13, if_neg e14, if_neg e15, if_neg e16, if_neg e17, if_neg e18, if_neg e19, if_neg e20, if_neg e21, if_pos e22]
    exact h K6
  by_cases e23 : (x4 &&& 31) = 23
  · obtain ⟨nw, c, s, hR, h⟩ := lw23 t0 h0 L xs t1 hr I1 I2 I3 I4 I5
    refine ⟨nw, c, s, hR, fun K6 => ?_⟩
    unfold lwJ
    rw [if_neg e0, if_neg e1, if_neg e2, if_neg e3, if_neg e4, if_neg e5, if_neg e6, if_neg e7, if_neg e8, if_neg e9, if_neg e10, if_neg e11, if_neg e12, if_neg e13, if_neg e14, if_neg e15, if_neg e16, if_neg e17, if_neg e18, if_neg e19, if_neg e20, if_neg e21, if_neg e22, if_pos e23]
    exact h K6
  by_cases e24 : (x4 &&& 31) = 24
  · obtain ⟨nw, c, s, hR, h⟩ := lw24 t0 h0 L xs t1 hr I1 I2 I3 I4 I5
    refine ⟨nw, c, s, hR, fun K6 => ?_⟩
    unfold lwJ
    rw [if_neg e0, if_neg e1, if_neg e2, if_neg e3, if_neg e4, if_neg e5, if_neg e6, if_neg e7, if_neg e8, if_neg e9, if_neg e10, if_neg e11, if_neg e12, if_neg e13, if_neg e14, if_neg e15, if_neg e16, if_neg e17, if_neg e18, if_neg e19, if_neg e20, if_neg e21, if_neg e22, if_neg e23, if_pos e24]
    exact h K6
  by_cases e25 : (x4 &&& 31) = 25
  · obtain ⟨nw, c, s, hR, h⟩ := lw25 t0 h0 L xs t1 hr I1 I2 I3 I4 I5
    refine ⟨nw, c, s, hR, fun K6 => ?_⟩
    unfold lwJ
    rw [if_neg e0, if_neg e1, if_neg e2, if_neg e3, if_neg e4, if_neg e5, if_neg e6, if_neg e7, if_neg e8, if_neg e9, if_neg e10, if_neg e11, if_neg e12, if_neg e13, if_neg e14, if_neg e15, if_neg e16, if_neg e17, if_neg e18, if_neg e19, if_neg e20, if_neg e21, if_neg e22, if_neg e23, if_neg e24, if_pos e25]
    exact h K6
  by_cases e26 : (x4 &&& 31) = 26
  · obtain ⟨nw, c, s, hR, h⟩ := lw26 t0 h0 L xs t1 hr I1 I2 I3 I4 I5
    refine ⟨nw, c, s, hR, fun K6 => ?_⟩
    unfold lwJ
    rw [if_neg e0, if_neg e1, if_neg e2, if_neg e3, if_neg e4, if_neg e5, if_neg e6, if_neg e7, if_neg e8, if_neg e9, if_neg e10, if_neg e11, if_neg e12, if_neg e13, if_neg e14, if_neg e15, if_neg e16, if_neg e17, if_neg e18, if_neg e19, if_neg e20, if_neg e21, if_neg e22, if_neg e23, if_neg e24, if_neg e25, if_pos e26]
    exact h K6
  by_cases e27 : (x4 &&& 31) = 27
  · obtain ⟨nw, c, s, hR, h⟩ := lw27 t0 h0 L xs t1 hr I1 I2 I3 I4 I5
    refine ⟨nw, c, s, hR, fun K6 => ?_⟩
    unfold lwJ
    rw [if_neg e0, if_neg e1, if_neg e2, if_neg e3, if_neg e4, if_neg e5, if_neg e6, if_neg e7, if_neg e8, if_neg e9, if_neg e10, if_neg e11, if_neg e12, if_neg e13, if_neg e14, if_neg e15, if_neg e16, if_neg e17, if_neg e18, if_neg e19, if_neg e20, if_neg e21, if_neg e22, if_neg e23, if_neg e24, if_neg e25, if_neg e26, if_pos e27]
    exact h K6
  by_cases e28 : (x4 &&& 31) = 28
  · obtain ⟨nw, c, s, hR, h⟩ := lw28 t0 h0 L xs t1 hr I1 I2 I3 I4 I5
    refine ⟨nw, c, s, hR, fun K6 => ?_⟩
    unfold lwJ
    rw [if_neg e0, if_neg e1, if_neg e2, if_neg e3, if_neg e4, if_neg e5, if_neg e6, if_neg e7, if_neg e8, if_neg e9, if_neg e10, if_neg e11, if_neg e12, if_neg e13, if_neg e14, if_neg e15, if_neg e16, if_neg e17, if_neg e18, if_neg e19, if_neg e20, if_neg e21, if_neg e22, if_neg e23, if_neg e24, if_neg e25, if_neg e26, if_neg e27, if_pos e28]
    exact h K6
  refine ⟨_, _, _, hr, fun K6 => ?_⟩
  unfold lwJ
  rw [if_neg e0, if_neg e1, if_neg e2, if_neg e3, if_neg e4, if_neg e5, if_neg e6, if_neg e7, if_neg e8, if_neg e9, if_neg e10, if_neg e11, if_neg e12, if_neg e13, if_neg e14, if_neg e15, if_neg e16, if_neg e17, if_neg e18, if_neg e19, if_neg e20, if_neg e21, if_neg e22, if_neg e23, if_neg e24, if_neg e25, if_neg e26, if_neg e27, if_neg e28]
