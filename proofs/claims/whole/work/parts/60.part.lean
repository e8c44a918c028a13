def rd4 (n : Nat) : ((Int32 × MS × MS) → Option (Int32 × MS × MS)) → (Int32 × MS × MS) → Option (Int32 × MS × MS) := fun K6 (t5 : Int32 × MS × MS) =>
  if 3 ≤ t5.1 then (
    cl (f_X5_close n t5.2.2) fun q8 =>
    cl (f_X4_expect n 1 t5.2.1) fun q9 =>
    some ((q9.1 5), q9, q8))
  else (
    cl (f_X4_expect n (270 + t5.1) t5.2.1) fun q10 =>
    cl (f_X5_begin n t5.1 t5.2.2) fun q11 =>
    cl (f_X4_readOr n 0 q10 q11) fun q12 =>
    cl (f_X4_expect n 59 q12.1) fun q13 =>
    K6 ((t5.1 + 1), q13, q12.2))
def tx8 (n : Nat) : ((Int32 × MS) → Option (Int32 × MS)) → (Int32 × MS) → Option (Int32 × MS) := fun K8 (t7 : Int32 × MS) =>
  jn (fun (t9 : Unit) =>
    jn (fun (t11 : MS) =>
      bn (sp t11 20 0) fun z13 =>
      if (z13.1 27) < 0 then (
        lp (fun K16 (t15 : Int32 × MS) =>
          if (t15.2.1 26) ≤ t15.1 then (
            lp (fun K19 (t18 : Int32 × MS) =>
              if 3 ≤ t18.1 then (
                bn (sp t18.2 21 ((t18.2.1 21) + 1)) fun z21 =>
                some (((z21.1 21) - 1), z21))
              else (
                ck (ib (18 + t18.1) 21) <| bn (t18.2.2 25 (Int32.toNatClampNeg (18 + t18.1))) fun x22 =>
                ck (ib ((3 * (t18.2.1 21)) + t18.1) 21) <| bn (ap t18.2 25 (Int32.toNatClampNeg ((3 * (t18.2.1 21)) + t18.1)) x22) fun z23 =>
                K19 ((t18.1 + 1), z23))) n (0, t15.2))
          else (
            ck (ib (1020 + t15.1) 1190) <| bn (t15.2.2 23 (Int32.toNatClampNeg (1020 + t15.1))) fun x24 =>
            ck (ib ((170 * (t15.2.1 21)) + t15.1) 1190) <| bn (ap t15.2 23 (Int32.toNatClampNeg ((170 * (t15.2.1 21)) + t15.1)) x24) fun z25 =>
            ck (ib (1020 + t15.1) 1190) <| bn (z25.2 24 (Int32.toNatClampNeg (1020 + t15.1))) fun x26 =>
            ck (ib ((170 * (z25.1 21)) + t15.1) 1190) <| bn (ap z25 24 (Int32.toNatClampNeg ((170 * (z25.1 21)) + t15.1)) x26) fun z27 =>
            K16 ((t15.1 + 1), z27))) n (0, z13))
      else (
        some (((-100) - (z13.1 27)), z13))) fun K12 =>
    if 0 ≤ (t7.2.1 27) then (
      K12 t7.2)
    else (
      if (t7.2.1 31) = 4 then (
        K12 t7.2)
      else (
        cl (f_X8_faulty n t7.2) fun q30 =>
        K12 q30))) fun K10 =>
  if 2 < t7.1 then (
    K10 ())
  else (
    if 0 ≤ (t7.2.1 27) then (
      K10 ())
    else (
      cl (f_X8_rule n t7.1 t7.2) fun q33 =>
      K8 ((t7.1 + 1), q33)))
def cp8 (n : Nat) : ((Int32 × MS) → Option (Int32 × MS)) → (Int32 × MS) → Option (Int32 × MS) := fun K16 (t15 : Int32 × MS) =>
  if (t15.2.1 26) ≤ t15.1 then (
    lp (fun K19 (t18 : Int32 × MS) =>
      if 3 ≤ t18.1 then (
        bn (sp t18.2 21 ((t18.2.1 21) + 1)) fun z21 =>
        some (((z21.1 21) - 1), z21))
      else (
        ck (ib (18 + t18.1) 21) <| bn (t18.2.2 25 (Int32.toNatClampNeg (18 + t18.1))) fun x22 =>
        ck (ib ((3 * (t18.2.1 21)) + t18.1) 21) <| bn (ap t18.2 25 (Int32.toNatClampNeg ((3 * (t18.2.1 21)) + t18.1)) x22) fun z23 =>
        K19 ((t18.1 + 1), z23))) n (0, t15.2))
  else (
    ck (ib (1020 + t15.1) 1190) <| bn (t15.2.2 23 (Int32.toNatClampNeg (1020 + t15.1))) fun x24 =>
    ck (ib ((170 * (t15.2.1 21)) + t15.1) 1190) <| bn (ap t15.2 23 (Int32.toNatClampNeg ((170 * (t15.2.1 21)) + t15.1)) x24) fun z25 =>
    ck (ib (1020 + t15.1) 1190) <| bn (z25.2 24 (Int32.toNatClampNeg (1020 + t15.1))) fun x26 =>
    ck (ib ((170 * (z25.1 21)) + t15.1) 1190) <| bn (ap z25 24 (Int32.toNatClampNeg ((170 * (z25.1 21)) + t15.1)) x26) fun z27 =>
    K16 ((t15.1 + 1), z27))
def ce8 (n : Nat) : ((Int32 × MS) → Option (Int32 × MS)) → (Int32 × MS) → Option (Int32 × MS) := fun K19 (t18 : Int32 × MS) =>
  if 3 ≤ t18.1 then (
    bn (sp t18.2 21 ((t18.2.1 21) + 1)) fun z21 =>
    some (((z21.1 21) - 1), z21))
  else (
    ck (ib (18 + t18.1) 21) <| bn (t18.2.2 25 (Int32.toNatClampNeg (18 + t18.1))) fun x22 =>
    ck (ib ((3 * (t18.2.1 21)) + t18.1) 21) <| bn (ap t18.2 25 (Int32.toNatClampNeg ((3 * (t18.2.1 21)) + t18.1)) x22) fun z23 =>
    K19 ((t18.1 + 1), z23))
def fi8 (n : Nat) (t11 : MS) : Option (Int32 × MS) :=
  bn (sp t11 20 0) fun z13 =>
  if (z13.1 27) < 0 then (
    lp (fun K16 (t15 : Int32 × MS) =>
      if (t15.2.1 26) ≤ t15.1 then (
        lp (fun K19 (t18 : Int32 × MS) =>
          if 3 ≤ t18.1 then (
            bn (sp t18.2 21 ((t18.2.1 21) + 1)) fun z21 =>
            some (((z21.1 21) - 1), z21))
          else (
            ck (ib (18 + t18.1) 21) <| bn (t18.2.2 25 (Int32.toNatClampNeg (18 + t18.1))) fun x22 =>
            ck (ib ((3 * (t18.2.1 21)) + t18.1) 21) <| bn (ap t18.2 25 (Int32.toNatClampNeg ((3 * (t18.2.1 21)) + t18.1)) x22) fun z23 =>
            K19 ((t18.1 + 1), z23))) n (0, t15.2))
      else (
        ck (ib (1020 + t15.1) 1190) <| bn (t15.2.2 23 (Int32.toNatClampNeg (1020 + t15.1))) fun x24 =>
        ck (ib ((170 * (t15.2.1 21)) + t15.1) 1190) <| bn (ap t15.2 23 (Int32.toNatClampNeg ((170 * (t15.2.1 21)) + t15.1)) x24) fun z25 =>
        ck (ib (1020 + t15.1) 1190) <| bn (z25.2 24 (Int32.toNatClampNeg (1020 + t15.1))) fun x26 =>
        ck (ib ((170 * (z25.1 21)) + t15.1) 1190) <| bn (ap z25 24 (Int32.toNatClampNeg ((170 * (z25.1 21)) + t15.1)) x26) fun z27 =>
        K16 ((t15.1 + 1), z27))) n (0, z13))
  else (
    some (((-100) - (z13.1 27)), z13))
/-- so far read: k parts whole -/
def LVK (k : Nat) (P T s : MS) (Z p : Nat) (e : Nat → Nat) : Prop := LIVE P T s Z p (e k) 0 ∧ e 0 = 0 ∧ ∀ j, j < k → T.2 1 j = nI (e j) ∧ s.2 25 (18 + j) = nI (e (j + 1)) ∧ e j ≤ e (j + 1) ∧ e (j + 1) ≤ e k ∧ dp (T.2 0) (e j) (e (j + 1) - e j) = some 1
/-- what the reference keeps while a text is read -/
def KP (s s' : MS) : Prop := (∀ k, k < 26 ∨ 32 < k → s'.1 k = s.1 k) ∧ (∀ k, k ≠ 23 → k ≠ 24 → k ≠ 25 → s'.2 k = s.2 k) ∧ (∀ u, u < 1020 → s'.2 23 u = s.2 23 u ∧ s'.2 24 u = s.2 24 u) ∧ ∀ u, u < 18 → s'.2 25 u = s.2 25 u
theorem KP_rf (s : MS) : KP s s := ⟨fun _ _ => rfl, fun _ _ _ _ => rfl, fun _ _ => ⟨rfl, rfl⟩, fun _ _ => rfl⟩
theorem KP_tr {s t u : MS} (h : KP s t) (g : KP t u) : KP s u := by
  obtain ⟨a1, a2, a3, a4⟩ := h
  obtain ⟨b1, b2, b3, b4⟩ := g
  exact ⟨fun k hk => (b1 k hk).trans (a1 k hk), fun k h1 h2 h3 => (b2 k h1 h2 h3).trans (a2 k h1 h2 h3), fun v hv => ⟨(b3 v hv).1.trans (a3 v hv).1, (b3 v hv).2.trans (a3 v hv).2⟩, fun v hv => (b4 v hv).trans (a4 v hv)⟩
theorem KP_fr {P T s P' T' s' : MS} (h : FR P T s P' T' s') : KP s s' := by
  obtain ⟨-, -, -, a4, a5, a6, -⟩ := h
  exact ⟨a4, fun k h1 h2 _ => a5 k h1 h2, a6, fun u _ => by rw [a5 25 (by decide) (by decide)]⟩
theorem c_begin (n : Nat) (k : Nat) (hk : k < 4) (T : MS) : f_X5_begin n (nI k) T = some (ap T 1 k (T.1 3)) := by
  unfold f_X5_begin
  rw [ib_j hk (by omega), ck_t, bn_def, nI_clamp (by omega)]
/-- behind a fault the class reads on, and finds nothing -/
theorem c_deadpart (n : Nat) (hn : 170 ≤ n) (k : Nat) (hk : k < 3) (P T s : MS) (Z p L : Nat) (hd : DEAD P s Z p L) (hT : IR (T.1 3) 0 160) : ∃ P' T', (∀ self : (Int32 × MS × MS) → Option (Int32 × MS × MS), rd4 n self (nI k, P, T) = self (nI (k + 1), P', T')) ∧ DEAD P' s Z p L ∧ IR (T'.1 3) 0 160 := by
  obtain ⟨u1, u2, u3⟩ := DEAD_refuse n hd
  obtain ⟨v1, v2⟩ := dead_both n (by omega) (sp P 3 0) (ap T 1 k (T.1 3)) s Z p L u3 64 0 0 (by omega) (by omega)
  rw [sp_sp] at v1
  obtain ⟨w1, w2, w3⟩ := DEAD_refuse n u3
  rw [sp_sp] at w1 w3
  have hne : ¬ P.1 3 = 270 + nI k := by
    rw [hd.2.2.1, show (270 : Int32) = nI 270 from rfl, nI_ad, eq_i, nI_toInt (by omega), show (0 : Int32).toInt = 0 by decide]
    omega
  refine ⟨sp P 3 0, ap T 1 k (T.1 3), fun self => ?_, u3, by rw [ap1]; exact hT⟩
  unfold rd4
  dsimp only
  rw [if_neg (lge 3 3 rfl hk (by omega))]
  unfold f_X4_expect
  rw [if_neg hne, u1, cl_some, cl_some, c_begin n k (by omega), cl_some]
  show (cl (f_grp4 n 64 0 0 (sp P 3 0) (ap T 1 k (T.1 3))) fun q12 => cl (if q12.1.1 3 = 59 then _ else cl (f_X4_refuse n q12.1) fun q2 => some q2) fun q13 => self (nI k + 1, q13, q12.2)) = _
  rw [v1, cl_some]
  dsimp only
  rw [show (sp P 3 0).1 3 = 0 by rw [sp1, if_pos rfl], if_neg (by decide), w1, cl_some, cl_some, nI_succ]
/-- one part -/
theorem part_both (n : Nat) (hn : 170 ≤ n) (k : Nat) (hk : k < 3) (P T s : MS) (Z p : Nat) (e : Nat → Nat) (hc : RPC P T s Z) (h : LVK k P T s Z p e) : ∃ P' T' s', (∀ self : (Int32 × MS × MS) → Option (Int32 × MS × MS), rd4 n self (nI k, P, T) = self (nI (k + 1), P', T')) ∧ f_X8_rule n (nI k) s = some s' ∧ KP s s' ∧ IR (T'.1 3) 0 160 ∧ ((∃ p' e', LVK (k + 1) P' T' s' Z p' e' ∧ RPC P' T' s' Z) ∨ ∃ p' L', DEAD P' s' Z p' L') := by
  obtain ⟨hl, he0, hparts⟩ := h
  have hl0 := hl.1
  have tk := TKL_tk hl0.2.2.1
  have h27 : s.1 27 = -1 := hl0.2.1
  have hZ := hc.1.2.2.1
  have hk3 : ¬ (3 : Int32) ≤ nI k := lge 3 3 rfl hk (by omega)
  have ek : (270 : Int32) + nI k = tkO (6 + k) ∧ (10 : Int32) + nI k = mnO (6 + k) := by
    have : k = 0 ∨ k = 1 ∨ k = 2 := by omega
    rcases this with rfl | rfl | rfl <;> decide
  have dead1 : ∀ (P1 T1 s1 : MS) (p1 L1 : Nat), DEAD P1 s1 Z p1 L1 → IR (T1.1 3) 0 160 → ∃ P' T', (cl (f_X4_readOr n 0 P1 T1) fun q12 => cl (f_X4_expect n 59 q12.1) fun q13 => some (q13, q12.2)) = some (P', T') ∧ DEAD P' s1 Z p1 L1 ∧ T' = T1 := by
    intro P1 T1 s1 p1 L1 hd hT
    obtain ⟨v1, v2⟩ := dead_both n (by omega) P1 T1 s1 Z p1 L1 hd 64 0 0 (by omega) (by omega)
    obtain ⟨u1, u2, u3⟩ := DEAD_refuse n hd
    obtain ⟨w1, w2, w3⟩ := DEAD_refuse n u3
    rw [sp_sp] at w1 w3
    refine ⟨sp P1 3 0, T1, ?_, u3, rfl⟩
    show (cl (f_grp4 n 64 0 0 P1 T1) fun q12 => cl (f_X4_expect n 59 q12.1) fun q13 => some (q13, q12.2)) = _
    rw [v1, cl_some]
    unfold f_X4_expect
    dsimp only
    rw [show (sp P1 3 0).1 3 = 0 by rw [sp1, if_pos rfl], if_neg (by decide), w1, cl_some, cl_some]
  have un4 : ∀ self : (Int32 × MS × MS) → Option (Int32 × MS × MS), rd4 n self (nI k, P, T) = cl (f_X4_expect n (270 + nI k) P) fun q10 => cl (cl (f_X4_readOr n 0 q10 (ap T 1 k (T.1 3))) fun q12 => cl (f_X4_expect n 59 q12.1) fun q13 => some (q13, q12.2)) fun r => self (nI k + 1, r.1, r.2) := by
    intro self
    unfold rd4
    dsimp only
    rw [if_neg hk3, c_begin n k (by omega)]
    cases f_X4_expect n (270 + nI k) P with
    | none => rfl
    | some q10 =>
      rw [cl_some, cl_some, cl_some]
      cases f_X4_readOr n 0 q10 (ap T 1 k (T.1 3)) with
      | none => rfl
      | some q12 =>
        rw [cl_some, cl_some]
        cases f_X4_expect n 59 q12.1 with
        | none => rfl
        | some q13 => rfl
  have fin : ∀ (q10 P' T' s' : MS), f_X4_expect n (270 + nI k) P = some q10 → (cl (f_X4_readOr n 0 q10 (ap T 1 k (T.1 3))) fun q12 => cl (f_X4_expect n 59 q12.1) fun q13 => some (q13, q12.2)) = some (P', T') → ∀ self : (Int32 × MS × MS) → Option (Int32 × MS × MS), rd4 n self (nI k, P, T) = self (nI (k + 1), P', T') := by
    intro q10 P' T' s' h1 h2 self
    rw [un4, h1, cl_some, h2, cl_some, nI_succ]
  have unr : f_X8_rule n (nI k) s = (if ¬ (s.1 27 < 0 ∧ s.1 31 = 1 ∧ s.1 32 = 10 + nI k) then (cl (f_X8_faulty n s) fun q10 => some q10) else (cl (f_X8_next n s) fun q3 => cl (f_X8_either n q3) fun q4 => if ¬ (q4.1 27 < 0 ∧ q4.1 31 = 3 ∧ q4.1 32 = 59) then (cl (f_X8_faulty n q4) fun q9 => some q9) else (cl (f_X8_next n q4) fun q7 => ck (ib (18 + nI k) 21) <| bn (ap q7 25 (Int32.toNatClampNeg (18 + nI k)) (q7.1 26)) fun z8 => some z8))) := by
    unfold f_X8_rule
    simp only [m_isKey, m_isSign, cl_some, bo_0]
  have sk : (s.1 27 < 0 ∧ s.1 31 = 1 ∧ s.1 32 = 10 + nI k) = (P.1 3 = 270 + nI k) := by
    rw [ek.1, ek.2, tk_key tk (6 + k) (by omega), h27]; exact propext ⟨fun q => q.2, fun q => ⟨by decide, q⟩⟩
  rw [unr]
  simp only [sk]
  by_cases h1 : P.1 3 = 270 + nI k
  case neg =>
    obtain ⟨P1, s1, u1, u2, u3, u4⟩ := LIVE_refuse n hc hl
    obtain ⟨P', T', d1, d2, d3⟩ := dead1 P1 (ap T 1 k (T.1 3)) s1 p (e k) u3 (by rw [ap1]; exact hc.2.2.2)
    refine ⟨P', T', s1, fin P1 P' T' s1 (by unfold f_X4_expect; rw [if_neg h1, u1, cl_some]) d1, by rw [ite_not_f h1, u2, cl_some], KP_fr u4, by rw [d3, ap1]; exact hc.2.2.2, Or.inr ⟨p, e k, d2⟩⟩
  have hne1 : ¬ P.1 3 = 1 := by
    rw [h1, show (270 : Int32) = nI 270 from rfl, nI_ad, eq_i, nI_toInt (by omega), show (1 : Int32).toInt = 1 by decide]; omega
  obtain ⟨P1, s1, p1, u1, u2, u3, u4, u5⟩ := LIVE_next n hn hc hl0 (by have := hl.2; omega) hne1
  have hx1 : f_X4_expect n (270 + nI k) P = some P1 := by unfold f_X4_expect; rw [if_pos h1, u1, cl_some]
  rw [ite_not_t h1, u2, cl_some]
  have hc1 := RPC_fr hc u5
  -- the part's begin
  have frT : FR P1 T s1 P1 T s1 := FR_rf hc1.2.2.2
  have hcB : RPC P1 (ap T 1 k (T.1 3)) s1 Z := ⟨hc1.1, hc1.2.1, hc1.2.2.1, by rw [ap1]; exact hc1.2.2.2⟩
  have hT0 : (ap T 1 k (T.1 3)).2 0 = T.2 0 := by funext v; rw [ap2, if_neg (by decide)]
  have hlB : LIVE P1 (ap T 1 k (T.1 3)) s1 Z p1 (e k) 0 := by
    obtain ⟨⟨l1, l2, l3, l4, l5, l7, l8⟩, l6⟩ := u3
    exact ⟨⟨l1, l2, l3, by rw [ap1]; exact l4, l5, l7, by rw [hT0]; exact l8⟩, l6⟩
  obtain ⟨P2, T2, s2, r1, r2, hF, r3⟩ := (grp_both n hn 64 0 0 (by omega) (by omega) (by omega)).1 P1 (ap T 1 k (T.1 3)) s1 Z p1 (e k) hcB hlB
  have hc2 := RPC_fr hcB hF
  have r1 : f_X4_readOr n 0 P1 (ap T 1 k (T.1 3)) = some (P2, T2) := r1
  have r2 : f_X8_either n s1 = some s2 := r2
  have kp2 : KP s s2 := KP_tr (KP_fr u5) (KP_fr hF)
  rw [r2, cl_some]
  rcases r3 with ⟨p2, L2, hl2, hp2, hpr⟩ | ⟨p2, L2, hd2, hp2, hs2⟩
  · have tk2 := TKL_tk hl2.1.2.2.1
    have h272 : s2.1 27 = -1 := hl2.1.2.1
    have s59 : (s2.1 27 < 0 ∧ s2.1 31 = 3 ∧ s2.1 32 = 59) = (P2.1 3 = 59) := by
      rw [tk_sign tk2 (by decide), h272]; exact propext ⟨fun q => q.2, fun q => ⟨by decide, q⟩⟩
    simp only [s59]
    by_cases h59 : P2.1 3 = 59
    · obtain ⟨P3, s3, p3, w1, w2, w3, w4, w5⟩ := LIVE_next n hn hc2 hl2.1 (by have := hl2.2; omega) (by rw [h59]; decide)
      have e18 : (18 : Int32) + nI k = nI (18 + k) := by rw [show (18 : Int32) = nI 18 from rfl, nI_ad]
      rw [ite_not_t h59, w2, cl_some, e18, ib_j (by omega) (by omega), ck_t, bn_def, nI_clamp (by omega)]
      have hc3 := RPC_fr hc2 w5
      obtain ⟨⟨l1, l2, l3, l4, l5, l7, l8⟩, l6⟩ := w3
      obtain ⟨q1, q2, q3, q4, q5⟩ := hpr
      have q4' : ∀ j, j < e k → T2.2 0 j = T.2 0 j := fun j hj => by rw [q4 j hj, hT0]
      have hT21 : ∀ j, T2.2 1 j = if j = k then nI (e k) else T.2 1 j := fun j => by
        rw [hF.2.2.1, ap2, if_pos rfl, hl0.2.2.2.1]
      have s325 : ∀ u, s3.2 25 u = s.2 25 u := fun u => by
        rw [w5.2.2.2.2.1 25 (by decide) (by decide), hF.2.2.2.2.1 25 (by decide) (by decide), u5.2.2.2.2.1 25 (by decide) (by decide)]
      have hd : dp (T2.2 0) (e k) (L2 - e k) = some 1 := by
        have := q5 (e k) 0 (Nat.le_refl _) (by rw [Nat.sub_self]; rfl)
        exact this
      refine ⟨P3, T2, ap s3 25 (18 + k) (s3.1 26), fin P1 P3 T2 s3 hx1 ?_, rfl, KP_tr kp2 (KP_tr (KP_fr w5) ⟨fun _ _ => rfl, fun j h1 h2 h3 => ?_, fun u hu => ⟨?_, ?_⟩, fun u hu => ?_⟩), hc2.2.2.2, Or.inl ⟨p3, fun j => if j = k + 1 then L2 else e j, ⟨⟨⟨l1, l2, ?_, ?_, ?_, l7, ?_⟩, ?_⟩, ?_, ?_⟩, ?_⟩⟩
      · rw [r1, cl_some]
        unfold f_X4_expect
        dsimp only
        rw [if_pos h59, w1, cl_some, cl_some]
      · funext v; rw [ap2, if_neg h3]
      · rw [ap2, if_neg (by decide)]
      · rw [ap2, if_neg (by decide)]
      · rw [ap2, if_pos rfl, if_neg (by omega)]
      · exact l3
      · show T2.1 3 = nI (if k + 1 = k + 1 then L2 else e (k + 1)); rw [if_pos rfl]; exact l4
      · show s3.1 26 = nI (if k + 1 = k + 1 then L2 else e (k + 1)); rw [if_pos rfl]; exact l5
      · intro j hj
        have hj : j < (if k + 1 = k + 1 then L2 else e (k + 1)) := hj
        rw [if_pos rfl] at hj
        rw [ap2, if_neg (by decide), ap2, if_neg (by decide)]
        exact l8 j hj
      · show (if k + 1 = k + 1 then L2 else e (k + 1)) ≤ p3; rw [if_pos rfl]; exact l6
      · show (if 0 = k + 1 then L2 else e 0) = 0; rw [if_neg (by omega)]; exact he0
      · intro j hj
        show T2.2 1 j = nI (if j = k + 1 then L2 else e j) ∧ (ap s3 25 (18 + k) (s3.1 26)).2 25 (18 + j) = nI (if j + 1 = k + 1 then L2 else e (j + 1)) ∧ (if j = k + 1 then L2 else e j) ≤ (if j + 1 = k + 1 then L2 else e (j + 1)) ∧ (if j + 1 = k + 1 then L2 else e (j + 1)) ≤ (if k + 1 = k + 1 then L2 else e (k + 1)) ∧ dp (T2.2 0) (if j = k + 1 then L2 else e j) ((if j + 1 = k + 1 then L2 else e (j + 1)) - (if j = k + 1 then L2 else e j)) = some 1
        rw [if_neg (by omega : ¬ j = k + 1), if_pos (rfl : k + 1 = k + 1), hT21, ap2, if_pos rfl]
        by_cases ej : j = k
        · subst ej
          rw [if_pos rfl, if_pos rfl, if_pos rfl]
          exact ⟨rfl, l5, q1, Nat.le_refl _, hd⟩
        · obtain ⟨g1, g2, g3, g4, g5⟩ := hparts j (by omega)
          rw [if_neg ej, if_neg (by omega), if_neg (by omega), s325]
          refine ⟨g1, g2, g3, by omega, ?_⟩
          rw [dp_congr (g := T.2 0) _ (fun i hi => q4' _ (by omega))]
          exact g5
      · exact ⟨⟨hc3.1.1, hc3.1.2.1, hc3.1.2.2.1, fun i hi => by rw [ap2, if_neg (by decide)]; exact hc3.1.2.2.2 i hi⟩, by funext v; rw [ap2, if_neg (by decide), hc3.2.1], by funext v; rw [ap2, if_neg (by decide), hc3.2.2.1], hc3.2.2.2⟩
    · obtain ⟨P3, s3, w1, w2, w3, w4⟩ := LIVE_refuse n hc2 hl2
      rw [ite_not_f h59, w2, cl_some]
      refine ⟨P3, T2, s3, fin P1 P3 T2 s3 hx1 ?_, rfl, KP_tr kp2 (KP_fr w4), hc2.2.2.2, Or.inr ⟨p2, L2, w3⟩⟩
      rw [r1, cl_some]
      unfold f_X4_expect
      dsimp only
      rw [if_neg h59, w1, cl_some, cl_some]
  · have no : ¬ (s2.1 27 < 0 ∧ s2.1 31 = 3 ∧ s2.1 32 = 59) := fun q => by
      have := q.1
      rw [lt_i, show (0 : Int32).toInt = 0 by decide] at this
      have := hd2.2.1
      omega
    obtain ⟨w1, w2, w3⟩ := DEAD_refuse n hd2
    rw [ite_not_f no, w2, cl_some]
    refine ⟨sp P2 3 0, T2, s2, fin P1 (sp P2 3 0) T2 s2 hx1 ?_, rfl, kp2, hc2.2.2.2, Or.inr ⟨p2, L2, w3⟩⟩
    rw [r1, cl_some]
    unfold f_X4_expect
    dsimp only
    rw [hd2.2.2.1, if_neg (by decide), w1, cl_some, cl_some]
