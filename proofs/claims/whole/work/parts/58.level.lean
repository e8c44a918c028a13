def oneK (n : Nat) (rec : Nat → MS → Option MS) (s0 : MS) : Option MS :=
  cl (f_X8_isSign n 45 s0) fun q5 =>
  if q5 = 0 then (
    cl (f_X8_isSign n 40 s0) fun q7 =>
    if q7 = 0 then (
      cl (f_X8_faulty n s0) fun q9 =>
      some q9)
    else (
      cl (f_X8_opens n s0) fun q10 =>
      if q10.1 = 0 then (
        some q10.2)
      else (
        cl (rec 0 q10.2) fun q12 =>
        cl (f_X8_isSign n 41 q12) fun q13 =>
        if q13 = 0 then (
          cl (f_X8_faulty n q12) fun q17 =>
          some q17)
        else (
          bn (sp q12 28 ((q12.1 28) - 1)) fun z15 =>
          cl (f_X8_next n z15) fun q16 =>
          some q16))))
  else (
    cl (f_X8_opens n s0) fun q18 =>
    if q18.1 = 0 then (
      some q18.2)
    else (
      cl (rec 5 q18.2) fun q20 =>
      bn (sp q20 28 ((q20.1 28) - 1)) fun z21 =>
      cl (f_X8_addStep n 4 0 z21) fun q22 =>
      some q22))
def eO4 (n : Nat) (rec : Nat → Int32 → MS → MS → Option (MS × MS)) (a2 : Int32) : ((Int32 × MS × MS) → Option (MS × MS)) → (Int32 × MS × MS) → Option (MS × MS) := fun K3 (t2 : Int32 × MS × MS) =>
  if 160 ≤ t2.1 then (
    some (t2.2.1, t2.2.2))
  else (
    if (t2.2.1.1 3) = 256 then (
      cl (f_X4_next n t2.2.1) fun q6 =>
      cl (rec 1 a2 q6 t2.2.2) fun q7 =>
      cl (f_X5_add n 256 q7.2) fun q8 =>
      K3 ((t2.1 + 1), q7.1, q8))
    else (
      some (t2.2.1, t2.2.2)))
def eA4 (n : Nat) (rec : Nat → Int32 → MS → MS → Option (MS × MS)) (a2 : Int32) : ((Int32 × MS × MS) → Option (MS × MS)) → (Int32 × MS × MS) → Option (MS × MS) := fun K3 (t2 : Int32 × MS × MS) =>
  if 160 ≤ t2.1 then (
    some (t2.2.1, t2.2.2))
  else (
    if (t2.2.1.1 3) = 257 then (
      cl (f_X4_next n t2.2.1) fun q6 =>
      cl (rec 2 a2 q6 t2.2.2) fun q7 =>
      cl (f_X5_add n 257 q7.2) fun q8 =>
      K3 ((t2.1 + 1), q7.1, q8))
    else (
      some (t2.2.1, t2.2.2)))
def eS4 (n : Nat) (rec : Nat → Int32 → MS → MS → Option (MS × MS)) (a2 : Int32) : ((Int32 × MS × MS) → Option (MS × MS)) → (Int32 × MS × MS) → Option (MS × MS) := fun K3 (t2 : Int32 × MS × MS) =>
  if 160 ≤ t2.1 then (
    some (t2.2.1, t2.2.2))
  else (
    jn (fun (t5 : Unit) =>
      cl (f_X4_next n t2.2.1) fun q7 =>
      cl (rec 4 a2 q7 t2.2.2) fun q8 =>
      cl (f_X5_add n (t2.2.1.1 3) q8.2) fun q9 =>
      K3 ((t2.1 + 1), q8.1, q9)) fun K6 =>
    if (t2.2.1.1 3) = 43 then (
      K6 ())
    else (
      if (t2.2.1.1 3) = 45 then (
        K6 ())
      else (
        some (t2.2.1, t2.2.2))))
def eT4 (n : Nat) (rec : Nat → Int32 → MS → MS → Option (MS × MS)) (a2 : Int32) : ((Int32 × MS × MS) → Option (MS × MS)) → (Int32 × MS × MS) → Option (MS × MS) := fun K3 (t2 : Int32 × MS × MS) =>
  if 160 ≤ t2.1 then (
    some (t2.2.1, t2.2.2))
  else (
    if (t2.2.1.1 3) = 42 then (
      cl (f_X4_next n t2.2.1) fun q6 =>
      cl (rec 5 a2 q6 t2.2.2) fun q7 =>
      cl (f_X5_add n 42 q7.2) fun q8 =>
      K3 ((t2.1 + 1), q7.1, q8))
    else (
      some (t2.2.1, t2.2.2)))
def eO8 (n : Nat) (rec : Nat → MS → Option MS) : ((MS) → Option MS) → (MS) → Option MS := fun K3 (t2 : MS) =>
  cl (f_X8_isKey n 13 t2) fun q4 =>
  if q4 = 0 then (
    some t2)
  else (
    cl (f_X8_next n t2) fun q6 =>
    cl (rec 1 q6) fun q7 =>
    cl (f_X8_addStep n 5 0 q7) fun q8 =>
    K3 q8)
def eA8 (n : Nat) (rec : Nat → MS → Option MS) : ((MS) → Option MS) → (MS) → Option MS := fun K3 (t2 : MS) =>
  cl (f_X8_isKey n 14 t2) fun q4 =>
  if q4 = 0 then (
    some t2)
  else (
    cl (f_X8_next n t2) fun q6 =>
    cl (rec 2 q6) fun q7 =>
    cl (f_X8_addStep n 6 0 q7) fun q8 =>
    K3 q8)
def eS8 (n : Nat) (rec : Nat → MS → Option MS) : ((MS) → Option MS) → (MS) → Option MS := fun K3 (t2 : MS) =>
  cl (f_X8_isSign n 43 t2) fun q4 =>
  jn (fun (t5 : Unit) =>
    cl (f_X8_next n t2) fun q7 =>
    cl (rec 4 q7) fun q8 =>
    cl (f_X8_addStep n (t2.1 32) 0 q8) fun q9 =>
    K3 q9) fun K6 =>
  if q4 = 0 then (
    cl (f_X8_isSign n 45 t2) fun q11 =>
    if q11 = 0 then (
      some t2)
    else (
      K6 ()))
  else (
    K6 ())
def eT8 (n : Nat) (rec : Nat → MS → Option MS) : ((MS) → Option MS) → (MS) → Option MS := fun K3 (t2 : MS) =>
  cl (f_X8_isSign n 42 t2) fun q4 =>
  if q4 = 0 then (
    some t2)
  else (
    cl (f_X8_next n t2) fun q6 =>
    cl (rec 5 q6) fun q7 =>
    cl (f_X8_addStep n 42 0 q7) fun q8 =>
    K3 q8)
-- READING, both ways: level by level
theorem stepR_num {is : Int32} (h : IR is 0 9999) : stepR (1000 + is) 1 is := by
  have e := num_i h
  refine Or.inl ⟨by rw [e]; have := h.1; omega, by rw [e]; have := h.2; omega, rfl, ?_⟩
  rw [Int32.add_comm, Int32.add_sub_cancel]
theorem OUT_refuse {P T s : MS} {Z p L a e b : Nat} {P' s' : MS} (h : DEAD P' s' Z p L) (g : FR P T s P' T s') : OUT P T s Z p L a e b P' T s' := ⟨g, Or.inr ⟨p, L, h, Nat.le_refl _, by omega⟩⟩
theorem OUT_wk {P T s : MS} {Z p L a e b b' : Nat} {P' T' s' : MS} (h : OUT P T s Z p L a e b P' T' s') (hb : b' ≤ b) : OUT P T s Z p L a e b' P' T' s' := by
  obtain ⟨h1, ⟨p', L', h2, h3, h4⟩ | h2⟩ := h
  · exact ⟨h1, Or.inl ⟨p', L', h2, by omega, h4⟩⟩
  · exact ⟨h1, Or.inr h2⟩
/-- one that was open is shut -/
theorem OUT_dec {P T s : MS} {Z p L a e b : Nat} {P' T' s' : MS} (ha : a < 100) (h : OUT P T s Z p L (a + 1) e b P' T' s') : OUT P T s Z p L a e b P' T' (sp s' 28 (s'.1 28 - 1)) := by
  obtain ⟨⟨a1, a2, a3, a4, a5, a6, a7⟩, h⟩ := h
  refine ⟨⟨a1, a2, a3, fun k hk => by rw [sp1, if_neg (by omega)]; exact a4 k hk, a5, a6, a7⟩, ?_⟩
  rcases h with ⟨p', L', ⟨⟨h1, h2, ⟨q, k1, k2, k3, k4, k5, k6, k7⟩, h4, h5, h7, h8⟩, h6⟩, g2, g3⟩ | ⟨p', L', ⟨h1, h2, h3, h4, h5, h6⟩, g⟩
  · refine Or.inl ⟨p', L', ⟨⟨h1, by rw [sp1, if_neg (by decide), h2], ⟨q, k1, by rw [sp1, if_neg (by decide), k2], k3, by rw [sp1, if_neg (by decide), k4], k5, k6, by rw [sp1, if_neg (by decide), sp1, if_neg (by decide)]; exact k7⟩, h4, by rw [sp1, if_neg (by decide), h5], ?_, h8⟩, h6⟩, g2, g3⟩
    rw [sp1, if_pos rfl, h7, nI_pd _ (by omega)]
    rfl
  · exact Or.inr ⟨p', L', ⟨by rw [sp1, if_neg (by decide), h1], by rw [sp1, if_neg (by decide)]; exact h2, h3, by rw [sp1, if_neg (by decide), h4], h5, h6⟩, g⟩
/-- what a step does to the stack -/
def SK (x : Int32) (e e' : Nat) : Prop := (300 ≤ x ∧ e' = e + 1) ∨ (¬ 300 ≤ x ∧ (x = 258 ∨ x = 259) ∧ 1 ≤ e ∧ e' = e) ∨ (¬ 300 ≤ x ∧ ¬ (x = 258 ∨ x = 259) ∧ 2 ≤ e ∧ e' + 1 = e)
/-- behind a token and what belongs to it a step is laid -/
theorem OUT_op (n : Nat) {P T s P2 T1 s2 P3 T3 s3 : MS} {Z p L a e0 e' p1 L1 p2 : Nat} (hc : RPC P T s Z) (hF : FR P T s P2 T1 s2) (hpr : PR T L p T1 L1 p1 e0) (hlt : p1 < p2) (hL1 : L1 ≤ p1) (h : OUT P2 T1 s2 Z p2 L1 a 1 p2 P3 T3 s3) {x c v : Int32} (hx : stepR x c v) (he : SK x (e0 + 1) e') : ∃ T4 s4, f_X5_add n x T3 = some T4 ∧ f_X8_addStep n c v s3 = some s4 ∧ OUT P T s Z p L a e' p2 P3 T4 s4 := by
  obtain ⟨hF2, h⟩ := h
  have hF3 := FR_tr hF hF2
  have hc3 := RPC_fr hc hF3
  have hZ := hc.1.2.2.1
  obtain ⟨r1, r2, r3, -, -⟩ := id hpr
  rcases h with ⟨p3, L3, hl, hp3, hpr3⟩ | ⟨p3, L3, hd, hp3, hs3⟩
  · obtain ⟨q1, q2, q3, q4, q5⟩ := id hpr3
    have hp160 : p3 ≤ Z := by obtain ⟨q, -, -, -, -, k5, k6, -⟩ := hl.1.2.2.1; omega
    obtain ⟨T4, s4, e1, e2, g1, g2, g3, g4⟩ := LIVE_add n hc3 hl.1 (by omega) hx
    refine ⟨T4, s4, e1, e2, FR_tr hF3 g2, Or.inl ⟨p3, L3 + 1, ⟨g1, by omega⟩, hp3, ?_⟩⟩
    exact PR_add (PR_tr hpr ⟨q1, by omega, by omega, q4, q5⟩) (by omega) g3 g4 he
  · obtain ⟨T4, s4, e1, e2, g1, g2⟩ := DEAD_add n hc3 hd (by omega) x c v
    exact ⟨T4, s4, e1, e2, FR_tr hF3 g2, Or.inr ⟨p3, L3 + 1, g1, by omega, by omega⟩⟩
def CON (n : Nat) (r4 : Nat → Int32 → MS → MS → Option (MS × MS)) (r8 : Nat → MS → Option MS) (w a : Nat) : Prop :=
  (∀ (P T s : MS) (Z p L : Nat), RPC P T s Z → LIVE P T s Z p L a → ∃ P' T' s', r4 w (nI a) P T = some (P', T') ∧ r8 w s = some s' ∧ OUT P T s Z p L a 1 p P' T' s') ∧
  ∀ (P T s : MS) (Z p L : Nat), RPC P T s Z → DEAD P s Z p L → r4 w (nI a) P T = some (sp P 3 0, T) ∧ r8 w s = some s
theorem opens_both (n : Nat) (hn : 170 ≤ n) {P T s : MS} {Z p L a : Nat} (ha : a ≤ 5) (hc : RPC P T s Z) (hl : LIVE P T s Z p L a) (ht : ¬ P.1 3 = 1) : (a < 5 ∧ f_X4_mayOpen n (nI a) P = some (1, P) ∧ ∃ P' s' p', f_X4_next n P = some P' ∧ f_X8_opens n s = some (1, s') ∧ LIVE P' T s' Z p' L (a + 1) ∧ p < p' ∧ FR P T s P' T s') ∨ (a = 5 ∧ ∃ P' s', f_X4_mayOpen n (nI a) P = some (0, P') ∧ f_X8_opens n s = some (0, s') ∧ DEAD P' s' Z p L ∧ FR P T s P' T s') := by
  have h28 : s.1 28 = nI a := hl.1.2.2.2.2.2.1
  unfold f_X4_mayOpen f_X8_opens
  by_cases h : a = 5
  · subst h
    obtain ⟨P', s', e1, e2, g1, g2⟩ := LIVE_refuse n hc hl
    rw [if_pos (by decide), e1, h28, if_pos (by decide), e2]
    exact Or.inr ⟨rfl, P', s', rfl, rfl, g1, g2⟩
  · have h1 : ¬ (5 : Int32) ≤ nI a := lge 5 5 rfl (by omega) (by omega)
    have h2 : ¬ nI a = 5 := by rw [eq_i, nI_toInt (by omega), show (5 : Int32).toInt = 5 by decide]; omega
    rw [if_neg h1, h28, if_neg h2, bn_def]
    obtain ⟨⟨l1, l2, ⟨q, k1, k2, k3, k4, k5, k6, k7⟩, l4, l5, l7, l8⟩, l6⟩ := hl
    have fr : FR P T s P T (sp s 28 (nI a + 1)) := ⟨rfl, rfl, rfl, fun k hk => by rw [sp1, if_neg (by omega)], fun _ _ _ => rfl, fun _ _ => ⟨rfl, rfl⟩, hc.2.2.2⟩
    obtain ⟨P', s', p', e1, e2, g1, g2, g3⟩ := LIVE_next n hn (RPC_fr hc fr) (s := sp s 28 (nI a + 1)) (a := a + 1) (p := p) (L := L) ⟨l1, by rw [sp1, if_neg (by decide), l2], ⟨q, k1, by rw [sp1, if_neg (by decide), k2], k3, by rw [sp1, if_neg (by decide), k4], k5, k6, by rw [sp1, if_neg (by decide), sp1, if_neg (by decide)]; exact k7⟩, l4, by rw [sp1, if_neg (by decide), l5], by rw [sp1, if_pos rfl, nI_succ], l8⟩ (by omega) ht
    exact Or.inl ⟨by omega, rfl, P', s', p', e1, by rw [e2]; rfl, g1, g2, FR_tr fr g3⟩
theorem lev_one (n : Nat) (hn : 170 ≤ n) (r4 : Nat → Int32 → MS → MS → Option (MS × MS)) (r8 : Nat → MS → Option MS) (a : Nat) (ha : a ≤ 5) (h0 : a < 5 → CON n r4 r8 0 (a + 1)) (h5 : a < 5 → CON n r4 r8 5 (a + 1)) (P T s : MS) (Z p L : Nat) (hc : RPC P T s Z) (hl : LIVE P T s Z p L a) : ∃ P' T' s', b_X4_readOne n r4 (nI a) P T = some (P', T') ∧ b_X8_one n r8 s = some s' ∧ OUT P T s Z p L a 1 p P' T' s' := by
  have hl0 := hl.1
  have tk := TKL_tk hl0.2.2.1
  have h27 : s.1 27 = -1 := hl0.2.1
  have hZ := hc.1.2.2.1
  have e8 : b_X8_one n r8 s = (if s.1 31 = 2 then (cl (f_X8_addStep n 1 (s.1 32) s) fun q27 => cl (f_X8_next n q27) fun q28 => some q28) else (if s.1 31 = 1 then (if 6 ≤ s.1 32 then oneK n r8 s else (cl (f_X8_addStep n 2 (s.1 32) s) fun q25 => cl (f_X8_next n q25) fun q26 => some q26)) else oneK n r8 s)) := by
    have : b_X8_one n r8 s = (if s.1 27 < 0 then (if s.1 31 = 2 then (cl (f_X8_addStep n 1 (s.1 32) s) fun q27 => cl (f_X8_next n q27) fun q28 => some q28) else (if s.1 31 = 1 then (if 6 ≤ s.1 32 then oneK n r8 s else (cl (f_X8_addStep n 2 (s.1 32) s) fun q25 => cl (f_X8_next n q25) fun q26 => some q26)) else oneK n r8 s)) else some s) := rfl
    rw [this, if_pos (by rw [h27]; decide)]
  have leaf : ∀ (x c v : Int32), stepR x c v → 300 ≤ x → ¬ P.1 3 = 1 → P.1 3 = x → ∃ T' s' P'' s'', f_X5_add n x T = some T' ∧ f_X8_addStep n c v s = some s' ∧ f_X4_next n P = some P'' ∧ f_X8_next n s' = some s'' ∧ OUT P T s Z p L a 1 p P'' T' s'' := by
    intro x c v hx h300 h1 h3
    have hpZ : p < Z := by
      obtain ⟨q, -, -, -, -, k5, k6, ⟨-, e, -⟩ | ⟨e, -⟩⟩ := hl0.2.2.1
      · exact absurd e h1
      · omega
    obtain ⟨T', s', e1, e2, g1, g2, g3, g4⟩ := LIVE_add n hc hl0 (by have := hl.2; omega) hx
    obtain ⟨P'', s'', p'', e3, e4, g5, g6, g7⟩ := LIVE_next n hn (RPC_fr hc g2) g1 (by have := hl.2; omega) h1
    refine ⟨T', s', P'', s'', e1, e2, e3, e4, FR_tr g2 g7, Or.inl ⟨p'', L + 1, g5, g6, ?_⟩⟩
    exact PR_add (PR_rf T L p p'' (by omega)) (by omega) g3 g4 (Or.inl ⟨h300, rfl⟩)
  unfold b_X4_readOne
  rw [e8]
  rcases tk_one tk with ⟨t1, t2, t3, t4⟩ | ⟨t1, t2, t3, t4, t5, t6⟩ | ⟨t1, t2, t3⟩
  · rw [if_neg t4, if_pos t1]
    have hx := stepR_num t3
    rw [← t2] at hx
    obtain ⟨T', s', P'', s'', e1, e2, e3, e4, ho⟩ := leaf _ _ _ hx (Int32.not_lt.mp t4) (by intro e; rw [e] at t4; exact absurd (by decide) t4) rfl
    rw [e1, e2, cl_some, cl_some, e3, e4]
    exact ⟨P'', T', s'', rfl, rfl, ho⟩
  · rw [if_neg t3, if_neg (by rw [t1]; decide), if_pos t1, if_neg (Int32.not_le.mpr t2)]
    have hx : stepR (P.1 3) 2 (s.1 32) := Or.inr (Or.inl ⟨t5, t6, rfl, t4⟩)
    obtain ⟨T', s', P'', s'', e1, e2, e3, e4, ho⟩ := leaf _ _ _ hx (Int32.not_lt.mp t3) (by intro e; rw [e] at t3; exact absurd (by decide) t3) rfl
    rw [e1, e2, cl_some, cl_some, e3, e4]
    exact ⟨P'', T', s'', rfl, rfl, ho⟩
  · have e8' : (if s.1 31 = 2 then (cl (f_X8_addStep n 1 (s.1 32) s) fun q27 => cl (f_X8_next n q27) fun q28 => some q28) else (if s.1 31 = 1 then (if 6 ≤ s.1 32 then oneK n r8 s else (cl (f_X8_addStep n 2 (s.1 32) s) fun q25 => cl (f_X8_next n q25) fun q26 => some q26)) else oneK n r8 s)) = oneK n r8 s := by
      rw [if_neg t2]
      by_cases q : s.1 31 = 1
      · rw [if_pos q, if_pos (t3 q)]
      · rw [if_neg q]
    rw [if_pos t1, e8']
    unfold oneK
    rw [m_isSign, m_isSign, cl_some, cl_some]
    have s45 : (s.1 27 < 0 ∧ s.1 31 = 3 ∧ s.1 32 = 45) = (P.1 3 = 45) := by
      rw [tk_sign tk (by decide), h27]; exact propext ⟨fun q => q.2, fun q => ⟨by decide, q⟩⟩
    have s40 : (s.1 27 < 0 ∧ s.1 31 = 3 ∧ s.1 32 = 40) = (P.1 3 = 40) := by
      rw [tk_sign tk (by decide), h27]; exact propext ⟨fun q => q.2, fun q => ⟨by decide, q⟩⟩
    simp only [bo_0, s45, s40]
    by_cases h45 : P.1 3 = 45
    · rw [if_pos h45, ite_not_t h45]
      rcases opens_both n hn ha hc hl (by rw [h45]; decide) with ⟨ha5, o1, P1, s1, p1, o2, o3, o4, o5, o6⟩ | ⟨ha5, P1, s1, o1, o2, o3, o4⟩
      · obtain ⟨P3, T3, s3, r1, r2, r3⟩ := (h5 ha5).1 P1 T s1 Z p1 L (RPC_fr hc o6) o4
        obtain ⟨T4, s4, v1, v2, v3⟩ := OUT_op n (x := 259) (c := 4) (v := 0) (e' := 1) hc o6 (PR_rf T L p p (Nat.le_refl _)) o5 hl.2 (OUT_dec (by omega) r3) (Or.inr (Or.inr (Or.inr (Or.inl ⟨rfl, rfl⟩)))) (Or.inr (Or.inl ⟨by decide, Or.inr rfl, by omega, rfl⟩))
        rw [o1, cl_some, if_neg (show ¬ (1 : Int32) = 0 by decide), o2, cl_some, ← nI_succ, r1, cl_some, v1, cl_some, o3, cl_some, if_neg (show ¬ (1 : Int32) = 0 by decide), r2, cl_some, bn_def, v2, cl_some]
        exact ⟨P3, T4, s4, rfl, rfl, OUT_wk v3 (by omega)⟩
      · rw [o1, cl_some, if_pos rfl, o2, cl_some, if_pos rfl]
        exact ⟨P1, T, s1, rfl, rfl, OUT_refuse o3 o4⟩
    rw [if_neg h45, ite_not_f h45]
    by_cases h40 : P.1 3 = 40
    · rw [if_pos h40, ite_not_t h40]
      rcases opens_both n hn ha hc hl (by rw [h40]; decide) with ⟨ha5, o1, P1, s1, p1, o2, o3, o4, o5, o6⟩ | ⟨ha5, P1, s1, o1, o2, o3, o4⟩
      · have hc1 := RPC_fr hc o6
        obtain ⟨P3, T3, s3, r1, r2, r3⟩ := (h0 ha5).1 P1 T s1 Z p1 L hc1 o4
        rw [o1, cl_some, if_neg (show ¬ (1 : Int32) = 0 by decide), o2, cl_some, ← nI_succ, r1, cl_some, o3, cl_some, if_neg (show ¬ (1 : Int32) = 0 by decide), r2, cl_some, m_isSign, cl_some]
        simp only [bo_0]
        obtain ⟨hF, r3⟩ := r3
        have hc3 := RPC_fr hc1 hF
        have hF3 := FR_tr o6 hF
        rcases r3 with ⟨p3, L3, hl3, hp3, hpr3⟩ | ⟨p3, L3, hd3, hp3, hs3⟩
        · have tk3 := TKL_tk hl3.1.2.2.1
          have h273 : s3.1 27 = -1 := hl3.1.2.1
          have s41 : (s3.1 27 < 0 ∧ s3.1 31 = 3 ∧ s3.1 32 = 41) = (P3.1 3 = 41) := by
            rw [tk_sign tk3 (by decide), h273]; exact propext ⟨fun q => q.2, fun q => ⟨by decide, q⟩⟩
          simp only [s41]
          unfold f_X4_expect
          obtain ⟨q1, q2, q3, q4, q5⟩ := id hpr3
          by_cases h41 : P3.1 3 = 41
          · have hdec := OUT_dec (a := a) (e := 1) (b := p1) (P := P1) (T := T) (s := s1) (Z := Z) (p := p1) (L := L) (by omega) ⟨hF, Or.inl ⟨p3, L3, hl3, hp3, hpr3⟩⟩
            obtain ⟨hF4, ⟨p4, L4, hl4, hp4, hpr4⟩ | ⟨p4, L4, hd4, -⟩⟩ := hdec
            · obtain ⟨P5, s5, p5, u1, u2, u3, u4, u5⟩ := LIVE_next n hn (RPC_fr hc1 hF4) hl4.1 (by have := hl4.2; omega) (by rw [h41]; decide)
              rw [if_pos h41, u1, cl_some, cl_some, ite_not_t h41, bn_def, u2, cl_some]
              obtain ⟨w1, w2, w3, w4, w5⟩ := hpr4
              exact ⟨P5, T3, s5, rfl, rfl, FR_tr (FR_tr o6 hF4) u5, Or.inl ⟨p5, L4, u3, by omega, w1, by omega, by omega, w4, w5⟩⟩
            · have := hd4.2.1
              rw [sp1, if_neg (by decide), h273] at this
              exact absurd this (by decide)
          · obtain ⟨P5, s5, u1, u2, u3, u4⟩ := LIVE_refuse n hc3 hl3
            rw [if_neg h41, u1, cl_some, cl_some, ite_not_f h41, u2, cl_some]
            exact ⟨P5, T3, s5, rfl, rfl, FR_tr hF3 u4, Or.inr ⟨p3, L3, u3, by omega, by omega⟩⟩
        · have no41 : ¬ (s3.1 27 < 0 ∧ s3.1 31 = 3 ∧ s3.1 32 = 41) := fun q => by
            have := q.1
            rw [lt_i, show (0 : Int32).toInt = 0 by decide] at this
            have := hd3.2.1
            omega
          obtain ⟨u1, u2, u3⟩ := DEAD_refuse n hd3
          unfold f_X4_expect
          rw [if_neg (by rw [hd3.2.2.1]; decide), u1, cl_some, cl_some, ite_not_f no41, u2, cl_some]
          exact ⟨_, T3, s3, rfl, rfl, FR_tr hF3 (FR_P 3 0 (by decide) hc3.2.2.2), Or.inr ⟨p3, L3, u3, by omega, by omega⟩⟩
      · rw [o1, cl_some, if_pos rfl, o2, cl_some, if_pos rfl]
        exact ⟨P1, T, s1, rfl, rfl, OUT_refuse o3 o4⟩
    · obtain ⟨P5, s5, u1, u2, u3, u4⟩ := LIVE_refuse n hc hl
      rw [if_neg h40, ite_not_f h40, u1, u2, cl_some, cl_some]
      exact ⟨P5, T, s5, rfl, rfl, OUT_refuse u3 u4⟩
