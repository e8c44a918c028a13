def chF (n : Nat) (a1 : Int32) : ((Int32 × Int64 × Int32 × MS) → Option (Int64 × MS)) → (Int32 × Int64 × Int32 × MS) → Option (Int64 × MS) := fun K5 (t4 : Int32 × Int64 × Int32 × MS) =>
  if (t4.2.2.2.1 10) ≤ t4.2.2.1 then (
    if a1 = 0 then (
      some ((Int32.toInt64 t4.1), t4.2.2.2))
    else (
      some (t4.2.1, t4.2.2.2)))
  else (
    cl (f_X8_harmOf n t4.2.2.1 t4.2.2.2) fun q8 =>
    jn (fun (t9 : Int32 × Int64) =>
      K5 (t9.1, t9.2, (t4.2.2.1 + 1), q8.2)) fun K10 =>
    jn (fun (t11 : Unit) =>
      K10 (t4.2.2.1, q8.1)) fun K12 =>
    if t4.2.2.1 ≤ 0 then (
      K12 ())
    else (
      if (lg_cmp q8.1 t4.2.1) < 0 then (
        K12 ())
      else (
        K10 (t4.1, t4.2.1))))
def laF (n : Nat) (a1 : Int32) (a2 : Int32) (x5 : Int32) : ((Int32 × Int32 × MS) → Option (Int32 × MS)) → (Int32 × Int32 × MS) → Option (Int32 × MS) := fun K8 (t7 : Int32 × Int32 × MS) =>
  jn (fun (t9 : Unit) =>
    ck (ib a1 8) <| bn (ap t7.2.2 12 (Int32.toNatClampNeg a1) x5) fun z11 =>
    some (t7.1, z11)) fun K10 =>
  if t7.2.1 < 0 then (
    K10 ())
  else (
    if 0 ≤ t7.1 then (
      K10 ())
    else (
      ck (ib a1 8) <| bn (ap t7.2.2 12 (Int32.toNatClampNeg a1) t7.2.1) fun z14 =>
      cl (f_X8_day n a1 (z14.1 6) z14) fun q15 =>
      cl (f_X8_leftOfAll n q15) fun q16 =>
      jn (fun (t17 : Int32) =>
        K8 (t17, (t7.2.1 + (-1)), q15)) fun K18 =>
      if a2 < q16 then (
        K18 t7.1)
      else (
        K18 t7.2.1)))
def moF (n : Nat) (a1 : Int32) (a2 : Int32) : ((Int32 × MS) → Option (Int32 × MS)) → (Int32 × MS) → Option (Int32 × MS) := fun K7 (t6 : Int32 × MS) =>
  if 20 < t6.1 then (
    some ((-1), t6.2))
  else (
    jn (fun (t9 : MS) =>
      cl (f_X8_day n a1 ((t9.1 6) + t6.1) t9) fun q11 =>
      cl (f_X8_leftOfAll n q11) fun q12 =>
      if a2 < q12 then (
        K7 ((t6.1 + 1), q11))
      else (
        some (t6.1, q11))) fun K10 =>
    if t6.1 ≤ 0 then (
      K10 t6.2)
    else (
      ck (ib 0 24) <| bn (t6.2.2 7 (Int32.toNatClampNeg 0)) fun x15 =>
      ck (ib (((t6.2.1 6) + t6.1) - 1) 24) <| bn (ap t6.2 7 (Int32.toNatClampNeg (((t6.2.1 6) + t6.1) - 1)) x15) fun z16 =>
      ck (ib 0 24) <| bn (z16.2 8 (Int32.toNatClampNeg 0)) fun x17 =>
      ck (ib (((z16.1 6) + t6.1) - 1) 24) <| bn (ap z16 8 (Int32.toNatClampNeg (((z16.1 6) + t6.1) - 1)) x17) fun z18 =>
      ck (ib 0 24) <| bn (z18.2 9 (Int32.toNatClampNeg 0)) fun x19 =>
      ck (ib (((z18.1 6) + t6.1) - 1) 24) <| bn (ap z18 9 (Int32.toNatClampNeg (((z18.1 6) + t6.1) - 1)) x19) fun z20 =>
      K10 z20))
def juF (n : Nat) (a1 : Int32) (s0 : MS) : ((Int32) → Option (Int32 × MS)) → (Int32) → Option (Int32 × MS) := fun K6 (t5 : Int32) =>
  ck (ib a1 4) <| bn (s0.2 58 (Int32.toNatClampNeg a1)) fun x7 =>
  if x7 ≤ t5 then (
    bn (sp s0 18 a1) fun z9 =>
    cl (f_X8_day n 0 (z9.1 6) z9) fun q10 =>
    bn (sp q10 18 (-1)) fun z11 =>
    cl (f_X8_leftOfAll n z11) fun q12 =>
    some (q12, z11))
  else (
    ck (ib ((40 * a1) + t5) 160) <| bn (s0.2 59 (Int32.toNatClampNeg ((40 * a1) + t5))) fun x13 =>
    cl (f_X8_in n x13 0 99) fun q14 =>
    if q14 = 0 then (
      some ((-2), s0))
    else (
      K6 (t5 + 1)))
-- OPS: harm, choose
theorem DSM_scr {s s' : MS} (h1 : s'.1 = s.1) (h2 : ∀ q, q ≠ 33 → q ≠ 34 → s'.2 q = s.2 q) : DSM s s' := ⟨fun k _ _ _ => by rw [h1], fun k hk => h2 k (by omega) (by omega), fun i _ => ⟨by rw [h2 7 (by decide) (by decide)], by rw [h2 8 (by decide) (by decide)], by rw [h2 9 (by decide) (by decide)]⟩⟩
theorem hw_both (n : Nat) (hn : 1000 ≤ n) (t0 : MS) (h0 : T0OK t0) (nw : Nat) (c : CS) (s : MS) (hr : R t0 nw c s) (w : Nat) (hw : w < nw) : ∃ (D' N' T' N2 T2 s' : MS) (v : Int64), f_X7_runDay n nw w c = some (c.1, c.2.1, c.2.2.1, c.2.2.2.1, c.2.2.2.2.1, c.2.2.2.2.2.1, c.2.2.2.2.2.2.1, va_up c.2.2.2.2.2.2.2.1 (s.1 22).toNatClampNeg T', c.2.2.2.2.2.2.2.2.1, D', N') ∧ f_X1_harmDone n D' N' c.2.1 T' = some (v, N2, T2) ∧ f_X8_harmOf n (nI w) s = some (v, s') ∧ R t0 nw (c.1, c.2.1, c.2.2.1, c.2.2.2.1, c.2.2.2.2.1, c.2.2.2.2.2.1, c.2.2.2.2.2.2.1, va_up (va_up c.2.2.2.2.2.2.2.1 (s.1 22).toNatClampNeg T') (s.1 22).toNatClampNeg T2, c.2.2.2.2.2.2.2.2.1, D', N2) s' := by
  obtain ⟨D', N', T', s', B, ca, as, rk, d1, d2, d3, d4, d5⟩ := day_own n hn t0 h0 nw c s hr w hw
  have hR := R_dsm hr (DSM_ds d4) _ T' D' N' d5
  obtain ⟨k1, k2⟩ := RHill_n hr.1
  have hs1 : s'.1 1 = nI (s.1 1).toNatClampNeg := by rw [d4.1 1 (by decide) (by decide) (by decide)]; exact k1
  have h22 : s'.1 22 = s.1 22 := d4.1 22 (by decide) (by decide) (by decide)
  obtain ⟨q1, q2, q3⟩ := R_rule hR
  have q3 : TOK t0 (va_up c.2.2.2.2.2.2.2.1 (s.1 22).toNatClampNeg T' (s'.1 22).toNatClampNeg) s' := q3
  rw [h22, vu, if_pos rfl] at q3
  obtain ⟨-, j0, -, -, -, j5, ⟨j1, -, -⟩, -⟩ := d3
  obtain ⟨v, N2, T2, s2, r1, r2, r3, r4, r5⟩ := harm_both n hn t0 h0 c.2.1 D' N' T' s' _ hR.1 hs1 k2 q3 (fun i hi => (j0 i hi).1) j1 j5
  refine ⟨D', N', T', N2, T2, s2, v, d1, r1, ?_, ?_⟩
  · have : f_X8_harmOf n (nI w) s = cl (f_X8_day n (nI w) (s.1 6) s) fun q1 => cl (f_X8_waitingNow n q1) fun q2 => lp (hmF n q2) n (0, 0, q1) := rfl
    rw [this, d2, cl_some]
    exact r2
  · exact R_dsm hR (DSM_scr r4 r5) (s.1 22).toNatClampNeg T2 D' N2 (by rw [show (c.1, c.2.1, c.2.2.1, c.2.2.2.1, c.2.2.2.2.1, c.2.2.2.2.2.1, c.2.2.2.2.2.2.1, va_up c.2.2.2.2.2.2.2.1 (s.1 22).toNatClampNeg T', c.2.2.2.2.2.2.2.2.1, D', N').2.2.2.2.2.2.2.1 (s.1 22).toNatClampNeg = va_up c.2.2.2.2.2.2.2.1 (s.1 22).toNatClampNeg T' (s.1 22).toNatClampNeg from rfl, vu, if_pos rfl]; exact r3)
theorem op_harm (t0 : MS) (h0 : T0OK t0) (nw n : Nat) (hn : 1000 ≤ n) (w : Int32) (c : CS) (s : MS) (hr : R t0 nw c s) : SIM t0 nw (f_X7_harm n nw w c) (f_X8_harm n w s) := by
  have hr0 := hr
  obtain ⟨hrule1, hrule2, -⟩ := R_rule hr
  obtain ⟨rH, rK, rC, ⟨l5, l10, h8, hw⟩, rP, rT, rX, rS, rM⟩ := hr
  unfold f_X7_harm f_X8_harm
  rcases way_ok (n := n) (w := w) (c := c) (s := s) l5 l10 h8 with ⟨-, w1, w2⟩ | ⟨wn, hwn, rfl, w1, w2, w3⟩
  · rw [w1, w2, cl_some, cl_some, oc_none, if_pos rfl]; exact ⟨_, _, _, rfl, rfl, hr0⟩
  obtain ⟨D', N', T', N2, T2, s', v, d1, d2, d3, d4⟩ := hw_both n hn t0 h0 nw c s hr0 wn hwn
  rw [w1, w2, cl_some, cl_some, oc_some, if_neg (by decide), w3, ck_t, d1, d3, cl_some, cl_some]
  dsimp only
  rw [hrule1, hrule2, ck_t, vu, if_pos rfl, d2, cl_some]
  exact ⟨_, _, _, rfl, rfl, d4⟩
theorem op_choose (t0 : MS) (h0 : T0OK t0) (nw n : Nat) (hn : 1000 ≤ n) (a : Int32) (c : CS) (s : MS) (hr : R t0 nw c s) : SIM t0 nw (f_X7_choose n nw a c) (f_X8_choose n a s) := by
  have hr0 := hr
  obtain ⟨rH, rK, rC, ⟨l5, l10, h8, hw⟩, rP, rT, rX, rS, rM⟩ := hr
  have z0 : (0 : Int32).toInt = 0 := by decide
  have un : f_X8_choose n a s = (cl (f_X8_in n a 0 1) fun q1 => if q1 = 0 then some (-4611686018427387904, s) else if (s.1 10) = 0 then some (-4611686018427387904, s) else lp (chF n a) n (0, 0, 0, s)) := rfl
  unfold f_X7_choose
  rw [un, btw, m_in, cl_some, cl_some]
  simp only [bo_0]
  by_cases h1 : 0 ≤ a ∧ a ≤ 1
  case neg => rw [ite_not_f h1, ite_not_f h1]; exact ⟨_, _, _, rfl, rfl, hr0⟩
  rw [ite_not_t h1, ite_not_t h1]
  by_cases hnw : nw = 0
  · obtain ⟨m, rfl⟩ : ∃ m, n = m + 1 := ⟨n - 1, by omega⟩
    have e10 : s.1 10 = 0 := by rw [l10, hnw]; rfl
    rw [if_pos e10, lp_s]
    dsimp only
    rw [l5, if_pos (by rw [hnw]; decide), if_pos rfl]
    exact ⟨_, _, _, rfl, rfl, hr0⟩
  have e10 : ¬ s.1 10 = 0 := by rw [l10, eq_i, z0, nw_i h8]; omega
  rw [if_neg e10]
  refine sim_lp (fun x y => ∃ j, j ≤ nw ∧ x.2.2.1 = nI j ∧ y.2.2.1 = nI j ∧ R t0 nw x.2.2.2 y.2.2.2 ∧ ((j = 0 ∧ x.1 = -1) ∨ (0 < j ∧ x.1 = y.1 ∧ x.2.1 = y.2.1 ∧ 0 ≤ x.1.toInt))) (fun x => 9 - x.2.2.1.toNatClampNeg) ?_ n n (-1, -4611686018427387904, 0, c) (0, 0, 0, s) ⟨0, Nat.zero_le _, rfl, rfl, hr0, Or.inl ⟨rfl, rfl⟩⟩ (by show 9 - _ < n; omega) (by show 9 - _ < n; omega)
  rintro ⟨b, v, j', c1⟩ ⟨b', v', j'', s1⟩ ⟨j, hj, rfl, rfl, hR, hb⟩
  have hR : R t0 nw c1 s1 := hR
  have hb : (j = 0 ∧ b = -1) ∨ (0 < j ∧ b = b' ∧ v = v' ∧ 0 ≤ b.toInt) := hb
  obtain ⟨-, -, -, ⟨r5, r10, -, -⟩, -⟩ := id hR
  obtain ⟨hrule1, hrule2, -⟩ := R_rule hR
  by_cases hend : j = nw
  · rcases hb with ⟨g1, g2⟩ | ⟨g1, g2, g3, g4⟩
    · omega
    subst g2; subst g3
    have hne : ¬ b = -1 := by rw [eq_i, show (-1 : Int32).toInt = -1 by decide]; omega
    by_cases ha : a = 0
    · refine Or.inr ⟨(Int32.toInt64 b, c1), (Int32.toInt64 b, s1), ⟨rfl, hR⟩, fun self => ?_, fun self => ?_⟩
      · dsimp only
        rw [r5, hend, if_pos (Int32.le_refl _), if_neg hne, if_pos ha]
      · unfold chF
        dsimp only
        rw [r10, hend, if_pos (Int32.le_refl _), if_pos ha]
    · refine Or.inr ⟨(v, c1), (v, s1), ⟨rfl, hR⟩, fun self => ?_, fun self => ?_⟩
      · dsimp only
        rw [r5, hend, if_pos (Int32.le_refl _), if_neg hne, if_neg ha]
      · unfold chF
        dsimp only
        rw [r10, hend, if_pos (Int32.le_refl _), if_neg ha]
  · obtain ⟨D', N', T', N2, T2, s', v2, d1, d2, d3, d4⟩ := hw_both n hn t0 h0 nw c1 s1 hR j (by omega)
    have hge : ¬ nI nw ≤ nI j := nI_ge (by omega) (by omega)
    have jT : (nI j).toInt = (j : Int) := nI_toInt (by omega)
    have cl1 : ∀ self : (Int32 × Int64 × Int32 × CS) → Option (Int64 × CS), True := fun _ => trivial
    have mc : ∀ self, chF n a self (b', v', nI j, s1) = (if nI j ≤ 0 then self (nI j, v2, nI (j + 1), s') else if (lg_cmp v2 v') < 0 then self (nI j, v2, nI (j + 1), s') else self (b', v', nI (j + 1), s')) := fun self => by
      unfold chF
      dsimp only
      rw [r10, if_neg hge, d3, cl_some, nI_succ]
      simp only [jn_def]
    -- which is taken
    have step : ∀ (bb : Int32) (vv : Int64), (bb = nI j ∧ vv = v2) ∨ (bb = b' ∧ vv = v' ∧ 0 < j ∧ 0 ≤ b'.toInt) → ∃ j', j' ≤ nw ∧ nI (j + 1) = nI j' ∧ nI (j + 1) = nI j' ∧ R t0 nw (c1.1, c1.2.1, c1.2.2.1, c1.2.2.2.1, c1.2.2.2.2.1, c1.2.2.2.2.2.1, c1.2.2.2.2.2.2.1, va_up (va_up c1.2.2.2.2.2.2.2.1 (s1.1 22).toNatClampNeg T') (s1.1 22).toNatClampNeg T2, c1.2.2.2.2.2.2.2.2.1, D', N2) s' ∧ ((j' = 0 ∧ bb = -1) ∨ (0 < j' ∧ bb = bb ∧ vv = vv ∧ 0 ≤ bb.toInt)) := fun bb vv h => ⟨j + 1, by omega, rfl, rfl, d4, Or.inr ⟨by omega, rfl, rfl, by
      rcases h with ⟨e, -⟩ | ⟨e, -, -, e2⟩
      · rw [e, jT]; omega
      · rw [e]; exact e2⟩⟩
    have mm : 9 - (nI (j + 1)).toNatClampNeg < 9 - (nI j).toNatClampNeg := by rw [nI_clamp (by omega), nI_clamp (by omega)]; omega
    rcases hb with ⟨g1, g2⟩ | ⟨g1, g2, g3, g4⟩
    · refine Or.inl ⟨(nI j, v2, nI (j + 1), _), (nI j, v2, nI (j + 1), s'), step (nI j) v2 (Or.inl ⟨rfl, rfl⟩), mm, fun self => ?_, fun self => ?_⟩
      · dsimp only
        rw [r5, if_neg hge, ib_j (by omega) (by omega), ck_t, nI_clamp (by omega), decide_eq_true (show j < nw by omega), ck_t, d1, cl_some]
        dsimp only
        rw [hrule1, hrule2, ck_t, vu, if_pos rfl, d2, cl_some, nI_succ]
        simp only [jn_def]
        rw [if_pos g2]
      · rw [mc, if_pos (by rw [g1]; decide)]
    · subst g2; subst g3
      have hne : ¬ b = -1 := by rw [eq_i, show (-1 : Int32).toInt = -1 by decide]; omega
      have hjp : ¬ nI j ≤ 0 := by rw [le_i, jT, z0]; omega
      by_cases hlt : lg_cmp v2 v < 0
      · refine Or.inl ⟨(nI j, v2, nI (j + 1), _), (nI j, v2, nI (j + 1), s'), step (nI j) v2 (Or.inl ⟨rfl, rfl⟩), mm, fun self => ?_, fun self => ?_⟩
        · dsimp only
          rw [r5, if_neg hge, ib_j (by omega) (by omega), ck_t, nI_clamp (by omega), decide_eq_true (show j < nw by omega), ck_t, d1, cl_some]
          dsimp only
          rw [hrule1, hrule2, ck_t, vu, if_pos rfl, d2, cl_some, nI_succ]
          simp only [jn_def]
          rw [if_neg hne, if_neg (Int32.not_le.mpr hlt)]
        · rw [mc, if_neg hjp, if_pos hlt]
      · refine Or.inl ⟨(b, v, nI (j + 1), _), (b, v, nI (j + 1), s'), step b v (Or.inr ⟨rfl, rfl, g1, g4⟩), mm, fun self => ?_, fun self => ?_⟩
        · dsimp only
          rw [r5, if_neg hge, ib_j (by omega) (by omega), ck_t, nI_clamp (by omega), decide_eq_true (show j < nw by omega), ck_t, d1, cl_some]
          dsimp only
          rw [hrule1, hrule2, ck_t, vu, if_pos rfl, d2, cl_some, nI_succ]
          simp only [jn_def]
          rw [if_neg hne, if_pos (Int32.not_lt.mp hlt)]
        · rw [mc, if_neg hjp, if_neg hlt]
