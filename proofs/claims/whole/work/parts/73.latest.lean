def lcF (n : Nat) (nw : Nat) (a2 : Int32) (w2 : Nat) : ((Int32 × MS × MS × MS × MS × MS × MS × MS × (Nat → MS) × (Nat → MS) × MS × MS) → Option (Int32 × CS)) → (Int32 × MS × MS × MS × MS × MS × MS × MS × (Nat → MS) × (Nat → MS) × MS × MS) → Option (Int32 × CS) := fun K8 (t7 : Int32 × MS × MS × MS × MS × MS × MS × MS × (Nat → MS) × (Nat → MS) × MS × MS) =>
  if t7.1 < 0 then (
    some ((-1), (t7.2.1, t7.2.2.1, t7.2.2.2.1, t7.2.2.2.2.1, t7.2.2.2.2.2.1, t7.2.2.2.2.2.2.1, t7.2.2.2.2.2.2.2.1, t7.2.2.2.2.2.2.2.2.1, t7.2.2.2.2.2.2.2.2.2.1, t7.2.2.2.2.2.2.2.2.2.2.1, t7.2.2.2.2.2.2.2.2.2.2.2)))
  else (
    cl (f_X7_leftBy n nw w2 t7.1 0 (t7.2.1, t7.2.2.1, t7.2.2.2.1, t7.2.2.2.2.1, t7.2.2.2.2.2.1, t7.2.2.2.2.2.2.1, t7.2.2.2.2.2.2.2.1, t7.2.2.2.2.2.2.2.2.1, t7.2.2.2.2.2.2.2.2.2.1, t7.2.2.2.2.2.2.2.2.2.2.1, t7.2.2.2.2.2.2.2.2.2.2.2)) fun q10 =>
    if a2 < q10.1 then (
      K8 ((t7.1 + (-1)), q10.2.1, q10.2.2.1, q10.2.2.2.1, q10.2.2.2.2.1, q10.2.2.2.2.2.1, q10.2.2.2.2.2.2.1, q10.2.2.2.2.2.2.2.1, q10.2.2.2.2.2.2.2.2.1, q10.2.2.2.2.2.2.2.2.2.1, q10.2.2.2.2.2.2.2.2.2.2.1, q10.2.2.2.2.2.2.2.2.2.2.2))
    else (
      some (t7.1, (q10.2.1, q10.2.2.1, q10.2.2.2.1, q10.2.2.2.2.1, q10.2.2.2.2.2.1, q10.2.2.2.2.2.2.1, q10.2.2.2.2.2.2.2.1, q10.2.2.2.2.2.2.2.2.1, q10.2.2.2.2.2.2.2.2.2.1, q10.2.2.2.2.2.2.2.2.2.2.1, q10.2.2.2.2.2.2.2.2.2.2.2))))
def mcF (n : Nat) (nw : Nat) (a2 : Int32) (w2 : Nat) : ((Int32 × MS × MS × MS × MS × MS × MS × MS × (Nat → MS) × (Nat → MS) × MS × MS) → Option (Int32 × CS)) → (Int32 × MS × MS × MS × MS × MS × MS × MS × (Nat → MS) × (Nat → MS) × MS × MS) → Option (Int32 × CS) := fun K8 (t7 : Int32 × MS × MS × MS × MS × MS × MS × MS × (Nat → MS) × (Nat → MS) × MS × MS) =>
  if 20 < t7.1 then (
    some ((-1), (t7.2.1, t7.2.2.1, t7.2.2.2.1, t7.2.2.2.2.1, t7.2.2.2.2.2.1, t7.2.2.2.2.2.2.1, t7.2.2.2.2.2.2.2.1, t7.2.2.2.2.2.2.2.2.1, t7.2.2.2.2.2.2.2.2.2.1, t7.2.2.2.2.2.2.2.2.2.2.1, t7.2.2.2.2.2.2.2.2.2.2.2)))
  else (
    cl (f_X7_leftBy n nw w2 (t7.2.2.2.2.2.1.2 1 w2) t7.1 (t7.2.1, t7.2.2.1, t7.2.2.2.1, t7.2.2.2.2.1, t7.2.2.2.2.2.1, t7.2.2.2.2.2.2.1, t7.2.2.2.2.2.2.2.1, t7.2.2.2.2.2.2.2.2.1, t7.2.2.2.2.2.2.2.2.2.1, t7.2.2.2.2.2.2.2.2.2.2.1, t7.2.2.2.2.2.2.2.2.2.2.2)) fun q10 =>
    if a2 < q10.1 then (
      K8 ((t7.1 + 1), q10.2.1, q10.2.2.1, q10.2.2.2.1, q10.2.2.2.2.1, q10.2.2.2.2.2.1, q10.2.2.2.2.2.2.1, q10.2.2.2.2.2.2.2.1, q10.2.2.2.2.2.2.2.2.1, q10.2.2.2.2.2.2.2.2.2.1, q10.2.2.2.2.2.2.2.2.2.2.1, q10.2.2.2.2.2.2.2.2.2.2.2))
    else (
      some (t7.1, (q10.2.1, q10.2.2.1, q10.2.2.2.1, q10.2.2.2.2.1, q10.2.2.2.2.2.1, q10.2.2.2.2.2.2.1, q10.2.2.2.2.2.2.2.1, q10.2.2.2.2.2.2.2.2.1, q10.2.2.2.2.2.2.2.2.2.1, q10.2.2.2.2.2.2.2.2.2.2.1, q10.2.2.2.2.2.2.2.2.2.2.2))))
def abF (n : Nat) (a1 : Int32) (a2 : Int32) (s0 : MS) : ((Int32) → Option Int32) → (Int32) → Option Int32 := fun K2 (t1 : Int32) =>
  if (s0.1 1) ≤ t1 then (
    ck (isz 1) <| some 1)
  else (
    ck (ib t1 40) <| bn (s0.2 2 (Int32.toNatClampNeg t1)) fun x4 =>
    cl (f_X7_between n x4 a1 a2) fun q5 =>
    if q5 = 0 then (
      ck (isz 0) <| some 0)
    else (
      K2 (t1 + 1)))
-- OPS: latest, more
theorem R_dsm0 {t0 : MS} {nw : Nat} {c : CS} {s s' : MS} (hr : R t0 nw c s) (hd : DSM s s') : R t0 nw c s' := by
  have h := R_dsm hr hd 0 (c.2.2.2.2.2.2.2.1 0) c.2.2.2.2.2.2.2.2.2.1 c.2.2.2.2.2.2.2.2.2.2 ⟨rfl, rfl, rfl⟩
  have e : va_up c.2.2.2.2.2.2.2.1 0 (c.2.2.2.2.2.2.2.1 0) = c.2.2.2.2.2.2.2.1 := by
    funext j
    rw [vu]
    by_cases q : j = 0
    · rw [if_pos q, q]
    · rw [if_neg q]
  rw [e] at h
  exact h
theorem lb_both (n : Nat) (hn : 1000 ≤ n) (t0 : MS) (h0 : T0OK t0) (nw : Nat) (c : CS) (s sr : MS) (hr : R t0 nw c s) (w : Nat) (hw : w < nw) (f a3 : Int32) (cN : Nat) (hcN : cN ≤ 24) (hs1 : sr.1 = s.1) (hs2 : ∀ k, k ≠ 7 → k ≠ 8 → k ≠ 9 → k ≠ 12 → sr.2 k = s.2 k) (hf : sr.2 12 w = f) (hcar : ∀ c', c' < cN → IR (sr.2 7 c') 1 60 ∧ IR (sr.2 8 c') 1 30 ∧ ∀ m, m < 120 → f_X0_roomOf n (nI c') (nI m) c.2.2.2.1 = some (if goP (sr.2 9 c') (sr.2 8 c') (nI m) then sr.2 7 c' else 0)) (ha : s.1 6 + a3 = nI cN) : ∃ (v : Int32) (D' N' T' s' : MS), f_X7_leftBy n nw w f a3 c = some (v, (c.1, c.2.1, c.2.2.1, c.2.2.2.1, c.2.2.2.2.1, c.2.2.2.2.2.1, c.2.2.2.2.2.2.1, va_up c.2.2.2.2.2.2.2.1 (s.1 22).toNatClampNeg T', c.2.2.2.2.2.2.2.2.1, D', N')) ∧ f_X8_day n (nI w) (nI cN) sr = some s' ∧ f_X8_leftOfAll n s' = some v ∧ DS sr s' ∧ TEQ (c.2.2.2.2.2.2.2.1 (s.1 22).toNatClampNeg) T' := by
  obtain ⟨hrule1, hrule2, hrule3⟩ := R_rule hr
  obtain ⟨k1, k2⟩ := RHill_n hr.1
  have e0 := hr.1.1
  obtain ⟨D1, D', N', T', s', B, ca, as, rk, d1, d2, d3, d4, d5, d6⟩ := day_gen n hn t0 h0 nw c s sr hr w hw f cN hcN hs1 hs2 hf hcar
  obtain ⟨-, -, -, -, -, -, ⟨j1, -, -⟩, -⟩ := d4
  have hs' : s'.1 1 = nI (s.1 1).toNatClampNeg := by rw [d5.1 1 (by decide) (by decide) (by decide), hs1]; exact k1
  have hs22 : s'.2 2 = s.2 2 := by rw [d5.2 2 (by omega), hs2 2 (by decide) (by decide) (by decide) (by decide)]
  refine ⟨sumI (s.2 2) (s.1 1).toNatClampNeg - sumI (s'.2 42) (s.1 1).toNatClampNeg, D', N', T', s', ?_, d3, ?_, d5, d6⟩
  · unfold f_X7_leftBy
    rw [d1, cl_some, hrule1, hrule2, ck_t, hr.2.2.1.1, ha, d2, cl_some]
    unfold f_X1_leftOf
    dsimp only
    rw [if_pos rfl, c_allUp n (by omega) _ s hr.1, cl_some, c_rodeAll n (s.1 1).toNatClampNeg (by omega) k2 D' c.2.1 (by rw [e0]; exact k1), cl_some, cl_some, sumI_congr (f := D'.2 7) (g := s'.2 42) _ (fun i hi => j1 i hi)]
  · rw [m_leftAll n (s.1 1).toNatClampNeg (by omega) k2 s' hs', hs22]
theorem late_both (n : Nat) (hn : 1000 ≤ n) (t0 : MS) (h0 : T0OK t0) (nw : Nat) (w : Nat) (hw : w < nw) (a x5 : Int32) : ∀ d fc fr c sL, d ≤ 120 → d < fc → d + 1 < fr → R t0 nw c (ap sL 12 w x5) → ∃ r c' s', lp (lcF n nw a w) fc (nI d - 1, c) = some (r, c') ∧ lp (laF n (nI w) a x5) fr (-1, nI d - 1, sL) = some (r, s') ∧ R t0 nw c' s' := by
  have z0 : (0 : Int32).toInt = 0 := by decide
  intro d
  induction d with
  | zero =>
    intro fc fr c sL h120 hfc hfr hR
    obtain ⟨fc, rfl⟩ : ∃ k, fc = k + 1 := ⟨fc - 1, by omega⟩
    obtain ⟨fr, rfl⟩ : ∃ k, fr = k + 1 := ⟨fr - 1, by omega⟩
    have h8 : nw ≤ 8 := hR.2.2.2.1.2.2.1
    have e : nI 0 - 1 = -1 := by decide
    rw [e, lp_s, lp_s]
    refine ⟨-1, c, ap sL 12 w x5, ?_, ?_, hR⟩
    · unfold lcF
      dsimp only
      rw [if_pos (by decide)]
    · unfold laF
      dsimp only
      simp only [jn_def]
      rw [if_pos (by decide), ib_j (by omega) (by omega), ck_t, bn_def, nI_clamp (by omega)]
  | succ d ih =>
    intro fc fr c sL h120 hfc hfr hR
    obtain ⟨fc, rfl⟩ : ∃ k, fc = k + 1 := ⟨fc - 1, by omega⟩
    obtain ⟨fr, rfl⟩ : ∃ k, fr = k + 1 := ⟨fr - 1, by omega⟩
    have h8 : nw ≤ 8 := hR.2.2.2.1.2.2.1
    have et : nI (d + 1) - 1 = nI d := by rw [nI_pd _ (by omega)]; rfl
    have dT : (nI d).toInt = (d : Int) := nI_toInt (by omega)
    have hn0 : ¬ nI d < 0 := by rw [lt_i, dT, z0]; omega
    have em : nI d + (-1) = nI d - 1 := by rw [Int32.sub_eq_add_neg]
    have rC := hR.2.2.1
    obtain ⟨n1, n2⟩ := RCars_n rC
    have s6 : (ap sL 12 w x5).1 6 = sL.1 6 := rfl
    have sr2 : ∀ k, k ≠ 12 → (ap sL 12 w (nI d)).2 k = (ap sL 12 w x5).2 k := fun k hk => by funext u; rw [ap2, if_neg hk, ap2, if_neg hk]
    obtain ⟨v, D', N', T', s1, p1, p2, p3, p4, p5⟩ := lb_both n hn t0 h0 nw c (ap sL 12 w x5) (ap sL 12 w (nI d)) hR w hw (nI d) 0 ((ap sL 12 w x5).1 6).toNatClampNeg (by omega) rfl (fun k _ _ _ h12 => sr2 k h12) (by rw [ap2, if_pos rfl, if_pos rfl]) (by rw [sr2 7 (by decide), sr2 8 (by decide), sr2 9 (by decide)]; exact cars_own n rC) (by rw [Int32.add_zero]; exact n1)
    have hR1 : R t0 nw (c.1, c.2.1, c.2.2.1, c.2.2.2.1, c.2.2.2.2.1, c.2.2.2.2.2.1, c.2.2.2.2.2.2.1, va_up c.2.2.2.2.2.2.2.1 ((ap sL 12 w x5).1 22).toNatClampNeg T', c.2.2.2.2.2.2.2.2.1, D', N') (ap s1 12 w x5) := by
      refine R_dsm (s' := ap s1 12 w x5) hR ⟨fun k g1 g2 g3 => p4.1 k g1 g2 g3, fun k hk => ?_, fun i hi => ?_⟩ _ T' D' N' p5
      · funext u
        by_cases e12 : k = 12
        · subst e12
          rw [ap2, if_pos rfl, ap2, if_pos rfl]
          by_cases eu : u = w
          · rw [if_pos eu, if_pos eu]
          · rw [if_neg eu, if_neg eu, p4.2 12 (by omega), ap2, if_pos rfl, if_neg eu]
        · rw [ap2, if_neg e12, p4.2 k (by omega), ap2, if_neg e12, ap2, if_neg e12]
      · have q : ∀ k, k < 12 → (ap s1 12 w x5).2 k i = (ap sL 12 w x5).2 k i := fun k hk => by
          rw [ap2, if_neg (by omega), p4.2 k (by omega), ap2, if_neg (by omega), ap2, if_neg (by omega)]
        exact ⟨q 7 (by omega), q 8 (by omega), q 9 (by omega)⟩
    have cc : ∀ self, lcF n nw a w self (nI d, c) = (if a < v then self (nI d - 1, (c.1, c.2.1, c.2.2.1, c.2.2.2.1, c.2.2.2.2.1, c.2.2.2.2.2.1, c.2.2.2.2.2.2.1, va_up c.2.2.2.2.2.2.2.1 ((ap sL 12 w x5).1 22).toNatClampNeg T', c.2.2.2.2.2.2.2.2.1, D', N')) else some (nI d, (c.1, c.2.1, c.2.2.1, c.2.2.2.1, c.2.2.2.2.1, c.2.2.2.2.2.1, c.2.2.2.2.2.2.1, va_up c.2.2.2.2.2.2.2.1 ((ap sL 12 w x5).1 22).toNatClampNeg T', c.2.2.2.2.2.2.2.2.1, D', N'))) := fun self => by
      unfold lcF
      dsimp only
      rw [if_neg hn0, p1, cl_some, em]
    have mc : ∀ self, laF n (nI w) a x5 self (-1, nI d, sL) = (if a < v then self (-1, nI d - 1, s1) else self (nI d, nI d - 1, s1)) := fun self => by
      unfold laF
      dsimp only
      simp only [jn_def]
      have p2' : f_X8_day n (nI w) ((ap sL 12 w (nI d)).1 6) (ap sL 12 w (nI d)) = some s1 := by
        rw [← p2, ← n1]
        rfl
      rw [if_neg hn0, if_neg (by decide), ib_j (by omega) (by omega), ck_t, bn_def, nI_clamp (by omega), p2', cl_some, p3, cl_some, em]
    rw [et, lp_s, lp_s, cc, mc]
    by_cases hav : a < v
    · rw [if_pos hav, if_pos hav]
      exact ih fc fr _ s1 (by omega) (by omega) (by omega) hR1
    · rw [if_neg hav, if_neg hav]
      obtain ⟨fr, rfl⟩ : ∃ k, fr = k + 1 := ⟨fr - 1, by omega⟩
      refine ⟨nI d, _, ap s1 12 w x5, rfl, ?_, hR1⟩
      rw [lp_s]
      unfold laF
      dsimp only
      simp only [jn_def]
      have hge : (0 : Int32) ≤ nI d := Int32.not_lt.mp hn0
      by_cases hneg : nI d - 1 < 0
      · rw [if_pos hneg, ib_j (by omega) (by omega), ck_t, bn_def, nI_clamp (by omega)]
      · rw [if_neg hneg, if_pos hge, ib_j (by omega) (by omega), ck_t, bn_def, nI_clamp (by omega)]
theorem op_latest (t0 : MS) (h0 : T0OK t0) (nw n : Nat) (hn : 1000 ≤ n) (w a : Int32) (c : CS) (s : MS) (hr : R t0 nw c s) : SIM t0 nw (f_X7_latest n nw w a c) (f_X8_latest n w a s) := by
  have hr0 := hr
  obtain ⟨rH, rK, rC, ⟨l5, l10, h8, hw⟩, rP, rT, rX, rS, rM⟩ := hr
  obtain ⟨e1, e2, e3⟩ := RHill_e rH
  have un : f_X8_latest n w a s = (cl (f_X8_isWay n w s) fun q1 => if q1 = 0 then some (-2, s) else cl (f_X8_in n a 0 2400) fun q3 => if q3 = 0 then some (-2, s) else ck (ib w 8) (bn (s.2 12 (Int32.toNatClampNeg w)) fun x5 => bn ((s.1 15) - 1) fun x6 => lp (laF n w a x5) n (-1, x6, s))) := rfl
  have unc : f_X7_latest n nw w a c = (cl (f_X7_wayAt n nw w c) fun q1 => oc q1 (some (-2, c)) fun w2 => ck (decide (w2 < nw)) (cl (f_X7_between n a 0 2400) fun q4 => if q4 = 0 then some (-2, c) else bn ((c.2.1.1 6) - 1) fun x6 => lp (lcF n nw a w2) n (x6, c))) := rfl
  rw [un, unc]
  rcases way_ok (n := n) (w := w) (c := c) (s := s) l5 l10 h8 with ⟨-, w1, w2⟩ | ⟨wn, hwn, rfl, w1, w2, w3⟩
  · rw [w1, w2, cl_some, cl_some, oc_none, if_pos rfl]; exact ⟨_, _, _, rfl, rfl, hr0⟩
  rw [w1, w2, cl_some, cl_some, oc_some, if_neg (by decide), w3, ck_t, btw, m_in, cl_some, cl_some]
  simp only [bo_0]
  by_cases h1 : 0 ≤ a ∧ a ≤ 2400
  case neg => rw [ite_not_f h1, ite_not_f h1]; exact ⟨_, _, _, rfl, rfl, hr0⟩
  rw [ite_not_t h1, ite_not_t h1, ib_j (by omega) (by omega), ck_t, bn_def, bn_def, bn_def, nI_clamp (by omega), rH.2.2.2.2.2.1, e1]
  have es : ap s 12 wn (s.2 12 wn) = s := by
    refine Prod.ext rfl ?_
    funext k u
    rw [ap2]
    by_cases hk : k = 12
    · subst hk
      rw [if_pos rfl]
      split
      next q => rw [q]
      next => rfl
    · rw [if_neg hk]
  obtain ⟨r, c', s', q1, q2, q3⟩ := late_both n hn t0 h0 nw wn hwn a (s.2 12 wn) (s.1 15).toNatClampNeg n n c s e2 (by omega) (by omega) (by rw [es]; exact hr0)
  exact ⟨r, c', s', q1, q2, q3⟩
/-- a car more -/
def more1 (s : MS) (i : Nat) : MS := ap (ap (ap s 7 i (s.2 7 0)) 8 i (s.2 8 0)) 9 i (s.2 9 0)
theorem op_more (t0 : MS) (h0 : T0OK t0) (nw n : Nat) (hn : 1000 ≤ n) (w a : Int32) (c : CS) (s : MS) (hr : R t0 nw c s) : SIM t0 nw (f_X7_more n nw w a c) (f_X8_more n w a s) := by
  have hr0 := hr
  obtain ⟨rH, rK, rC, ⟨l5, l10, h8, hw⟩, rP, rT, rX, rS, rM⟩ := hr
  have z0 : (0 : Int32).toInt = 0 := by decide
  obtain ⟨n1, n2⟩ := RCars_n rC
  have un : f_X8_more n w a s = (cl (f_X8_isWay n w s) fun q1 => if q1 = 0 then some (-2, s) else cl (f_X8_in n a 0 2400) fun q3 => if q3 = 0 then some (-2, s) else if (s.1 6) = 0 then some (-2, s) else lp (moF n w a) n (0, s)) := rfl
  have unc : f_X7_more n nw w a c = (cl (f_X7_wayAt n nw w c) fun q1 => oc q1 (some (-2, c)) fun w2 => ck (decide (w2 < nw)) (cl (f_X7_between n a 0 2400) fun q4 => if q4 = 0 then some (-2, c) else if (c.2.2.2.1.1 0) = 0 then some (-2, c) else lp (mcF n nw a w2) n (0, c))) := rfl
  rw [un, unc]
  rcases way_ok (n := n) (w := w) (c := c) (s := s) l5 l10 h8 with ⟨-, w1, w2⟩ | ⟨wn, hwn, rfl, w1, w2, w3⟩
  · rw [w1, w2, cl_some, cl_some, oc_none, if_pos rfl]; exact ⟨_, _, _, rfl, rfl, hr0⟩
  rw [w1, w2, cl_some, cl_some, oc_some, if_neg (show ¬ (1 : Int32) = 0 by decide), w3, ck_t, btw, m_in, cl_some, cl_some, rC.1]
  simp only [bo_0]
  by_cases h1 : 0 ≤ a ∧ a ≤ 2400
  case neg => rw [ite_not_f h1, ite_not_f h1]; exact ⟨_, _, _, rfl, rfl, hr0⟩
  rw [ite_not_t h1, ite_not_t h1]
  by_cases hc0 : s.1 6 = 0
  · rw [if_pos hc0, if_pos hc0]; exact ⟨_, _, _, rfl, rfl, hr0⟩
  rw [if_neg hc0, if_neg hc0]
  generalize hcn : (s.1 6).toNatClampNeg = cn at n1 n2
  have hcn0 : 0 < cn := by
    apply Classical.byContradiction
    intro q
    have : cn = 0 := by omega
    rw [this] at n1
    exact hc0 n1
  refine sim_lp (fun x y => ∃ k, k ≤ 21 ∧ x.1 = nI k ∧ y.1 = nI k ∧ R t0 nw x.2 y.2 ∧ y.2.1 6 = nI cn ∧ ∀ i, cn ≤ i → i + 1 < cn + k → y.2.2 7 i = y.2.2 7 0 ∧ y.2.2 8 i = y.2.2 8 0 ∧ y.2.2 9 i = y.2.2 9 0) (fun x => 22 - x.1.toNatClampNeg) ?_ n n (0, c) (0, s) ⟨0, by omega, rfl, rfl, hr0, n1, fun i h1 h2 => by omega⟩ (by show 22 - _ < n; omega) (by show 22 - _ < n; omega)
  rintro ⟨k', c1⟩ ⟨k'', s1⟩ ⟨k, hk, rfl, rfl, hR, h6, hcp⟩
  have hR : R t0 nw c1 s1 := hR
  have h6 : s1.1 6 = nI cn := h6
  have hcp : ∀ i, cn ≤ i → i + 1 < cn + k → s1.2 7 i = s1.2 7 0 ∧ s1.2 8 i = s1.2 8 0 ∧ s1.2 9 i = s1.2 9 0 := hcp
  by_cases h20 : k = 21
  · subst h20
    refine Or.inr ⟨(-1, c1), (-1, s1), ⟨rfl, hR⟩, fun self => ?_, fun self => ?_⟩
    · unfold mcF
      dsimp only
      rw [if_pos (by decide)]
    · unfold moF
      dsimp only
      rw [if_pos (by decide)]
  have hn20 : ¬ (20 : Int32) < nI k := by rw [lt_i, nI_toInt (by omega), show (20 : Int32).toInt = 20 by decide]; omega
  -- the reference's cars now
  obtain ⟨t9, ht9⟩ : ∃ t9, t9 = (if k = 0 then s1 else more1 s1 (cn + k - 1)) := ⟨_, rfl⟩
  have t91 : t9.1 = s1.1 := by rw [ht9]; split <;> rfl
  have t9o : ∀ q, q ≠ 7 → q ≠ 8 → q ≠ 9 → t9.2 q = s1.2 q := fun q h7 h8 h9 => by
    rw [ht9]
    split
    · rfl
    · unfold more1; funext u; rw [ap2, if_neg h9, ap2, if_neg h8, ap2, if_neg h7]
  have t9c : ∀ q, q = 7 ∨ q = 8 ∨ q = 9 → ∀ i, t9.2 q i = if 0 < k ∧ i = cn + k - 1 then s1.2 q 0 else s1.2 q i := fun q hq i => by
    rw [ht9]
    by_cases e : k = 0
    · rw [if_pos e, if_neg (by omega)]
    · rw [if_neg e]
      unfold more1
      rcases hq with rfl | rfl | rfl
      · rw [ap2, if_neg (by decide), ap2, if_neg (by decide), ap2, if_pos rfl]
        by_cases e2 : i = cn + k - 1
        · rw [if_pos e2, if_pos (by omega)]
        · rw [if_neg e2, if_neg (by omega)]
      · have q8 : (ap s1 7 (cn + k - 1) (s1.2 7 0)).2 8 i = s1.2 8 i := by rw [ap2, if_neg (by decide)]
        rw [ap2, if_neg (by decide), ap2, if_pos rfl, q8]
        by_cases e2 : i = cn + k - 1
        · rw [if_pos e2, if_pos (by omega)]
        · rw [if_neg e2, if_neg (by omega)]
      · have q9 : (ap (ap s1 7 (cn + k - 1) (s1.2 7 0)) 8 (cn + k - 1) (s1.2 8 0)).2 9 i = s1.2 9 i := by rw [ap2, if_neg (by decide), ap2, if_neg (by decide)]
        rw [ap2, if_pos rfl, q9]
        by_cases e2 : i = cn + k - 1
        · rw [if_pos e2, if_pos (by omega)]
        · rw [if_neg e2, if_neg (by omega)]
  have t9l : ∀ q, q = 7 ∨ q = 8 ∨ q = 9 → ∀ i, i < cn → t9.2 q i = s1.2 q i := fun q hq i hi => by rw [t9c q hq, if_neg (by omega)]
  have hRt : R t0 nw c1 t9 := R_dsm0 hR ⟨fun j _ _ _ => by rw [t91], fun j hj => t9o j (by omega) (by omega) (by omega), fun i hi => by
    rw [h6, nI_toInt (by omega)] at hi
    exact ⟨t9l 7 (by omega) i (by omega), t9l 8 (by omega) i (by omega), t9l 9 (by omega) i (by omega)⟩⟩
  have t6 : t9.1 6 = nI cn := by rw [t91, h6]
  have t6c : (t9.1 6).toNatClampNeg = cn := by rw [t6, nI_clamp (by omega)]
  have hcopy : ∀ i, cn ≤ i → i < cn + k → t9.2 7 i = t9.2 7 0 ∧ t9.2 8 i = t9.2 8 0 ∧ t9.2 9 i = t9.2 9 0 := fun i h1 h2 => by
    rw [t9l 7 (by omega) 0 hcn0, t9l 8 (by omega) 0 hcn0, t9l 9 (by omega) 0 hcn0, t9c 7 (by omega), t9c 8 (by omega), t9c 9 (by omega)]
    by_cases e : 0 < k ∧ i = cn + k - 1
    · rw [if_pos e, if_pos e, if_pos e]; exact ⟨rfl, rfl, rfl⟩
    · rw [if_neg e, if_neg e, if_neg e]; exact hcp i h1 (by omega)
  have hown := cars_own n hRt.2.2.1
  rw [t6c] at hown
  have hcar : ∀ c', c' < cn + k → IR (t9.2 7 c') 1 60 ∧ IR (t9.2 8 c') 1 30 ∧ ∀ m, m < 120 → f_X0_roomOf n (nI c') (nI m) c1.2.2.2.1 = some (if goP (t9.2 9 c') (t9.2 8 c') (nI m) then t9.2 7 c' else 0) := fun c' hc' => by
    by_cases hlt : c' < cn
    · exact hown c' hlt
    · obtain ⟨g1, g2, g3⟩ := hcopy c' (by omega) hc'
      obtain ⟨o1, o2, -⟩ := hown 0 hcn0
      rw [g1, g2, g3]
      exact ⟨o1, o2, fun m hm => c_room n c' 0 (nI m) c1.2.2.2.1 t9 hRt.2.2.1 ⟨by rw [nI_toInt (by omega)]; omega, by rw [nI_toInt (by omega)]; omega⟩ (by rw [t6c]; exact hcn0) (Or.inr ⟨by rw [t6c]; omega, rfl⟩) (by omega)⟩
  obtain ⟨-, -, -, ⟨-, -, h8', hwy⟩, -⟩ := id hRt
  obtain ⟨y1, y2, -⟩ := hwy wn hwn
  obtain ⟨v, D', N', T', s', p1, p2, p3, p4, p5⟩ := lb_both n hn t0 h0 nw c1 t9 t9 hRt wn hwn (t9.2 12 wn) (nI k) (cn + k) (by omega) rfl (fun _ _ _ _ _ => rfl) rfl hcar (by rw [t6, nI_ad])
  have hR' := R_dsm hRt (DSM_ds p4) _ T' D' N' p5
  have cc : ∀ self, mcF n nw a wn self (nI k, c1) = (if a < v then self (nI (k + 1), (c1.1, c1.2.1, c1.2.2.1, c1.2.2.2.1, c1.2.2.2.2.1, c1.2.2.2.2.2.1, c1.2.2.2.2.2.2.1, va_up c1.2.2.2.2.2.2.2.1 (t9.1 22).toNatClampNeg T', c1.2.2.2.2.2.2.2.2.1, D', N')) else some (nI k, (c1.1, c1.2.1, c1.2.2.1, c1.2.2.2.1, c1.2.2.2.2.1, c1.2.2.2.2.2.1, c1.2.2.2.2.2.2.1, va_up c1.2.2.2.2.2.2.2.1 (t9.1 22).toNatClampNeg T', c1.2.2.2.2.2.2.2.2.1, D', N'))) := fun self => by
    unfold mcF
    dsimp only
    rw [if_neg hn20, y2, p1, cl_some, nI_succ]
  have mc : ∀ self, moF n (nI wn) a self (nI k, s1) = (if a < v then self (nI (k + 1), s') else some (nI k, s')) := fun self => by
    have K10 : (cl (f_X8_day n (nI wn) ((t9.1 6) + nI k) t9) fun q11 => cl (f_X8_leftOfAll n q11) fun q12 => if a < q12 then self (nI k + 1, q11) else some (nI k, q11)) = (if a < v then self (nI (k + 1), s') else some (nI k, s')) := by
      rw [t6, nI_ad, p2, cl_some, p3, cl_some, nI_succ]
    rw [← K10]
    unfold moF
    dsimp only
    simp only [jn_def]
    rw [if_neg hn20]
    by_cases hk0 : k = 0
    · have e9 : t9 = s1 := by rw [ht9, if_pos hk0]
      rw [if_pos (by rw [hk0]; decide), e9]
    · have hkp : ¬ nI k ≤ 0 := by rw [le_i, nI_toInt (by omega), z0]; omega
      have e9 : t9 = more1 s1 (cn + k - 1) := by rw [ht9, if_neg hk0]
      have ei : nI cn + nI k - 1 = nI (cn + k - 1) := by rw [nI_ad, nI_pd _ (by omega)]
      have q8 : (ap s1 7 (cn + k - 1) (s1.2 7 0)).2 8 0 = s1.2 8 0 := by rw [ap2, if_neg (by decide)]
      have q9 : ∀ y, (ap (ap s1 7 (cn + k - 1) (s1.2 7 0)) 8 (cn + k - 1) y).2 9 0 = s1.2 9 0 := fun y => by rw [ap2, if_neg (by decide), ap2, if_neg (by decide)]
      rw [if_neg hkp, show ib 0 24 = true by decide, ck_t, bn_def, show (0 : Int32).toNatClampNeg = 0 by decide, h6, ei, nI_clamp (by omega), ib_j (by omega) (by omega), ck_t, bn_def, ck_t, bn_def, ap1, h6, ei, nI_clamp (by omega), ib_j (by omega) (by omega), ck_t, bn_def, ck_t, bn_def, ap1, ap1, h6, ei, nI_clamp (by omega), ib_j (by omega) (by omega), ck_t, bn_def, q8, q9, e9]
      rfl
  have s'6 : s'.1 6 = nI cn := by rw [p4.1 6 (by decide) (by decide) (by decide), t6]
  have s'q : ∀ q, q < 12 → s'.2 q = t9.2 q := fun q hq => p4.2 q (by omega)
  by_cases hav : a < v
  · refine Or.inl ⟨(nI (k + 1), _), (nI (k + 1), s'), ⟨k + 1, by omega, rfl, rfl, hR', s'6, fun i h1 h2 => ?_⟩, ?_, fun self => by rw [cc, if_pos hav], fun self => by rw [mc, if_pos hav]⟩
    · show s'.2 7 i = s'.2 7 0 ∧ s'.2 8 i = s'.2 8 0 ∧ s'.2 9 i = s'.2 9 0
      rw [s'q 7 (by omega), s'q 8 (by omega), s'q 9 (by omega)]
      exact hcopy i h1 (by omega)
    · show 22 - (nI (k + 1)).toNatClampNeg < 22 - (nI k).toNatClampNeg
      rw [nI_clamp (by omega), nI_clamp (by omega)]; omega
  · exact Or.inr ⟨(nI k, _), (nI k, s'), ⟨rfl, hR'⟩, fun self => by rw [cc, if_neg hav], fun self => by rw [mc, if_neg hav]⟩
