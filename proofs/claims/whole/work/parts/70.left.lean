def rdF (n : Nat) (a2 : Int32) (q5 : MS) : ((Int32 × Int32) → Option (Int32 × MS)) → (Int32 × Int32) → Option (Int32 × MS) := fun K7 (t6 : Int32 × Int32) =>
  if (q5.1 6) ≤ t6.2 then (
    some (t6.1, q5))
  else (
    jn (fun (t9 : Int32) =>
      K7 (t9, (t6.2 + 1))) fun K10 =>
    jn (fun (t11 : Unit) =>
      ck (ib t6.2 24) <| bn (q5.2 40 (Int32.toNatClampNeg t6.2)) fun x13 =>
      bn (t6.1 + x13) fun x14 =>
      K10 x14) fun K12 =>
    if a2 = (-1) then (
      K12 ())
    else (
      if t6.2 = a2 then (
        K12 ())
      else (
        K10 t6.1)))
def dwF (n : Nat) (a2 : Int32) (a3 : Int32) (q7 : MS) : ((Int32 × Int32) → Option (Int32 × MS)) → (Int32 × Int32) → Option (Int32 × MS) := fun K9 (t8 : Int32 × Int32) =>
  if (q7.1 1) ≤ t8.2 then (
    some (t8.1, q7))
  else (
    jn (fun (t11 : Int32) =>
      K9 (t11, (t8.2 + 1))) fun K12 =>
    jn (fun (t13 : Unit) =>
      ck (ib ((120 * t8.2) + a3) 720) <| bn (q7.2 41 (Int32.toNatClampNeg ((120 * t8.2) + a3))) fun x15 =>
      bn (t8.1 + x15) fun x16 =>
      K12 x16) fun K14 =>
    if a2 = (-1) then (
      K14 ())
    else (
      if t8.2 = a2 then (
        K14 ())
      else (
        K12 t8.1)))
def bhF (n : Nat) (a2 : Int32) (q5 : MS) : ((Int32) → Option (Int32 × MS)) → (Int32) → Option (Int32 × MS) := fun K7 (t6 : Int32) =>
  if (q5.1 15) ≤ t6 then (
    some ((-1), q5))
  else (
    lp (fun K10 (t9 : Int32 × Int32) =>
      if (q5.1 1) ≤ t9.2 then (
        if t9.1 < a2 then (
          K7 (t6 + 1))
        else (
          some (t6, q5)))
      else (
        ck (ib ((120 * t9.2) + t6) 720) <| bn (q5.2 41 (Int32.toNatClampNeg ((120 * t9.2) + t6))) fun x13 =>
        bn (t9.1 + x13) fun x14 =>
        K10 (x14, (t9.2 + 1)))) n (0, 0))
def bhI (n : Nat) (a2 : Int32) (q5 : MS) (K7 : Int32 → Option (Int32 × MS)) (t6 : Int32) : ((Int32 × Int32) → Option (Int32 × MS)) → (Int32 × Int32) → Option (Int32 × MS) := fun K10 (t9 : Int32 × Int32) =>
  if (q5.1 1) ≤ t9.2 then (
    if t9.1 < a2 then (
      K7 (t6 + 1))
    else (
      some (t6, q5)))
  else (
    ck (ib ((120 * t9.2) + t6) 720) <| bn (q5.2 41 (Int32.toNatClampNeg ((120 * t9.2) + t6))) fun x13 =>
    bn (t9.1 + x13) fun x14 =>
    K10 (x14, (t9.2 + 1)))
def hmF (n : Nat) (q2 : Int32) : ((Int64 × Int32 × MS) → Option (Int64 × MS)) → (Int64 × Int32 × MS) → Option (Int64 × MS) := fun K4 (t3 : Int64 × Int32 × MS) =>
  if (t3.2.2.1 1) ≤ t3.2.1 then (
    some (t3.1, t3.2.2))
  else (
    lp (fun K7 (t6 : Int32 × MS) =>
      if 6 ≤ t6.1 then (
        ck (ib t3.2.1 6) <| bn (t6.2.2 37 (Int32.toNatClampNeg t3.2.1)) fun x9 =>
        ck (ib 0 6) <| bn (ap t6.2 34 (Int32.toNatClampNeg 0) x9) fun z10 =>
        ck (ib 1 6) <| bn (ap z10 34 (Int32.toNatClampNeg 1) q2) fun z11 =>
        cl (f_X8_gives n 2 z11) fun q12 =>
        cl (f_X8_held n q12.1 0 99) fun q13 =>
        cl (f_X8_leftOf n t3.2.1 q12.2) fun q14 =>
        bn (t3.1 + ((Int32.toInt64 q13) * (Int32.toInt64 q14))) fun x15 =>
        K4 (x15, (t3.2.1 + 1), q12.2))
      else (
        ck (ib t6.1 6) <| bn (ap t6.2 34 (Int32.toNatClampNeg t6.1) 0) fun z16 =>
        K7 ((t6.1 + 1), z16))) n (0, t3.2.2))
def hmI (n : Nat) (q2 : Int32) (K4 : (Int64 × Int32 × MS) → Option (Int64 × MS)) (t3 : Int64 × Int32 × MS) : ((Int32 × MS) → Option (Int64 × MS)) → (Int32 × MS) → Option (Int64 × MS) := fun K7 (t6 : Int32 × MS) =>
  if 6 ≤ t6.1 then (
    ck (ib t3.2.1 6) <| bn (t6.2.2 37 (Int32.toNatClampNeg t3.2.1)) fun x9 =>
    ck (ib 0 6) <| bn (ap t6.2 34 (Int32.toNatClampNeg 0) x9) fun z10 =>
    ck (ib 1 6) <| bn (ap z10 34 (Int32.toNatClampNeg 1) q2) fun z11 =>
    cl (f_X8_gives n 2 z11) fun q12 =>
    cl (f_X8_held n q12.1 0 99) fun q13 =>
    cl (f_X8_leftOf n t3.2.1 q12.2) fun q14 =>
    bn (t3.1 + ((Int32.toInt64 q13) * (Int32.toInt64 q14))) fun x15 =>
    K4 (x15, (t3.2.1 + 1), q12.2))
  else (
    ck (ib t6.1 6) <| bn (ap t6.2 34 (Int32.toNatClampNeg t6.1) 0) fun z16 =>
    K7 ((t6.1 + 1), z16))
def hdF (n : Nat) (s0 : MS) (s2 : MS) : ((Int64 × Int32 × MS × MS) → Option (Int64 × MS × MS)) → (Int64 × Int32 × MS × MS) → Option (Int64 × MS × MS) := fun K4 (t3 : Int64 × Int32 × MS × MS) =>
  if (s2.1 0) ≤ t3.2.1 then (
    some (t3.1, t3.2.2.1, t3.2.2.2))
  else (
    ck (ib t3.2.1 6) <| bn (s0.2 4 (Int32.toNatClampNeg t3.2.1)) fun x6 =>
    ck (ib 0 6) <| bn (ap t3.2.2.1 0 (Int32.toNatClampNeg 0) x6) fun z7 =>
    cl (f_X5_value n 2 t3.2.2.2 z7) fun q8 =>
    cl (f_X7_bounded n q8.1 0 99) fun q9 =>
    cl (f_X1_leftOf n t3.2.1 s0 s2) fun q10 =>
    bn (t3.1 + ((Int32.toInt64 q9) * (Int32.toInt64 q10))) fun x11 =>
    K4 (x11, (t3.2.1 + 1), z7, q8.2))
def ddF (n : Nat) (a3 : Int32) (s0 : MS) (s1 : MS) : ((Int32 × Int32) → Option Int32) → (Int32 × Int32) → Option Int32 := fun K3 (t2 : Int32 × Int32) =>
  if (s1.1 0) ≤ t2.2 then (
    some t2.1)
  else (
    ck (ib t2.2 6) <|
    ck (ib a3 120) <| bn (s0.2 (30 + Int32.toNatClampNeg t2.2) (Int32.toNatClampNeg a3)) fun x6 =>
    bn (t2.1 + x6) fun x7 =>
    K3 (x7, (t2.2 + 1)))
-- OPS: left, waits, rode, down
theorem sum1 (x : Int32) (i k : Nat) (h : i < k) : sumI (fun u => if u = i then x else 0) k = x := by
  rw [sumI_upd (fun _ => 0) i x k h, sumI_z, Int32.zero_add, Int32.sub_zero]
theorem c_sortAll (n nw : Nat) (a : Int32) (c : CS) : f_X7_isSortOrAll n nw a c = some (bo ((-1) ≤ a ∧ a ≤ c.2.1.1 0 - 1)) := by
  unfold f_X7_isSortOrAll
  rw [btw, cl_some, isz_bo, ck_t]
/-- a sort, or all of them -/
theorem sort_all {a k : Int32} (hk : IR k 0 6) : ((-1) ≤ a ∧ a ≤ k - 1) = (a = -1 ∨ (0 ≤ a ∧ a ≤ k - 1)) := by
  have z0 : (0 : Int32).toInt = 0 := by decide
  have z1 : (1 : Int32).toInt = 1 := by decide
  have zm : (-1 : Int32).toInt = -1 := by decide
  have hs : (k - 1).toInt = k.toInt - 1 := by rw [sub_i _ _ (by rw [z1]; have := hk.1; have := hk.2; omega), z1]
  rw [le_i, le_i, le_i, eq_i, hs, zm, z0]
  have := hk.1
  exact propext ⟨fun q => by omega, fun q => by omega⟩
theorem c_rodeAll (n K : Nat) (hn : 7 ≤ n) (hK : K ≤ 6) (D h : MS) (h0 : h.1 0 = nI K) : f_X1_rodeInAll n D h = some (sumI (D.2 7) K) := by
  unfold f_X1_rodeInAll
  exact sum_loop n K (by omega) hK _ h0 (D.2 7)
theorem m_leftAll (n K : Nat) (hn : 7 ≤ n) (hK : K ≤ 6) (s : MS) (h1 : s.1 1 = nI K) : f_X8_leftOfAll n s = some (sumI (s.2 2) K - sumI (s.2 42) K) := by
  unfold f_X8_leftOfAll
  rw [← sumI_sub]
  refine lp_st K (fun j => (sumI (fun i => s.2 2 i - s.2 42 i) j, nI j)) (fun j hj self => ?_) (fun self => ?_) n (by omega) rfl
  · dsimp only
    unfold f_X8_leftOf
    rw [h1, if_neg (nI_ge hj (by omega)), ib_j (by omega) (by omega), ck_t, bn_def, ck_t, bn_def, cl_some, bn_def, nI_clamp (by omega), nI_succ]
    rfl
  · dsimp only
    rw [h1, if_pos (Int32.le_refl _)]
/-- a way that there is -/
theorem way_ok {n nw : Nat} {w : Int32} {c : CS} {s : MS} (l5 : c.1.1 5 = nI nw) (l10 : s.1 10 = nI nw) (h8 : nw ≤ 8) : (¬ (0 ≤ w.toInt ∧ w.toInt < (nw : Int)) ∧ f_X7_wayAt n nw w c = some none ∧ f_X8_isWay n w s = some 0) ∨ ∃ wn, wn < nw ∧ w = nI wn ∧ f_X7_wayAt n nw w c = some (some wn) ∧ f_X8_isWay n w s = some 1 ∧ decide (wn < nw) = true := by
  by_cases h : 0 ≤ w.toInt ∧ w.toInt < (nw : Int)
  · right
    refine ⟨w.toNatClampNeg, nn_lt h.1 h.2, nI_eqI (nn_eq h.1).symm, ?_, ?_, decide_eq_true (nn_lt h.1 h.2)⟩
    · rw [c_wayAt n nw w _ l5 h8, if_pos h]
    · rw [m_wayAt nw n w s l10 h8]
      unfold bo
      rw [if_pos h]
  · left
    refine ⟨h, ?_, ?_⟩
    · rw [c_wayAt n nw w _ l5 h8, if_neg h]
    · rw [m_wayAt nw n w s l10 h8]
      unfold bo
      rw [if_neg h]
theorem op_left (t0 : MS) (h0 : T0OK t0) (nw n : Nat) (hn : 1000 ≤ n) (w a : Int32) (c : CS) (s : MS) (hr : R t0 nw c s) : SIM t0 nw (f_X7_left n nw w a c) (f_X8_left n w a s) := by
  have hr0 := hr
  obtain ⟨rH, rK, rC, ⟨l5, l10, h8, hw⟩, rP, rT, rX, rS, rM⟩ := hr
  have e0 := rH.1
  have i0 := rH.2.1
  obtain ⟨k1, k2⟩ := RHill_n rH
  unfold f_X7_left f_X8_left
  rcases way_ok (n := n) (w := w) (c := c) (s := s) l5 l10 h8 with ⟨-, w1, w2⟩ | ⟨wn, hwn, rfl, w1, w2, w3⟩
  · rw [w1, w2, cl_some, cl_some, oc_none, if_pos rfl]; exact ⟨_, _, _, rfl, rfl, hr0⟩
  rw [w1, w2, cl_some, cl_some, oc_some, if_neg (by decide), w3, ck_t, c_sortAll, cl_some]
  simp only [bo_0, jn_def, m_sort, cl_some, e0, sort_all i0]
  obtain ⟨D', N', T', s', B, ca, as, rk, d1, d2, d3, d4, d5⟩ := day_own n hn t0 h0 nw c s hr0 wn hwn
  have hR := R_dsm hr0 (DSM_ds d4) _ T' D' N' d5
  have hs1 : s'.1 1 = nI (s.1 1).toNatClampNeg := by rw [d4.1 1 (by decide) (by decide) (by decide)]; exact k1
  have hs2 : s'.2 2 = s.2 2 := d4.2 2 (by omega)
  obtain ⟨-, -, -, -, -, -, ⟨j1, j2, j3⟩, -⟩ := d3
  by_cases h1 : a = -1
  · rw [ite_not_t (Or.inl h1), if_pos h1, d1, d2, cl_some, cl_some, if_pos h1]
    dsimp only
    unfold f_X1_leftOf
    rw [if_pos h1, c_allUp n (by omega) _ s rH, cl_some, c_rodeAll n (s.1 1).toNatClampNeg (by omega) k2 D' c.2.1 (by rw [e0]; exact k1), cl_some, cl_some, m_leftAll n (s.1 1).toNatClampNeg (by omega) k2 s' hs1, cl_some, hs2, sumI_congr (f := D'.2 7) (g := s'.2 42) _ (fun i hi => j1 i hi)]
    exact ⟨_, _, _, rfl, rfl, hR⟩
  · by_cases h2 : 0 ≤ a ∧ a ≤ s.1 1 - 1
    · obtain ⟨p1, p2, p3⟩ := sort_i i0 h2
      rw [ite_not_t (Or.inr h2), if_neg h1, ite_not_t h2, d1, d2, cl_some, cl_some, if_neg h1]
      dsimp only
      unfold f_X1_leftOf f_X8_leftOf
      have hlt : a.toNatClampNeg < (s.1 1).toNatClampNeg := nn_lt p1 (by have := nn_eq i0.1; omega)
      rw [if_neg h1, p3, ck_t, bn_def, ck_t, bn_def, cl_some, ck_t, bn_def, ck_t, bn_def, cl_some, hs2, (rH.2.2.1 _ (by omega)).1, j1 _ hlt]
      exact ⟨_, _, _, rfl, rfl, hR⟩
    · rw [ite_not_f (fun q => q.elim h1 h2), if_neg h1, ite_not_f h2]; exact ⟨_, _, _, rfl, rfl, hr0⟩
theorem op_waits (t0 : MS) (h0 : T0OK t0) (nw n : Nat) (hn : 1000 ≤ n) (w a : Int32) (c : CS) (s : MS) (hr : R t0 nw c s) : SIM t0 nw (f_X7_waits n nw w a c) (f_X8_waits n w a s) := by
  have hr0 := hr
  obtain ⟨rH, rK, rC, ⟨l5, l10, h8, hw⟩, rP, rT, rX, rS, rM⟩ := hr
  unfold f_X7_waits f_X8_waits
  rcases way_ok (n := n) (w := w) (c := c) (s := s) l5 l10 h8 with ⟨-, w1, w2⟩ | ⟨wn, hwn, rfl, w1, w2, w3⟩
  · rw [w1, w2, cl_some, cl_some, oc_none, if_pos rfl]; exact ⟨_, _, _, rfl, rfl, hr0⟩
  rw [w1, w2, cl_some, cl_some, oc_some, if_neg (by decide), w3, ck_t, btw, m_in, cl_some, cl_some]
  simp only [bo_0]
  obtain ⟨D', N', T', s', B, ca, as, rk, d1, d2, d3, d4, d5⟩ := day_own n hn t0 h0 nw c s hr0 wn hwn
  have hR := R_dsm hr0 (DSM_ds d4) _ T' D' N' d5
  obtain ⟨-, -, -, -, -, -, -, ⟨j1, j2⟩, -⟩ := d3
  by_cases h1 : 0 ≤ a ∧ a ≤ 1
  case neg => rw [ite_not_f h1, ite_not_f h1]; exact ⟨_, _, _, rfl, rfl, hr0⟩
  rw [ite_not_t h1, ite_not_t h1, d1, d2, cl_some, cl_some]
  dsimp only
  rw [j1, j2]
  by_cases h2 : a = 0
  · rw [if_pos h2, if_pos h2]; exact ⟨_, _, _, rfl, rfl, hR⟩
  · rw [if_neg h2, if_neg h2]; exact ⟨_, _, _, rfl, rfl, hR⟩
theorem m_rode (n cN : Nat) (hn : 30 ≤ n) (hc : cN ≤ 4) (a : Int32) (s : MS) (h6 : s.1 6 = nI cN) : lp (rdF n a s) n (0, 0) = some (sumI (fun k => if a = -1 ∨ nI k = a then s.2 40 k else 0) cN, s) := by
  refine lp_st cN (fun j => (sumI (fun k => if a = -1 ∨ nI k = a then s.2 40 k else 0) j, nI j)) (fun j hj self => ?_) (fun self => ?_) n (by omega) rfl
  · unfold rdF
    dsimp only
    rw [h6, if_neg (nI_ge hj (by omega)), ib_j (by omega) (by omega), nI_clamp (by omega), nI_succ, sumI_s]
    simp only [jn_def, ck_t, bn_def]
    by_cases h1 : a = -1
    · rw [if_pos h1, if_pos (Or.inl h1)]
    · rw [if_neg h1]
      by_cases h2 : nI j = a
      · rw [if_pos h2, if_pos (Or.inr h2)]
      · rw [if_neg h2, if_neg (fun q => q.elim h1 h2), Int32.add_zero]
  · unfold rdF
    dsimp only
    rw [h6, if_pos (Int32.le_refl _)]
theorem op_rode (t0 : MS) (h0 : T0OK t0) (nw n : Nat) (hn : 1000 ≤ n) (w a : Int32) (c : CS) (s : MS) (hr : R t0 nw c s) : SIM t0 nw (f_X7_rode n nw w a c) (f_X8_rode n w a s) := by
  have hr0 := hr
  obtain ⟨rH, rK, rC, ⟨l5, l10, h8, hw⟩, rP, rT, rX, rS, rM⟩ := hr
  have zm : (-1 : Int32).toInt = -1 := by decide
  have e0 := rH.1
  obtain ⟨k1, k2⟩ := RHill_n rH
  obtain ⟨n1, n2⟩ := RCars_n rC
  have ic : IR (s.1 6) 0 6 := ⟨rC.2.1.1, by have := rC.2.1.2; omega⟩
  have un : f_X8_rode n w a s = (cl (f_X8_isWay n w s) fun q1 => if q1 = 0 then some (-2, s) else (if a = -1 then (cl (f_X8_day n w (s.1 6) s) fun q5 => lp (rdF n a q5) n (0, 0)) else cl (f_X8_in n a 0 ((s.1 6) - 1)) fun q18 => if q18 = 0 then some (-2, s) else (cl (f_X8_day n w (s.1 6) s) fun q5 => lp (rdF n a q5) n (0, 0)))) := rfl
  unfold f_X7_rode
  rw [un]
  rcases way_ok (n := n) (w := w) (c := c) (s := s) l5 l10 h8 with ⟨-, w1, w2⟩ | ⟨wn, hwn, rfl, w1, w2, w3⟩
  · rw [w1, w2, cl_some, cl_some, oc_none, if_pos rfl]; exact ⟨_, _, _, rfl, rfl, hr0⟩
  rw [w1, w2, cl_some, cl_some, oc_some, if_neg (by decide), w3, ck_t, btw, cl_some, m_in, cl_some]
  simp only [bo_0, rC.1, sort_all ic]
  obtain ⟨D', N', T', s', B, ca, as, rk, d1, d2, d3, d4, d5⟩ := day_own n hn t0 h0 nw c s hr0 wn hwn
  have hR := R_dsm hr0 (DSM_ds d4) _ T' D' N' d5
  obtain ⟨-, -, -, -, -, -, ⟨j1, j2, j3⟩, -⟩ := d3
  have hm := m_rode n (s.1 6).toNatClampNeg (by omega) n2 a s' (by rw [d4.1 6 (by decide) (by decide) (by decide)]; exact n1)
  by_cases h1 : a = -1
  · rw [ite_not_t (Or.inl h1), if_pos h1, d1, d2, cl_some, cl_some, if_pos h1, hm]
    dsimp only
    rw [c_rodeAll n (s.1 1).toNatClampNeg (by omega) k2 D' c.2.1 (by rw [e0]; exact k1), cl_some, sumI_congr (f := D'.2 7) (g := s'.2 42) _ (fun i hi => j1 i hi), j3, sumI_congr (g := s'.2 40) _ (fun k hk => if_pos (Or.inl h1))]
    exact ⟨_, _, _, rfl, rfl, hR⟩
  · by_cases h2 : 0 ≤ a ∧ a ≤ s.1 6 - 1
    · obtain ⟨p1, p2, p3⟩ := sort_i ic h2
      have hlt : a.toNatClampNeg < (s.1 6).toNatClampNeg := nn_lt p1 (by have := nn_eq ic.1; omega)
      rw [ite_not_t (Or.inr h2), if_neg h1, ite_not_t h2, d1, d2, cl_some, cl_some, if_neg h1, hm, ib_of p1 (by have := rC.2.1.2; omega), ck_t, bn_def]
      dsimp only
      have ea : a = nI a.toNatClampNeg := nI_eqI (nn_eq p1).symm
      rw [sumI_congr (g := fun u => if u = a.toNatClampNeg then s'.2 40 a.toNatClampNeg else 0) _ (fun k hk => ?_), sum1 _ _ _ hlt, j2 _ (by omega)]
      · exact ⟨_, _, _, rfl, rfl, hR⟩
      · by_cases e : k = a.toNatClampNeg
        · rw [if_pos e, if_pos (Or.inr (by rw [e, ← ea])), e]
        · rw [if_neg e, if_neg]
          rintro (q | q)
          · exact h1 q
          · apply e
            rw [← q, nI_clamp (by omega)]
    · rw [ite_not_f (fun q => q.elim h1 h2), if_neg h1, ite_not_f h2]; exact ⟨_, _, _, rfl, rfl, hr0⟩
theorem c_downAll (n K m : Nat) (hn : 10 ≤ n) (hK : K ≤ 6) (hm : m < 120) (D h : MS) (h0 : h.1 0 = nI K) : f_X1_downBehind n (-1) (nI m) D h = some (sumI (fun i => D.2 (30 + i) m) K) := by
  have : f_X1_downBehind n (-1) (nI m) D h = lp (ddF n (nI m) D h) n (0, 0) := rfl
  rw [this]
  refine lp_st K (fun j => (sumI (fun i => D.2 (30 + i) m) j, nI j)) (fun j hj self => ?_) (fun self => ?_) n (by omega) rfl
  · unfold ddF
    dsimp only
    rw [h0, if_neg (nI_ge hj (by omega)), ib_j (by omega) (by omega), ck_t, ib_j (by omega) (by omega), ck_t, bn_def, bn_def, nI_clamp (by omega), nI_clamp (by omega), nI_succ]
    rfl
  · unfold ddF
    dsimp only
    rw [h0, if_pos (Int32.le_refl _)]
theorem m_down (n K m : Nat) (hn : 10 ≤ n) (hK : K ≤ 6) (hm : m < 120) (a : Int32) (s : MS) (h1 : s.1 1 = nI K) : lp (dwF n a (nI m) s) n (0, 0) = some (sumI (fun k => if a = -1 ∨ nI k = a then s.2 41 (120 * k + m) else 0) K, s) := by
  refine lp_st K (fun j => (sumI (fun k => if a = -1 ∨ nI k = a then s.2 41 (120 * k + m) else 0) j, nI j)) (fun j hj self => ?_) (fun self => ?_) n (by omega) rfl
  · have e1 : (120 : Int32) * nI j + nI m = nI (120 * j + m) := by rw [show (120 : Int32) = nI 120 from rfl, nI_mu, nI_ad]
    unfold dwF
    dsimp only
    rw [h1, if_neg (nI_ge hj (by omega)), e1, ib_j (by omega) (by omega), nI_clamp (by omega), nI_succ, sumI_s]
    simp only [jn_def, ck_t, bn_def]
    by_cases h1 : a = -1
    · rw [if_pos h1, if_pos (Or.inl h1)]
    · rw [if_neg h1]
      by_cases h2 : nI j = a
      · rw [if_pos h2, if_pos (Or.inr h2)]
      · rw [if_neg h2, if_neg (fun q => q.elim h1 h2), Int32.add_zero]
  · unfold dwF
    dsimp only
    rw [h1, if_pos (Int32.le_refl _)]
theorem minute_i {a b : Int32} (hb : IR b 1 120) (h : 0 ≤ a ∧ a ≤ b - 1) : a = nI a.toNatClampNeg ∧ a.toNatClampNeg < b.toNatClampNeg ∧ a.toNatClampNeg < 120 := by
  have z0 : (0 : Int32).toInt = 0 := by decide
  have z1 : (1 : Int32).toInt = 1 := by decide
  obtain ⟨h1, h2⟩ := h
  obtain ⟨b1, b2⟩ := hb
  rw [le_i, z0] at h1
  rw [le_i, sub_i _ _ (by rw [z1]; omega), z1] at h2
  have := nn_eq h1
  have := nn_eq (x := b) (by omega)
  exact ⟨nI_eqI (by omega), by omega, by omega⟩
theorem op_down (t0 : MS) (h0 : T0OK t0) (nw n : Nat) (hn : 1000 ≤ n) (w a m : Int32) (c : CS) (s : MS) (hr : R t0 nw c s) : SIM t0 nw (f_X7_down n nw w a m c) (f_X8_down n w a m s) := by
  have hr0 := hr
  obtain ⟨rH, rK, rC, ⟨l5, l10, h8, hw⟩, rP, rT, rX, rS, rM⟩ := hr
  have e0 := rH.1
  have i0 := rH.2.1
  have e6 := rH.2.2.2.2.2.1
  have b6 := rH.2.2.2.2.2.2.1
  obtain ⟨k1, k2⟩ := RHill_n rH
  have un : f_X8_down n w a m s = (cl (f_X8_isWay n w s) fun q1 => if q1 = 0 then some (-2, s) else (if a = -1 then (cl (f_X8_in n m 0 ((s.1 15) - 1)) fun q5 => if q5 = 0 then some (-2, s) else (cl (f_X8_day n w (s.1 6) s) fun q7 => lp (dwF n a m q7) n (0, 0))) else cl (f_X8_isSort n a s) fun q20 => if q20 = 0 then some (-2, s) else (cl (f_X8_in n m 0 ((s.1 15) - 1)) fun q5 => if q5 = 0 then some (-2, s) else (cl (f_X8_day n w (s.1 6) s) fun q7 => lp (dwF n a m q7) n (0, 0))))) := rfl
  unfold f_X7_down
  rw [un]
  rcases way_ok (n := n) (w := w) (c := c) (s := s) l5 l10 h8 with ⟨-, w1, w2⟩ | ⟨wn, hwn, rfl, w1, w2, w3⟩
  · rw [w1, w2, cl_some, cl_some, oc_none, if_pos rfl]; exact ⟨_, _, _, rfl, rfl, hr0⟩
  rw [w1, w2, cl_some, cl_some, oc_some, if_neg (by decide), w3, ck_t, c_sortAll, cl_some, m_sort, cl_some, btw, cl_some, m_in, cl_some]
  simp only [bo_0, e0, e6, sort_all i0]
  obtain ⟨D', N', T', s', B, ca, as, rk, d1, d2, d3, d4, d5⟩ := day_own n hn t0 h0 nw c s hr0 wn hwn
  have hR := R_dsm hr0 (DSM_ds d4) _ T' D' N' d5
  obtain ⟨-, -, -, -, -, -, -, -, j1⟩ := d3
  by_cases h3 : 0 ≤ m ∧ m ≤ s.1 15 - 1
  case neg =>
    by_cases h1 : a = -1
    · rw [ite_not_t (Or.inl h1), ite_not_f h3, if_pos h1, ite_not_f h3]; exact ⟨_, _, _, rfl, rfl, hr0⟩
    · by_cases h2 : 0 ≤ a ∧ a ≤ s.1 1 - 1
      · rw [ite_not_t (Or.inr h2), ite_not_f h3, if_neg h1, ite_not_t h2, ite_not_f h3]; exact ⟨_, _, _, rfl, rfl, hr0⟩
      · rw [ite_not_f (fun q => q.elim h1 h2), if_neg h1, ite_not_f h2]; exact ⟨_, _, _, rfl, rfl, hr0⟩
  obtain ⟨m1, m2, m3⟩ := minute_i b6 h3
  rw [ite_not_t h3]
  have hmm := m_down n (s.1 1).toNatClampNeg m.toNatClampNeg (by omega) k2 m3 a s' (by rw [d4.1 1 (by decide) (by decide) (by decide)]; exact k1)
  rw [← m1] at hmm
  by_cases h1 : a = -1
  · rw [ite_not_t (Or.inl h1), ite_not_t h3, if_pos h1, d1, d2, cl_some, cl_some, hmm]
    dsimp only
    have hc := c_downAll n (s.1 1).toNatClampNeg m.toNatClampNeg (by omega) k2 m3 D' c.2.1 (by rw [e0]; exact k1)
    rw [← m1, ← h1] at hc
    rw [hc, cl_some, sumI_congr (f := fun k => if a = -1 ∨ nI k = a then s'.2 41 (120 * k + m.toNatClampNeg) else 0) (g := fun i => D'.2 (30 + i) m.toNatClampNeg) _ (fun k hk => by rw [if_pos (Or.inl h1), j1 k hk _ m2])]
    exact ⟨_, _, _, rfl, rfl, hR⟩
  · by_cases h2 : 0 ≤ a ∧ a ≤ s.1 1 - 1
    · obtain ⟨p1, p2, p3⟩ := sort_i i0 h2
      have hlt : a.toNatClampNeg < (s.1 1).toNatClampNeg := nn_lt p1 (by have := nn_eq i0.1; omega)
      have ea : a = nI a.toNatClampNeg := nI_eqI (nn_eq p1).symm
      rw [ite_not_t (Or.inr h2), ite_not_t h3, if_neg h1, ite_not_t h2, d1, d2, cl_some, cl_some, hmm]
      dsimp only
      unfold f_X1_downBehind
      rw [if_neg h1, p3, ck_t, m1, ib_j m3 (by omega), ck_t, bn_def, nI_clamp (by omega), cl_some]
      rw [sumI_congr (g := fun u => if u = a.toNatClampNeg then s'.2 41 (120 * a.toNatClampNeg + m.toNatClampNeg) else 0) _ (fun k hk => ?_), sum1 _ _ _ hlt, j1 _ hlt _ m2]
      · exact ⟨_, _, _, rfl, rfl, hR⟩
      · by_cases e : k = a.toNatClampNeg
        · rw [if_pos e, if_pos (Or.inr (by rw [e, ← ea])), e]
        · rw [if_neg e, if_neg]
          rintro (q | q)
          · exact h1 q
          · apply e
            rw [← q, nI_clamp (by omega)]
    · rw [ite_not_f (fun q => q.elim h1 h2), if_neg h1, ite_not_f h2]; exact ⟨_, _, _, rfl, rfl, hr0⟩
