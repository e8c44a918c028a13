-- OPS: behind, harm, choose
theorem m_bh (n K m : Nat) (hn : 10 ≤ n) (hK : K ≤ 6) (hm : m < 120) (a : Int32) (s : MS) (h1 : s.1 1 = nI K) (K7 : Int32 → Option (Int32 × MS)) : lp (bhI n a s K7 (nI m)) n (0, 0) = (if sumI (fun i => s.2 41 (120 * i + m)) K < a then K7 (nI m + 1) else some (nI m, s)) := by
  refine lp_st K (fun j => (sumI (fun i => s.2 41 (120 * i + m)) j, nI j)) (fun j hj self => ?_) (fun self => ?_) n (by omega) rfl
  · have e1 : (120 : Int32) * nI j + nI m = nI (120 * j + m) := by rw [show (120 : Int32) = nI 120 from rfl, nI_mu, nI_ad]
    unfold bhI
    dsimp only
    rw [h1, if_neg (nI_ge hj (by omega)), e1, ib_j (by omega) (by omega), ck_t, bn_def, bn_def, nI_clamp (by omega), nI_succ]
    rfl
  · unfold bhI
    dsimp only
    rw [h1, if_pos (Int32.le_refl _)]
theorem op_behind (t0 : MS) (h0 : T0OK t0) (nw n : Nat) (hn : 1000 ≤ n) (w a : Int32) (c : CS) (s : MS) (hr : R t0 nw c s) : SIM t0 nw (f_X7_behind n nw w a c) (f_X8_behind n w a s) := by
  have hr0 := hr
  obtain ⟨rH, rK, rC, ⟨l5, l10, h8, hw⟩, rP, rT, rX, rS, rM⟩ := hr
  have e0 := rH.1
  obtain ⟨k1, k2⟩ := RHill_n rH
  obtain ⟨e1, e2, e3⟩ := RHill_e rH
  have un : f_X8_behind n w a s = (cl (f_X8_isWay n w s) fun q1 => if q1 = 0 then some (-2, s) else cl (f_X8_in n a 0 2400) fun q3 => if q3 = 0 then some (-2, s) else cl (f_X8_day n w (s.1 6) s) fun q5 => lp (bhF n a q5) n 0) := rfl
  unfold f_X7_behind
  rw [un]
  rcases way_ok (n := n) (w := w) (c := c) (s := s) l5 l10 h8 with ⟨-, w1, w2⟩ | ⟨wn, hwn, rfl, w1, w2, w3⟩
  · rw [w1, w2, cl_some, cl_some, oc_none, if_pos rfl]; exact ⟨_, _, _, rfl, rfl, hr0⟩
  rw [w1, w2, cl_some, cl_some, oc_some, if_neg (by decide), w3, ck_t, btw, m_in, cl_some, cl_some]
  simp only [bo_0]
  by_cases h1 : 0 ≤ a ∧ a ≤ 2400
  case neg => rw [ite_not_f h1, ite_not_f h1]; exact ⟨_, _, _, rfl, rfl, hr0⟩
  obtain ⟨D', N', T', s', B, ca, as, rk, d1, d2, d3, d4, d5⟩ := day_own n hn t0 h0 nw c s hr0 wn hwn
  have hR := R_dsm hr0 (DSM_ds d4) _ T' D' N' d5
  obtain ⟨-, -, -, -, -, -, -, -, j1⟩ := d3
  rw [ite_not_t h1, ite_not_t h1, d1, d2, cl_some, cl_some]
  dsimp only
  have hs1 : s'.1 1 = nI (s.1 1).toNatClampNeg := by rw [d4.1 1 (by decide) (by decide) (by decide)]; exact k1
  have hs15 : s'.1 15 = nI (s.1 15).toNatClampNeg := by rw [d4.1 15 (by decide) (by decide) (by decide)]; exact e1
  have h6 : c.2.1.1 6 = nI (s.1 15).toNatClampNeg := by rw [rH.2.2.2.2.2.1]; exact e1
  refine sim_lp (fun x y => ∃ j, j ≤ (s.1 15).toNatClampNeg ∧ x = nI j ∧ y = nI j) (fun x => 121 - x.toNatClampNeg) ?_ n n 0 0 ⟨0, Nat.zero_le _, rfl, rfl⟩ (by show 121 - _ < n; omega) (by show 121 - _ < n; omega)
  rintro x y ⟨j, hj, rfl, rfl⟩
  by_cases hend : j = (s.1 15).toNatClampNeg
  · refine Or.inr ⟨(-1, _), (-1, s'), ⟨rfl, hR⟩, fun self => ?_, fun self => ?_⟩
    · rw [h6, ← hend, if_pos (Int32.le_refl _)]
    · unfold bhF
      rw [hs15, ← hend, if_pos (Int32.le_refl _)]
  · have hge : ¬ nI (s.1 15).toNatClampNeg ≤ nI j := nI_ge (by omega) (by omega)
    have hcd := c_downAll n (s.1 1).toNatClampNeg j (by omega) k2 (by omega) D' c.2.1 (by rw [e0]; exact k1)
    have hmd : ∀ self, bhF n a s' self (nI j) = (if sumI (fun i => s'.2 41 (120 * i + j)) (s.1 1).toNatClampNeg < a then self (nI j + 1) else some (nI j, s')) := fun self => by
      have : bhF n a s' self (nI j) = (if (s'.1 15) ≤ nI j then some (-1, s') else lp (bhI n a s' self (nI j)) n (0, 0)) := rfl
      rw [this, hs15, if_neg hge, m_bh n _ j (by omega) k2 (by omega) a s' hs1]
    have heq : sumI (fun i => s'.2 41 (120 * i + j)) (s.1 1).toNatClampNeg = sumI (fun i => D'.2 (30 + i) j) (s.1 1).toNatClampNeg := sumI_congr _ (fun i hi => (j1 i hi j (by omega)).symm)
    by_cases hlt : sumI (fun i => D'.2 (30 + i) j) (s.1 1).toNatClampNeg < a
    · refine Or.inl ⟨nI (j + 1), nI (j + 1), ⟨j + 1, by omega, rfl, rfl⟩, ?_, fun self => ?_, fun self => ?_⟩
      · show 121 - (nI (j + 1)).toNatClampNeg < 121 - (nI j).toNatClampNeg
        rw [nI_clamp (by omega), nI_clamp (by omega)]; omega
      · rw [h6, if_neg hge, hcd, cl_some, if_pos hlt, nI_succ]
      · rw [hmd, heq, if_pos hlt, nI_succ]
    · refine Or.inr ⟨(nI j, _), (nI j, s'), ⟨rfl, hR⟩, fun self => ?_, fun self => ?_⟩
      · rw [h6, if_neg hge, hcd, cl_some, if_neg hlt]
      · rw [hmd, heq, if_neg hlt]
def hdv (v : Int32) : Int32 := hd 0 99 v
def hmO (n : Nat) (q2 : Int32) (K4 : (Int64 × Int32 × MS) → Option (Int64 × MS)) (v : Int64) (i : Int32) (y : MS) : Option (Int64 × MS) :=
  ck (ib i 6) <| bn (y.2 37 (Int32.toNatClampNeg i)) fun x9 =>
  ck (ib 0 6) <| bn (ap y 34 (Int32.toNatClampNeg 0) x9) fun z10 =>
  ck (ib 1 6) <| bn (ap z10 34 (Int32.toNatClampNeg 1) q2) fun z11 =>
  cl (f_X8_gives n 2 z11) fun q12 =>
  cl (f_X8_held n q12.1 0 99) fun q13 =>
  cl (f_X8_leftOf n i q12.2) fun q14 =>
  bn (v + ((Int32.toInt64 q13) * (Int32.toInt64 q14))) fun x15 =>
  K4 (x15, (i + 1), q12.2)
theorem hmI_eq (n : Nat) (q2 : Int32) (K4 : (Int64 × Int32 × MS) → Option (Int64 × MS)) (v : Int64) (i : Int32) (s : MS) (K7 : (Int32 × MS) → Option (Int64 × MS)) (j : Int32) (y : MS) : hmI n q2 K4 (v, i, s) K7 (j, y) = (if 6 ≤ j then hmO n q2 K4 v i y else ck (ib j 6) (bn (ap y 34 (Int32.toNatClampNeg j) 0) fun z16 => K7 (j + 1, z16))) := rfl
theorem hmF_eq (n : Nat) (q2 : Int32) (self : (Int64 × Int32 × MS) → Option (Int64 × MS)) (v : Int64) (i : Int32) (s : MS) : hmF n q2 self (v, i, s) = (if (s.1 1) ≤ i then some (v, s) else lp (hmI n q2 self (v, i, s)) n (0, s)) := rfl
/-- what harm a day did, both ways -/
theorem harm_both (n : Nat) (hn : 1000 ≤ n) (t0 : MS) (h0 : T0OK t0) (h D N T s : MS) (K : Nat) (rH : RHill h s) (h1 : s.1 1 = nI K) (hK : K ≤ 6) (hT : TOK t0 T s) (hu : ∀ i, i < K → D.2 4 i = s.2 37 i) (hd : ∀ i, i < K → D.2 7 i = s.2 42 i) (hw : D.1 9 = sumI (s.2 39) (120 * K)) : ∃ v N' T' s', f_X1_harmDone n D N h T = some (v, N', T') ∧ (cl (f_X8_waitingNow n s) fun q2 => lp (hmF n q2) n (0, 0, s)) = some (v, s') ∧ TEQ T T' ∧ s'.1 = s.1 ∧ ∀ q, q ≠ 33 → q ≠ 34 → s'.2 q = s.2 q := by
  have e0 : h.1 0 = nI K := by rw [rH.1, h1]
  have hN0 : ∀ k, k < 6 → (ap (ar N 0 (filln 6 0 (N.2 0))) 0 1 (D.1 9)).2 0 k = if k = 1 then D.1 9 else 0 := fun k hk => by
    rw [ap2, if_pos rfl]
    by_cases e : k = 1
    · rw [if_pos e, if_pos e]
    · rw [if_neg e, if_neg e, ar2, if_pos rfl]
      unfold filln
      rw [if_pos hk]
  obtain ⟨x, y, hI, hF, hG⟩ := lp_two_to (F := hdF n D h) (G := hmF n (D.1 9)) K (fun j x y => x.1 = y.1 ∧ x.2.1 = nI j ∧ y.2.1 = nI j ∧ (∀ k, 0 < k → k < 6 → x.2.2.1.2 0 k = if k = 1 then D.1 9 else 0) ∧ TEQ T x.2.2.2 ∧ y.2.2.1 = s.1 ∧ ∀ q, q ≠ 33 → q ≠ 34 → y.2.2.2 q = s.2 q) (fun x => some (x.1, x.2.2.1, x.2.2.2)) (fun y => some (y.1, y.2.2)) (by
    rintro j ⟨v, c, N1, T1⟩ ⟨v', c', s1⟩ hj ⟨rfl, rfl, rfl, g1, g2, g3, g4⟩
    have g1 : ∀ k, 0 < k → k < 6 → N1.2 0 k = if k = 1 then D.1 9 else 0 := g1
    have g2 : TEQ T T1 := g2
    have g3 : s1.1 = s.1 := g3
    have g4 : ∀ q, q ≠ 33 → q ≠ 34 → s1.2 q = s.2 q := g4
    -- the reference clears its facts
    obtain ⟨z, ⟨-, z2, z3, z4⟩, hz⟩ := lp_to (F := fun K4 => hmI n (D.1 9) K4 (v, nI j, s1)) 6 (fun i z => z.1 = nI i ∧ z.2.1 = s.1 ∧ (∀ q, q ≠ 33 → q ≠ 34 → z.2.2 q = s.2 q) ∧ ∀ u, u < i → z.2.2 34 u = 0) (fun K4 z => hmO n (D.1 9) K4 v (nI j) z.2) (by
      rintro i ⟨t, z⟩ hi ⟨rfl, y1, y2, y3⟩
      have y1 : z.1 = s.1 := y1
      have y2 : ∀ q, q ≠ 33 → q ≠ 34 → z.2 q = s.2 q := y2
      have y3 : ∀ u, u < i → z.2 34 u = 0 := y3
      refine ⟨(nI (i + 1), ap z 34 i 0), ⟨rfl, y1, fun q h3 h4 => ?_, fun u hu => ?_⟩, fun K4 self => ?_⟩
      · show (ap z 34 i 0).2 q = _
        funext v; rw [ap2, if_neg h4, y2 q h3 h4]
      · show (ap z 34 i 0).2 34 u = _
        rw [ap2, if_pos rfl]
        split
        · rfl
        · exact y3 u (by omega)
      · rw [hmI_eq, if_neg (lge 6 6 rfl hi (by omega)), ib_j (by omega) (by omega), ck_t, bn_def, nI_clamp (by omega), nI_succ]) (by
      rintro ⟨t, z⟩ ⟨rfl, -⟩ K4 self
      rw [hmI_eq, if_pos (by decide)]) n (by omega) (0, s1) ⟨rfl, g3, g4, fun u hu => absurd hu (Nat.not_lt_zero _)⟩
    -- the facts and the names
    have hz34 : ∀ k, k < 6 → (ap (ap z.2 34 0 (s.2 37 j)) 34 1 (D.1 9)).2 34 k = if k = 1 then D.1 9 else if k = 0 then s.2 37 j else 0 := fun k hk => by
      rw [ap2, if_pos rfl, ap2, if_pos rfl]
      by_cases e : k = 1
      · rw [if_pos e, if_pos e]
      · rw [if_neg e, if_neg e]
        by_cases e2 : k = 0
        · rw [if_pos e2, if_pos e2]
        · rw [if_neg e2, if_neg e2]; exact z4 k hk
    have hN1 : ∀ k, k < 6 → (ap N1 0 0 (D.2 4 j)).2 0 k = if k = 1 then D.1 9 else if k = 0 then s.2 37 j else 0 := fun k hk => by
      rw [ap2, if_pos rfl]
      by_cases e2 : k = 0
      · rw [if_pos e2, if_neg (by omega), if_pos e2]; exact hu j hj
      · rw [if_neg e2, g1 k (by omega) hk]
        by_cases e : k = 1
        · rw [if_pos e, if_pos e]
        · rw [if_neg e, if_neg e, if_neg e2]
    have hzo : ∀ q, q ≠ 33 → q ≠ 34 → (ap (ap z.2 34 0 (s.2 37 j)) 34 1 (D.1 9)).2 q = s.2 q := fun q h3 h4 => by
      funext u; rw [ap2, if_neg h4, ap2, if_neg h4, z3 q h3 h4]
    obtain ⟨v2, T2, s2, u1, u2, u3⟩ := val_eq n (by omega) t0 T1 (ap N1 0 0 (D.2 4 j)) (ap (ap z.2 34 0 (s.2 37 j)) 34 1 (D.1 9)) 2 h0 (TOK_eq hT g2 (by rw [ap1, ap1, z2]) (hzo 23 (by decide) (by decide)) (hzo 24 (by decide) (by decide)) (hzo 25 (by decide) (by decide))) (by omega) (fun i hi => by rw [hN1 i hi, hz34 i hi])
    obtain ⟨p1, p2, p3, p4, p5⟩ := u3
    have u1' : f_X5_value n 2 T1 (ap N1 0 0 (D.2 4 j)) = some (v2, T2) := u1
    have u2' : f_X8_gives n 2 (ap (ap z.2 34 0 (s.2 37 j)) 34 1 (D.1 9)) = some (v2, s2) := u2
    have s2o : ∀ q, q ≠ 33 → q ≠ 34 → s2.2 q = s.2 q := fun q h3 h4 => by rw [p5 q h3, hzo q h3 h4]
    have hlf : (s.2 2 j - s.2 42 j) = (h.2 1 j - D.2 7 j) := by rw [hd j hj, (rH.2.2.1 j (by omega)).1]
    have hne : ¬ nI j = -1 := by rw [eq_i, nI_toInt (by omega), show (-1 : Int32).toInt = -1 by decide]; omega
    refine ⟨(v + ((Int32.toInt64 (hdv v2)) * (Int32.toInt64 (h.2 1 j - D.2 7 j))), nI (j + 1), ap N1 0 0 (D.2 4 j), T2), (v + ((Int32.toInt64 (hdv v2)) * (Int32.toInt64 (h.2 1 j - D.2 7 j))), nI (j + 1), s2), ⟨rfl, rfl, rfl, fun k hk0 hk => ?_, ⟨p1.trans g2.1, p2.trans g2.2.1, p3.trans g2.2.2⟩, by show s2.1 = _; rw [p4, ap1, ap1, z2], s2o⟩, fun self => ?_, fun self => ?_⟩
    · show (ap N1 0 0 (D.2 4 j)).2 0 k = _
      rw [hN1 k hk]
      by_cases e : k = 1
      · rw [if_pos e, if_pos e]
      · rw [if_neg e, if_neg e, if_neg (by omega)]
    · unfold hdF
      dsimp only
      rw [e0, if_neg (nI_ge hj (by omega)), ib_j (by omega) (by omega), ck_t, bn_def, show ib 0 6 = true by decide, ck_t, bn_def, nI_clamp (by omega), show (0 : Int32).toNatClampNeg = 0 by decide, u1', cl_some, c_bd, cl_some]
      unfold f_X1_leftOf
      rw [if_neg hne, ib_j (by omega) (by omega), ck_t, bn_def, ck_t, bn_def, cl_some, bn_def, nI_clamp (by omega), nI_succ]
      rfl
    · rw [hmF_eq, g3, h1, if_neg (nI_ge hj (by omega)), hz]
      unfold hmO f_X8_leftOf
      rw [ib_j (by omega) (by omega), ck_t, bn_def, show ib 0 6 = true by decide, ck_t, bn_def, show ib 1 6 = true by decide, ck_t, bn_def, nI_clamp (by omega), show (0 : Int32).toNatClampNeg = 0 by decide, show (1 : Int32).toNatClampNeg = 1 by decide, z3 37 (by decide) (by decide), u2', cl_some, m_held n v2 0 99 (by decide), cl_some, ck_t, bn_def, ck_t, bn_def, cl_some, bn_def, s2o 2 (by decide) (by decide), s2o 42 (by decide) (by decide), hlf, nI_succ]
      rfl) (by
    rintro ⟨v, c, N1, T1⟩ ⟨v', c', s1⟩ ⟨rfl, rfl, rfl, g1, g2, g3, g4⟩
    have g3 : s1.1 = s.1 := g3
    refine ⟨fun self => ?_, fun self => ?_⟩
    · unfold hdF
      dsimp only
      rw [e0, if_pos (Int32.le_refl _)]
    · rw [hmF_eq, g3, h1, if_pos (Int32.le_refl _)]) n (by omega) (0, 0, ap (ar N 0 (filln 6 0 (N.2 0))) 0 1 (D.1 9), T) (0, 0, s) ⟨rfl, rfl, rfl, fun k _ hk => hN0 k hk, ⟨rfl, rfl, rfl⟩, rfl, fun _ _ _ => rfl⟩
  obtain ⟨v, c, N1, T1⟩ := x
  obtain ⟨v', c', s1⟩ := y
  obtain ⟨r1, -, -, -, r2, r3, r4⟩ := hI
  have r1 : v = v' := r1
  subst r1
  refine ⟨v, N1, T1, s1, ?_, ?_, r2, r3, r4⟩
  · have : f_X1_harmDone n D N h T = ck (ib 1 6) (lp (hdF n D h) n (0, 0, ap (ar N 0 (filln 6 0 (N.2 0))) 0 (Int32.toNatClampNeg 1) (D.1 9), T)) := rfl
    rw [this, show ib 1 6 = true by decide, ck_t, show (1 : Int32).toNatClampNeg = 1 by decide]
    exact hF
  · rw [m_wait n (by omega) s K h1 hK, cl_some, ← hw]
    exact hG
