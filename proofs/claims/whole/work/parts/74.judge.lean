-- OPS: judge
theorem c_between (n : Nat) (hn : 50 ≤ n) (S : MS) (z : Nat) (hz : z ≤ 40) (h1 : S.1 1 = nI z) : ∃ r, f_X3_allBetween n 0 99 S = some r ∧ ((r = 1 ∧ ∀ i, i < z → (0 : Int32) ≤ S.2 2 i ∧ S.2 2 i ≤ 99) ∨ (r = 0 ∧ ∃ i, i < z ∧ ¬ ((0 : Int32) ≤ S.2 2 i ∧ S.2 2 i ≤ 99) ∧ ∀ j, j < i → (0 : Int32) ≤ S.2 2 j ∧ S.2 2 j ≤ 99)) := by
  have e : f_X3_allBetween n 0 99 S = lp (abF n 0 99 S) n 0 := rfl
  rw [e]
  obtain ⟨r, hr, he⟩ := lp_inv (F := abF n 0 99 S) (fun t => ∃ j, j ≤ z ∧ t = nI j ∧ ∀ i, i < j → (0 : Int32) ≤ S.2 2 i ∧ S.2 2 i ≤ 99) (fun t => 41 - t.toNatClampNeg) (fun (r : Int32) => (r = 1 ∧ ∀ i, i < z → (0 : Int32) ≤ S.2 2 i ∧ S.2 2 i ≤ 99) ∨ (r = 0 ∧ ∃ i, i < z ∧ ¬ ((0 : Int32) ≤ S.2 2 i ∧ S.2 2 i ≤ 99) ∧ ∀ j, j < i → (0 : Int32) ≤ S.2 2 j ∧ S.2 2 j ≤ 99)) (by
    rintro t ⟨j, hj, rfl, hm⟩
    by_cases e : j = z
    · subst e
      refine Or.inr ⟨1, Or.inl ⟨rfl, hm⟩, fun self => ?_⟩
      unfold abF
      rw [h1, if_pos (Int32.le_refl _)]
      rfl
    · have st : ∀ self, abF n 0 99 S self (nI j) = (if ¬ ((0 : Int32) ≤ S.2 2 j ∧ S.2 2 j ≤ 99) then some 0 else self (nI (j + 1))) := fun self => by
        unfold abF
        rw [h1, if_neg (nI_ge (by omega) (by omega)), ib_j (by omega) (by omega), ck_t, bn_def, nI_clamp (by omega), btw, cl_some, nI_succ]
        simp only [bo_0]
        rfl
      by_cases hb : (0 : Int32) ≤ S.2 2 j ∧ S.2 2 j ≤ 99
      · refine Or.inl ⟨nI (j + 1), ⟨j + 1, by omega, rfl, fun i hi => ?_⟩, by rw [nI_clamp (by omega), nI_clamp (by omega)]; omega, fun self => by rw [st, ite_not_t hb]⟩
        by_cases e2 : i = j
        · rw [e2]; exact hb
        · exact hm i (by omega)
      · exact Or.inr ⟨0, Or.inr ⟨rfl, j, by omega, hb, hm⟩, fun self => by rw [st, ite_not_f hb]⟩) n 0 ⟨0, Nat.zero_le _, rfl, fun i hi => absurd hi (Nat.not_lt_zero _)⟩ (by show 41 - (0 : Int32).toNatClampNeg < n; omega)
  exact ⟨r, he, hr⟩
def juE (n : Nat) (a1 : Int32) (s0 : MS) : Option (Int32 × MS) := cl (f_X8_day n 0 ((sp s0 18 a1).1 6) (sp s0 18 a1)) fun q10 => cl (f_X8_leftOfAll n (sp q10 18 (-1))) fun q12 => some (q12, sp q10 18 (-1))
theorem juF_eq (n : Nat) (a1 : Int32) (s0 : MS) (self : Int32 → Option (Int32 × MS)) (t : Int32) : juF n a1 s0 self t = ck (ib a1 4) (bn (s0.2 58 (Int32.toNatClampNeg a1)) fun x7 => if x7 ≤ t then juE n a1 s0 else ck (ib ((40 * a1) + t) 160) (bn (s0.2 59 (Int32.toNatClampNeg ((40 * a1) + t))) fun x13 => cl (f_X8_in n x13 0 99) fun q14 => if q14 = 0 then some (-2, s0) else self (t + 1))) := rfl
theorem op_judge (t0 : MS) (h0 : T0OK t0) (nw n : Nat) (hn : 1000 ≤ n) (a : Int32) (c : CS) (s : MS) (hr : R t0 nw c s) : SIM t0 nw (f_X7_judge n nw a c) (f_X8_judge n a s) := by
  have hr0 := hr
  obtain ⟨hrule1, hrule2, hrule3⟩ := R_rule hr
  obtain ⟨rH, rK, rC, rW, rP, rT, rX, rS, rM⟩ := hr
  have z0 : (0 : Int32).toInt = 0 := by decide
  obtain ⟨k1, k2⟩ := RHill_n rH
  obtain ⟨e1, e2, e3⟩ := RHill_e rH
  obtain ⟨n1, n2⟩ := RCars_n rC
  have un : f_X8_judge n a s = (cl (f_X8_isSheet n a) fun q1 => if q1 = 0 then some (-2, s) else ck (ib a 4) (bn (s.2 57 (Int32.toNatClampNeg a)) fun x3 => if 0 ≤ x3 then lp (juF n a s) n 0 else some (-11, s))) := rfl
  unfold f_X7_judge
  rw [un, c_she, m_she, cl_some, cl_some]
  simp only [bo_0]
  by_cases h1 : 0 ≤ a ∧ a ≤ 3
  case neg => rw [ite_not_f h1, ite_not_f h1]; exact ⟨_, _, _, rfl, rfl, hr0⟩
  obtain ⟨i4, hi, hai⟩ := she_i h1
  obtain ⟨q1, q2, q3⟩ := rS _ hi
  rw [ite_not_t h1, ite_not_t h1, i4, ck_t, ck_t, bn_def, q1]
  rcases kind_pos q2 with ⟨g1, g2, g3⟩ | ⟨g1, g2, g3⟩
  · rw [if_pos g1, if_neg g2]; exact ⟨_, _, _, rfl, rfl, hr0⟩
  rw [if_neg g1, if_pos g2]
  rcases q3 with q3 | ⟨b1, b2, b3⟩
  · exact absurd q3 g1
  obtain ⟨f1, f2, f3⟩ := IR_nat (hi := 40) b2 (by omega)
  generalize hz : (s.2 58 a.toNatClampNeg).toNatClampNeg = z at f1 f2 f3
  obtain ⟨r, r1, r2⟩ := c_between n (by omega) (c.2.2.2.2.2.2.2.2.1 a.toNatClampNeg) z f2 (by rw [b1]; exact f1)
  have st : ∀ j, j < z → ∀ self, juF n a s self (nI j) = (if ¬ ((0 : Int32) ≤ (c.2.2.2.2.2.2.2.2.1 a.toNatClampNeg).2 2 j ∧ (c.2.2.2.2.2.2.2.2.1 a.toNatClampNeg).2 2 j ≤ 99) then some (-2, s) else self (nI (j + 1))) := fun j hj self => by
    obtain ⟨p1, p2⟩ := at40 (a := a) (b := nI j) hai hi (by rw [nI_toInt (by omega)]; omega) (by rw [nI_toInt (by omega)]; omega)
    rw [nI_clamp (by omega)] at p2
    rw [juF_eq, i4, ck_t, bn_def, f1, if_neg (nI_ge hj (by omega)), p1, ck_t, bn_def, p2, m_in, cl_some, nI_succ, b3 j (by omega)]
    simp only [bo_0]
  have fin : ∀ self, juF n a s self (nI z) = juE n a s := fun self => by
    rw [juF_eq, i4, ck_t, bn_def, f1, if_pos (Int32.le_refl _)]
  rw [r1, cl_some]
  rcases r2 with ⟨rfl, r3⟩ | ⟨rfl, i, hiz, hbad, hgood⟩
  case inr =>
    have hm : lp (juF n a s) n (nI 0) = some (-2, s) := lp_fn (F := juF n a s) i (fun j => nI j) (some (-2, s)) (fun j hj self => by rw [st j (by omega), ite_not_t (hgood j hj)]) (fun self => by rw [st i hiz, ite_not_f hbad]) n (by omega)
    rw [if_pos rfl]
    exact ⟨-2, c, s, rfl, hm, hr0⟩
  have hm : lp (juF n a s) n (nI 0) = juE n a s := lp_fn (F := juF n a s) z (fun j => nI j) (juE n a s) (fun j hj self => by rw [st j hj, ite_not_t (r3 j hj)]) (fun self => fin self) n (by omega)
  rw [if_neg (show ¬ (1 : Int32) = 0 by decide)]
  have hm' : lp (juF n a s) n 0 = juE n a s := hm
  rw [hm']
  -- what is told
  obtain ⟨y0, y1, y2⟩ := rP
  obtain ⟨D1, d1, d2, d3⟩ := c_hearWay n (by omega) (c.2.2.2.2.2.1.1 1) (s.1 1).toNatClampNeg (s.1 15).toNatClampNeg k2 e2 c.2.2.2.2.2.2.2.2.2.1 c.2.2.2.2.2.1 c.2.1 (by rw [y0]; exact ⟨by decide, by decide⟩) (by rw [rH.1]; exact k1) (by rw [rH.2.2.2.2.2.1]; exact e1)
  have hcp : cpk 0 40 0 120 (nI z) = true := by
    unfold cpk
    rw [decide_eq_true_eq, lt_i, lt_i, z0, nI_toInt (by omega), nI_clamp (by omega), show (0 : Int32).toNatClampNeg = 0 by decide]
    omega
  obtain ⟨D2, hD2⟩ : ∃ D2, D2 = ar D1 0 (va_cpy ((c.2.2.2.2.2.2.2.2.1 a.toNatClampNeg).2 2) (D1.2 0) 0 0 z) := ⟨_, rfl⟩
  have hs : f_X1_hearSheet n D1 (c.2.2.2.2.2.2.2.2.1 a.toNatClampNeg) = some D2 := by
    unfold f_X1_hearSheet
    rw [b1, f1, hcp, ck_t, bn_def, nI_clamp (by omega), show (0 : Int32).toNatClampNeg = 0 by decide, hD2]
  have D20 : ∀ m, m < (s.1 15).toNatClampNeg → D2.2 0 m = if m < z then (c.2.2.2.2.2.2.2.2.1 a.toNatClampNeg).2 2 m else 0 := fun m hm => by
    rw [hD2, ar2, if_pos rfl]
    unfold va_cpy
    by_cases e : m < z
    · rw [if_pos ⟨Nat.zero_le _, by omega⟩, if_pos e, show 0 + (m - 0) = m by omega]
    · rw [if_neg (fun q => e (by omega)), if_neg e, (d2 m hm).1, y0]
      unfold callsV
      split
      · rw [if_neg (by decide), if_neg (by decide), if_neg (by decide)]
      · rfl
  have D21 : ∀ m, m < (s.1 15).toNatClampNeg → D2.2 1 m = 1 := fun m hm => by
    rw [hD2, ar2, if_neg (by decide), (d2 m hm).2, y0]
    rfl
  have D22 : ∀ i, i < (s.1 1).toNatClampNeg → D2.2 2 i = 0 := fun i hi => by
    rw [hD2, ar2, if_neg (by decide), d3 i hi, y0]
    rfl
  -- the reference's state with it
  have v18 : (sp s 18 a).1 18 = a := sp_eq s 18 a
  have vk : ∀ k, k ≠ 18 → (sp s 18 a).1 k = s.1 k := fun k hk => sp_ne s 18 k a hk
  have na : ¬ a < 0 := Int32.not_lt.mpr h1.1
  have rHs : RHill c.2.1 (sp s 18 a) := RHill_ag rH (AG_sp (by decide))
  obtain ⟨D', N', T', s', B, p1, p2, p3, p4, p5⟩ := run_both n hn t0 (c.2.2.2.2.2.2.2.1 (s.1 22).toNatClampNeg) c.2.2.2.2.2.2.2.2.2.2 c.2.1 c.2.2.2.1 D2 (sp s 18 a) 0 (s.1 1).toNatClampNeg (s.1 15).toNatClampNeg (s.1 6).toNatClampNeg rHs (by rw [vk 1 (by decide)]; exact k1) k2 (by rw [vk 15 (by decide)]; exact e1) e2 h0 (TOK_eq hrule3 ⟨rfl, rfl, rfl⟩ (vk 22 (by decide)) rfl rfl rfl) (fun m hm => by
    have hm120 : m < 120 := by omega
    refine ⟨?_, ?_⟩
    · unfold f_X8_calls
      rw [v18, if_neg na, i4, ck_t, bn_def, sp2, f1, D20 m hm]
      by_cases e : m < z
      · obtain ⟨p1, p2⟩ := at40 (a := a) (b := nI m) hai hi (by rw [nI_toInt (by omega)]; omega) (by rw [nI_toInt (by omega)]; omega)
        rw [nI_clamp (by omega)] at p2
        rw [if_neg (nI_ge e (by omega)), p1, ck_t, bn_def, p2, if_pos e, b3 m (by omega)]
      · rw [if_pos (by rw [le_i, nI_toInt (by omega), nI_toInt (by omega)]; omega), if_neg e]
    · unfold f_X8_asks
      rw [v18, if_neg na, D21 m hm]) 0 (by unfold f_X8_orderOf; rw [v18, if_neg na]) (Or.inr (Or.inr ⟨rfl, D22⟩)) (by omega) (cars_own n rC)
  obtain ⟨-, -, -, -, -, -, ⟨j1, -, -⟩, -⟩ := p3
  have hDS : DSM s (sp s' 18 (-1)) := by
    refine ⟨fun k g1 g2 g3 => ?_, fun k hk => by rw [sp2, p4.2 k (by omega), sp2], fun i _ => ⟨by rw [sp2, p4.2 7 (by omega), sp2], by rw [sp2, p4.2 8 (by omega), sp2], by rw [sp2, p4.2 9 (by omega), sp2]⟩⟩
    by_cases e : k = 18
    · rw [e, sp_eq, rM.2.2.1]
    · rw [sp_ne _ _ _ _ e, p4.1 k g1 g2 g3, vk k e]
  have hR := R_dsm hr0 hDS _ T' D' N' p5
  have hs1 : (sp s' 18 (-1)).1 1 = nI (s.1 1).toNatClampNeg := by rw [hDS.1 1 (by decide) (by decide) (by decide)]; exact k1
  have hs2 : (sp s' 18 (-1)).2 2 = s.2 2 := hDS.2.1 2 (by omega)
  have hday : f_X8_day n 0 ((sp s 18 a).1 6) (sp s 18 a) = some s' := by rw [vk 6 (by decide), n1]; exact p2
  rw [d1, cl_some, hs, cl_some, hrule1, hrule2, ck_t, rC.1, n1, p1, cl_some]
  unfold juE f_X1_leftOf
  dsimp only
  rw [hday, cl_some, if_pos rfl, c_allUp n (by omega) _ s rH, cl_some, c_rodeAll n (s.1 1).toNatClampNeg (by omega) k2 D' c.2.1 (by rw [rH.1]; exact k1), cl_some, cl_some, m_leftAll n (s.1 1).toNatClampNeg (by omega) k2 _ hs1, cl_some, hs2, sp2, sumI_congr (f := D'.2 7) (g := s'.2 42) _ (fun i hi => j1 i hi)]
  exact ⟨_, _, _, rfl, rfl, hR⟩
