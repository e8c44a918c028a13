-- OPS: copy
theorem cmp_gt (x y : Int64) : (0 < lg_cmp x y) = (y.toInt < x.toInt) := by
  unfold lg_cmp
  by_cases h1 : x > y
  · rw [if_pos h1]; exact propext ⟨fun _ => Int64.lt_iff_toInt_lt.mp h1, fun _ => by decide⟩
  · have h1' : ¬ y.toInt < x.toInt := fun q => h1 (Int64.lt_iff_toInt_lt.mpr q)
    rw [if_neg h1]
    by_cases h2 : x = y
    · rw [if_pos h2]; exact propext ⟨fun q => absurd q (by decide), fun q => absurd q h1'⟩
    · rw [if_neg h2]; exact propext ⟨fun q => absurd q (by decide), fun q => absurd q h1'⟩
theorem cmp_le (x y : Int64) : (lg_cmp x y ≤ 0) = (x.toInt ≤ y.toInt) := by
  have h := cmp_gt x y
  apply propext
  rw [← Int32.not_lt, h]
  omega
theorem cmp_lt (x y : Int64) : (lg_cmp x y < 0) = (x.toInt < y.toInt) := by
  unfold lg_cmp
  by_cases h1 : x > y
  · have h1' := Int64.lt_iff_toInt_lt.mp h1
    rw [if_pos h1]; exact propext ⟨fun q => absurd q (by decide), fun q => by omega⟩
  · have h1' : ¬ y.toInt < x.toInt := fun q => h1 (Int64.lt_iff_toInt_lt.mpr q)
    rw [if_neg h1]
    by_cases h2 : x = y
    · rw [if_pos h2]; subst h2; exact propext ⟨fun q => absurd q (by decide), fun q => by omega⟩
    · rw [if_neg h2]
      have h3 : x.toInt ≠ y.toInt := fun q => h2 (Int64.toInt_inj.mp q)
      exact propext ⟨fun _ => by omega, fun _ => by decide⟩
theorem cmp_ge (x y : Int64) : (0 ≤ lg_cmp x y) = (y.toInt ≤ x.toInt) := by
  have h := cmp_lt x y
  apply propext
  rw [← Int32.not_lt, h]
  omega
theorem cmp_eq (x y : Int64) : (lg_cmp x y = 0) = (x = y) := by
  unfold lg_cmp
  by_cases h1 : x > y
  · rw [if_pos h1]; exact propext ⟨fun q => absurd q (by decide), fun q => by subst q; have := Int64.lt_iff_toInt_lt.mp h1; omega⟩
  · rw [if_neg h1]
    by_cases h2 : x = y
    · rw [if_pos h2]; exact propext ⟨fun _ => h2, fun _ => rfl⟩
    · rw [if_neg h2]; exact propext ⟨fun q => absurd q (by decide), fun q => absurd q h2⟩
theorem add_l (a b : Int32) : (a.toInt64 + b.toInt64).toInt = a.toInt + b.toInt := by
  have h1 := rng a
  have h2 := rng b
  rw [Int64.toInt_add, Int32.toInt_toInt64, Int32.toInt_toInt64]
  unfold Int.bmod
  simp only [Int.reducePow] at h1 h2 ⊢
  split <;> omega
/-- the sheets change, nothing else -/
theorem R_sheets2 {t0 : MS} {nw : Nat} {c : CS} {s s' : MS} {S' : Nat → MS} (hr : R t0 nw c s) (hS : RSheets S' s') (g : AG [1, 15, 16, 17, 22, 46, 47, 48, 49, 50, 51, 21, 6, 10, 20, 18] [2, 3, 4, 5, 14, 52, 53, 54, 55, 56, 7, 8, 9, 11, 12, 13, 19, 23, 24, 25, 35, 36] s s') : R t0 nw (c.1, c.2.1, c.2.2.1, c.2.2.2.1, c.2.2.2.2.1, c.2.2.2.2.2.1, c.2.2.2.2.2.2.1, c.2.2.2.2.2.2.2.1, S', c.2.2.2.2.2.2.2.2.2.1, c.2.2.2.2.2.2.2.2.2.2) s' := by
  obtain ⟨rH, rK, rC, rW, rP, rT, rX, rS, rM⟩ := hr
  exact ⟨RHill_ag rH (AG_sub g (by decide) (by decide)), RKept_ag rK (AG_sub g (by decide) (by decide)), RCars_ag rC (AG_sub g (by decide) (by decide)) trivial, RWays_ag rW (AG_sub g (by decide) (by decide)), rP, RTape_ag rT (AG_sub g (by decide) (by decide)), RTexts_ag rX (AG_sub g (by decide) (by decide)), hS, RMisc_ag rM (AG_sub g (by decide) (by decide))⟩
theorem at40b {a b t : Int32} {i : Nat} (hi : a.toInt = (i : Int)) (h4 : i < 4) (h0 : 0 ≤ b.toInt) (h0' : 0 ≤ t.toInt) (h1 : b.toInt + t.toInt < 40) : ib (((40 * a) + b) + t) 160 = true ∧ (((40 * a) + b) + t).toNatClampNeg = 40 * i + b.toNatClampNeg + t.toNatClampNeg := by
  have z40 : (40 : Int32).toInt = 40 := by decide
  have hm : ((40 : Int32) * a).toInt = 40 * (i : Int) := by rw [mul_i _ _ (by rw [z40, hi]; omega), z40, hi]
  have hs : ((40 : Int32) * a + b).toInt = 40 * (i : Int) + b.toInt := by rw [add_i _ _ (by rw [hm]; omega), hm]
  have hs2 : ((40 : Int32) * a + b + t).toInt = 40 * (i : Int) + b.toInt + t.toInt := by rw [add_i _ _ (by rw [hs]; omega), hs]
  refine ⟨ib_of (by rw [hs2]; omega) (by rw [hs2]; omega), ?_⟩
  have q := nn_eq (x := 40 * a + b + t) (by rw [hs2]; omega)
  have q2 := nn_eq h0
  have q3 := nn_eq h0'
  rw [hs2] at q
  omega
theorem ib_j {j k : Nat} (h : j < k) (hk : k < 2 ^ 31) : ib (nI j) k = true := decide_eq_true (nI_in h hk)
theorem m_move2 (n : Nat) (hn : 41 ≤ n) (a3 a4 a5 : Int32) (i3 p4 k : Nat) (h3 : a3.toInt = (i3 : Int)) (i34 : i3 < 4) (h4 : a4.toInt = (p4 : Int)) (h5 : a5 = nI k) (h45 : p4 + k ≤ 40) (z : MS) : ∃ r : Int32 × MS, (r.1 = a5 ∧ r.2.1 = z.1 ∧ (∀ q, q ≠ 59 → r.2.2 q = z.2 q) ∧ ∀ u, r.2.2 59 u = if 40 * i3 + p4 ≤ u ∧ u < 40 * i3 + p4 + k then z.2 60 (u - (40 * i3 + p4)) else z.2 59 u) ∧ lp (fun K23 (t22 : Int32 × MS) =>
                            if a5 ≤ t22.1 then (
                              some (a5, t22.2))
                            else (
                              ck (ib t22.1 40) <| bn (t22.2.2 60 (Int32.toNatClampNeg t22.1)) fun x25 =>
                              ck (ib (((40 * a3) + a4) + t22.1) 160) <| bn (ap t22.2 59 (Int32.toNatClampNeg (((40 * a3) + a4) + t22.1)) x25) fun z26 =>
                              K23 ((t22.1 + 1), z26))) n (0, z) = some r := by
  subst h5
  have hp4 : a4.toNatClampNeg = p4 := by have := nn_eq (x := a4) (by omega); omega
  refine lp_for k (by omega) (fun j s => s.1 = z.1 ∧ (∀ q, q ≠ 59 → s.2 q = z.2 q) ∧ ∀ u, s.2 59 u = if 40 * i3 + p4 ≤ u ∧ u < 40 * i3 + p4 + j then z.2 60 (u - (40 * i3 + p4)) else z.2 59 u) _ ?_ ?_ n (by omega) z ⟨rfl, fun _ _ => rfl, fun u => by rw [if_neg (by omega)]⟩
  · intro j s hj ⟨i1, i2, i3'⟩
    have hjt : (nI j).toInt = (j : Int) := nI_toInt (by omega)
    obtain ⟨p1, p2⟩ := at40b (a := a3) (b := a4) (t := nI j) h3 i34 (by omega) (by omega) (by omega)
    rw [nI_clamp (by omega), hp4] at p2
    refine Or.inl ⟨ap s 59 (40 * i3 + p4 + j) (s.2 60 j), ⟨by rw [ap1]; exact i1, fun q hq => by funext u; rw [ap2, if_neg hq, i2 q hq], fun u => ?_⟩, fun self => ?_⟩
    · rw [ap2, if_pos rfl, i2 60 (by decide)]
      by_cases e : u = 40 * i3 + p4 + j
      · have e3 : u - (40 * i3 + p4) = j := by omega
        rw [if_pos e, if_pos (by omega), e3]
      · rw [if_neg e, i3' u]
        by_cases e2 : 40 * i3 + p4 ≤ u ∧ u < 40 * i3 + p4 + j
        · rw [if_pos e2, if_pos (by omega)]
        · rw [if_neg e2, if_neg (by omega)]
    · show (if nI k ≤ nI j then _ else _) = _
      rw [if_neg (nI_ge hj (by omega))]
      show ck (ib (nI j) 40) (bn (s.2 60 (nI j).toNatClampNeg) fun x25 => ck (ib (((40 * a3) + a4) + nI j) 160) (bn (ap s 59 (((40 * a3) + a4) + nI j).toNatClampNeg x25) fun z26 => self ((nI j + 1), z26))) = _
      rw [ib_j (by omega) (by omega), ck_t, bn_def, p1, ck_t, p2, bn_def, nI_succ, nI_clamp (by omega)]
  · intro s ⟨i1, i2, i3'⟩
    refine ⟨(nI k, s), ⟨rfl, i1, i2, i3'⟩, fun self => ?_⟩
    show (if nI k ≤ nI k then _ else _) = _
    rw [if_pos (Int32.le_refl _)]
theorem m_move (n : Nat) (hn : 41 ≤ n) (a1 a2 a3 a4 a5 : Int32) (i1 i3 p2 p4 k : Nat) (h1 : a1.toInt = (i1 : Int)) (i14 : i1 < 4) (h2 : a2.toInt = (p2 : Int)) (h25 : p2 + k ≤ 40) (h3 : a3.toInt = (i3 : Int)) (i34 : i3 < 4) (h4 : a4.toInt = (p4 : Int)) (h5 : a5 = nI k) (h45 : p4 + k ≤ 40) (z : MS) : ∃ r : Int32 × MS, (r.1 = a5 ∧ r.2.1 = z.1 ∧ (∀ q, q ≠ 59 → q ≠ 60 → r.2.2 q = z.2 q) ∧ ∀ u, r.2.2 59 u = if 40 * i3 + p4 ≤ u ∧ u < 40 * i3 + p4 + k then z.2 59 (40 * i1 + p2 + (u - (40 * i3 + p4))) else z.2 59 u) ∧ lp (fun K20 (t19 : Int32 × MS) =>
                        if a5 ≤ t19.1 then (
                          lp (fun K23 (t22 : Int32 × MS) =>
                            if a5 ≤ t22.1 then (
                              some (a5, t22.2))
                            else (
                              ck (ib t22.1 40) <| bn (t22.2.2 60 (Int32.toNatClampNeg t22.1)) fun x25 =>
                              ck (ib (((40 * a3) + a4) + t22.1) 160) <| bn (ap t22.2 59 (Int32.toNatClampNeg (((40 * a3) + a4) + t22.1)) x25) fun z26 =>
                              K23 ((t22.1 + 1), z26))) n (0, t19.2))
                        else (
                          ck (ib (((40 * a1) + a2) + t19.1) 160) <| bn (t19.2.2 59 (Int32.toNatClampNeg (((40 * a1) + a2) + t19.1))) fun x27 =>
                          ck (ib t19.1 40) <| bn (ap t19.2 60 (Int32.toNatClampNeg t19.1) x27) fun z28 =>
                          K20 ((t19.1 + 1), z28))) n (0, z) = some r := by
  have hp2 : a2.toNatClampNeg = p2 := by have := nn_eq (x := a2) (by omega); omega
  refine lp_for k (by omega) (fun j s => s.1 = z.1 ∧ (∀ q, q ≠ 60 → s.2 q = z.2 q) ∧ ∀ u, u < j → s.2 60 u = z.2 59 (40 * i1 + p2 + u)) _ ?_ ?_ n (by omega) z ⟨rfl, fun _ _ => rfl, fun u hu => absurd hu (Nat.not_lt_zero _)⟩
  · intro j s hj ⟨q1, q2, q3⟩
    have hjt : (nI j).toInt = (j : Int) := nI_toInt (by omega)
    obtain ⟨e1, e2⟩ := at40b (a := a1) (b := a2) (t := nI j) h1 i14 (by omega) (by omega) (by omega)
    rw [nI_clamp (by omega), hp2] at e2
    refine Or.inl ⟨ap s 60 j (s.2 59 (40 * i1 + p2 + j)), ⟨by rw [ap1]; exact q1, fun q hq => by funext u; rw [ap2, if_neg hq, q2 q hq], fun u hu => ?_⟩, fun self => ?_⟩
    · rw [ap2, if_pos rfl, q2 59 (by decide)]
      by_cases e : u = j
      · rw [if_pos e, e]
      · rw [if_neg e, q3 u (by omega)]
    · subst h5
      show (if nI k ≤ nI j then _ else _) = _
      rw [if_neg (nI_ge hj (by omega))]
      show ck (ib (((40 * a1) + a2) + nI j) 160) (bn (s.2 59 (((40 * a1) + a2) + nI j).toNatClampNeg) fun x27 => ck (ib (nI j) 40) (bn (ap s 60 (nI j).toNatClampNeg x27) fun z28 => self ((nI j + 1), z28))) = _
      rw [e1, ck_t, bn_def, e2, ib_j (by omega) (by omega), ck_t, bn_def, nI_succ, nI_clamp (by omega)]
  · intro s ⟨q1, q2, q3⟩
    obtain ⟨r, ⟨r1, r2, r3, r4⟩, he⟩ := m_move2 n hn a3 a4 a5 i3 p4 k h3 i34 h4 h5 h45 s
    refine ⟨r, ⟨r1, r2.trans q1, fun q h9 h0 => (r3 q h9).trans (q2 q h0), fun u => ?_⟩, fun self => ?_⟩
    · rw [r4 u]
      by_cases e : 40 * i3 + p4 ≤ u ∧ u < 40 * i3 + p4 + k
      · rw [if_pos e, if_pos e, q3 _ (by omega)]
      · rw [if_neg e, if_neg e, q2 59 (by decide)]
    · show (if a5 ≤ nI k then _ else _) = _
      rw [if_pos (by rw [h5]; exact Int32.le_refl _)]
      exact he
theorem hasRow_eq (n : Nat) (a b : Int32) (T : MS) (hz : IR (T.1 1) 0 40) : f_X3_hasRow n a b T = some (bo (0 ≤ b.toInt ∧ 0 ≤ a.toInt ∧ a.toInt + b.toInt ≤ (T.1 1).toInt)) := by
  have z0 : (0 : Int32).toInt = 0 := by decide
  obtain ⟨b1, b2⟩ := hz
  unfold f_X3_hasRow
  rw [btw, cl_some]
  simp only [bo_0]
  by_cases h1 : b < 0
  · have h1' := h1
    rw [lt_i, z0] at h1'
    rw [if_pos h1]
    unfold bo
    rw [if_neg (by omega)]; rfl
  · have h1' := h1
    rw [lt_i, z0] at h1'
    rw [if_neg h1]
    by_cases h2 : 0 ≤ a ∧ a ≤ T.1 1
    · have h2' := h2
      rw [le_i, le_i, z0] at h2'
      rw [ite_not_t h2]
      have hs : (T.1 1 - a).toInt = (T.1 1).toInt - a.toInt := sub_i _ _ (by omega)
      by_cases h3 : T.1 1 - a < b
      · have h3' := h3
        rw [lt_i, hs] at h3'
        rw [if_pos h3]; unfold bo
        rw [if_neg (by omega)]; rfl
      · have h3' := h3
        rw [lt_i, hs] at h3'
        rw [if_neg h3]; unfold bo
        rw [if_pos (by omega)]; rfl
    · have h2' := h2
      rw [le_i, le_i, z0] at h2'
      rw [ite_not_f h2]
      unfold bo
      rw [if_neg (by omega)]; rfl
theorem kind_pos {x : Int32} (h : IR x (-1) 2) : (x = -1 ∧ ¬ 0 ≤ x ∧ x < 0) ∨ (¬ x = -1 ∧ 0 ≤ x ∧ ¬ x < 0) := by
  have z0 : (0 : Int32).toInt = 0 := by decide
  have zm : (-1 : Int32).toInt = -1 := by decide
  obtain ⟨h1, h2⟩ := h
  rw [eq_i, le_i, lt_i, z0, zm]
  omega
theorem op_copy (t0 : MS) (nw n : Nat) (hn : 41 ≤ n) (a1 a2 a3 a4 a5 : Int32) (c : CS) (s : MS) (hr : R t0 nw c s) : SIM t0 nw (f_X7_copy n nw a1 a2 a3 a4 a5 c) (f_X8_copy n a1 a2 a3 a4 a5 s) := by
  have hr0 := hr
  obtain ⟨rH, rK, rC, rW, rP, rT, rX, rS, rM⟩ := hr
  have z0 : (0 : Int32).toInt = 0 := by decide
  unfold f_X7_copy f_X8_copy
  rw [c_she, m_she, cl_some, cl_some, c_she, m_she, cl_some, cl_some]
  simp only [bo_0]
  by_cases h1 : 0 ≤ a1 ∧ a1 ≤ 3
  case neg => simp only [ite_not_f h1]; exact ⟨_, _, _, rfl, rfl, hr0⟩
  by_cases h3 : 0 ≤ a3 ∧ a3 ≤ 3
  case neg => simp only [ite_not_t h1, ite_not_f h3]; exact ⟨_, _, _, rfl, rfl, hr0⟩
  obtain ⟨i14, hi1, hai1⟩ := she_i h1
  obtain ⟨i34, hi3, hai3⟩ := she_i h3
  obtain ⟨q1, q2, q3⟩ := rS _ hi1
  obtain ⟨u1, u2, u3⟩ := rS _ hi3
  simp only [ite_not_t h1, ite_not_t h3, i14, i34, ck_t, bn_def]
  rw [q1, u1]
  rcases kind_pos q2 with ⟨k1, k2, k3⟩ | ⟨k1, k2, k3⟩
  · rw [if_pos k1, if_pos k3]; exact ⟨_, _, _, rfl, rfl, hr0⟩
  rw [if_neg k1, if_neg k3]
  rcases kind_pos u2 with ⟨v1, v2, v3⟩ | ⟨v1, v2, v3⟩
  · rw [if_pos v1, if_neg v2]; exact ⟨_, _, _, rfl, rfl, hr0⟩
  rw [if_neg v1, if_pos v2]
  by_cases he : s.2 57 a1.toNatClampNeg = s.2 57 a3.toNatClampNeg
  case neg => rw [if_neg he, if_neg he]; exact ⟨_, _, _, rfl, rfl, hr0⟩
  rw [if_pos he, if_pos he]
  rcases q3 with q3 | ⟨b1, b2, b3⟩
  · exact absurd q3 k1
  rcases u3 with u3 | ⟨d1, d2, d3⟩
  · exact absurd u3 v1
  rw [hasRow_eq n a2 a5 _ (by rw [b1]; exact b2), hasRow_eq n a4 a5 _ (by rw [d1]; exact d2), b1, d1, cl_some, cl_some]
  simp only [bo_0, cmp_gt, cmp_le, add_l, Int32.toInt_toInt64]
  simp only [lt_i, z0]
  by_cases g5 : a5.toInt < 0
  · rw [ite_not_f (by omega), if_pos g5]; exact ⟨_, _, _, rfl, rfl, hr0⟩
  rw [if_neg g5]
  by_cases g2 : a2.toInt < 0
  · rw [ite_not_f (by omega), if_pos g2]; exact ⟨_, _, _, rfl, rfl, hr0⟩
  rw [if_neg g2]
  by_cases g4 : a4.toInt < 0
  · rw [if_pos g4]
    by_cases w1 : (0 ≤ a5.toInt ∧ 0 ≤ a2.toInt ∧ a2.toInt + a5.toInt ≤ (s.2 58 a1.toNatClampNeg).toInt)
    · rw [ite_not_t w1, ite_not_f (by omega)]; exact ⟨_, _, _, rfl, rfl, hr0⟩
    · rw [ite_not_f w1]; exact ⟨_, _, _, rfl, rfl, hr0⟩
  rw [if_neg g4]
  by_cases w1 : (s.2 58 a1.toNatClampNeg).toInt < a2.toInt + a5.toInt
  · rw [ite_not_f (by omega), if_pos w1]; exact ⟨_, _, _, rfl, rfl, hr0⟩
  rw [ite_not_t (by omega), if_neg w1]
  by_cases w2 : a4.toInt + a5.toInt ≤ (s.2 58 a3.toNatClampNeg).toInt
  case neg => rw [ite_not_f (by omega), if_neg w2]; exact ⟨_, _, _, rfl, rfl, hr0⟩
  rw [ite_not_t (by omega), if_pos w2]
  have b4 := b2.2
  have d4 := d2.2
  have n2 := nn_eq (x := a2) (by omega)
  have n4 := nn_eq (x := a4) (by omega)
  have n5 := nn_eq (x := a5) (by omega)
  obtain ⟨f1, f2, f3⟩ := IR_nat (x := a5) (hi := 40) ⟨by omega, by omega⟩ (by omega)
  obtain ⟨r, ⟨r1, r2, r3, r4⟩, hrun⟩ := m_move n hn a1 a2 a3 a4 a5 a1.toNatClampNeg a3.toNatClampNeg a2.toNatClampNeg a4.toNatClampNeg a5.toNatClampNeg hai1 hi1 n2.symm (by omega) hai3 hi3 n4.symm f1 (by omega) s
  have hc : cpk a2 40 a4 40 a5 = true := by
    unfold cpk
    rw [decide_eq_true_eq, lt_i, lt_i, lt_i, z0]
    omega
  rw [hc, ck_t]
  refine ⟨a5, _, r.2, rfl, hrun.trans (by rw [← r1]), R_sheets2 hr0 ?_ ?_⟩
  · intro k hk
    obtain ⟨x1, x2, x3⟩ := rS k hk
    rw [r3 57 (by decide) (by decide), r3 58 (by decide) (by decide)]
    by_cases e : k = a3.toNatClampNeg
    · subst e
      rw [vu, if_pos rfl]
      refine ⟨by rw [ar1]; exact x1, x2, Or.inr ⟨by rw [ar1]; exact d1, d2, fun j hj => ?_⟩⟩
      rw [ar2, if_pos rfl, r4]
      unfold va_cpy
      by_cases e2 : a4.toNatClampNeg ≤ j ∧ j < a4.toNatClampNeg + a5.toNatClampNeg
      · have e3 : 40 * a1.toNatClampNeg + a2.toNatClampNeg + (40 * a3.toNatClampNeg + j - (40 * a3.toNatClampNeg + a4.toNatClampNeg)) = 40 * a1.toNatClampNeg + (a2.toNatClampNeg + (j - a4.toNatClampNeg)) := by omega
        rw [if_pos e2, if_pos (by omega), b3 _ (by omega), e3]
      · rw [if_neg e2, if_neg (by omega)]; exact d3 j hj
    · rw [vu, if_neg e]
      refine ⟨x1, x2, ?_⟩
      rcases x3 with x3 | ⟨y1, y2, y3⟩
      · exact Or.inl x3
      · refine Or.inr ⟨y1, y2, fun j hj => ?_⟩
        have := y2.2
        rw [r4, if_neg (by omega)]; exact y3 j hj
  · exact ⟨fun k _ => by rw [r2], fun k hk => r3 k (fun e => by subst e; revert hk; decide) (fun e => by subst e; revert hk; decide)⟩
