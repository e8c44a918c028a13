-- OPS: set
/-- the hill changes, nothing else -/
theorem R_hill {t0 : MS} {nw : Nat} {c : CS} {s s' : MS} {h' : MS} (hr : R t0 nw c s) (hH : RHill h' s') (h0 : (c.2.1.1 0).toInt ≤ (h'.1 0).toInt) (h22 : (s'.1 22).toInt < (s'.1 21).toInt) (g : AG [46, 47, 48, 49, 50, 51, 21, 6, 10, 20, 18] [52, 53, 54, 55, 56, 7, 8, 9, 11, 12, 13, 19, 23, 24, 25, 57, 58, 59, 35, 36] s s') : R t0 nw (c.1, h', c.2.2) s' := by
  obtain ⟨rH, rK, rC, rW, rP, rT, rX, rS, rM⟩ := hr
  refine ⟨hH, RKept_ag (RKept_h rK h0) (AG_sub g (by decide) (by decide)), RCars_ag rC (AG_sub g (by decide) (by decide)) trivial, RWays_ag rW (AG_sub g (by decide) (by decide)), rP, RTape_ag rT (AG_sub g (by decide) (by decide)), RTexts_ag rX (AG_sub g (by decide) (by decide)), RSheets_ag rS (AG_sub g (by decide) (by decide)), ?_⟩
  obtain ⟨m1, m2, m3, m4, m5, m6⟩ := rM
  refine ⟨by rw [g.1 21 (by decide)]; exact m1, by rw [g.1 21 (by decide)]; exact m2, by rw [g.1 18 (by decide)]; exact m3, h22, by rw [g.2 35 (by decide)]; exact m5, by rw [g.2 36 (by decide)]; exact m6⟩
theorem RHill_put {h s : MS} (hr : RHill h s) (k i : Nat) (x : Int32) (hk : k = 1 ∧ IR x 0 400 ∨ k = 2 ∧ IR x 0 40 ∨ k = 3 ∧ IR x 1 60 ∨ k = 4 ∧ IR x 0 9) : RHill (ap h k i x) (ap s (k + 1) i x) := by
  obtain ⟨e0, i0, ea, ba, es, e6, b6, e7, b7, e8, e9, b9⟩ := hr
  unfold RHill
  simp only [ap1, ap2]
  refine ⟨e0, i0, ?_, ?_, ?_, e6, b6, e7, b7, e8, e9, b9⟩
  · intro j hj
    obtain ⟨q1, q2, q3, q4⟩ := ea j hj
    rcases hk with ⟨rfl, hx⟩ | ⟨rfl, hx⟩ | ⟨rfl, hx⟩ | ⟨rfl, hx⟩ <;> by_cases e : j = i <;> simp [e, q1, q2, q3, q4]
    all_goals (subst e; exact ⟨by first | exact q1 | exact q2, by first | exact q2 | exact q3, by first | exact q3 | exact q4⟩)
  · intro j hj
    obtain ⟨q1, q2, q3, q4⟩ := ba j hj
    rcases hk with ⟨rfl, hx⟩ | ⟨rfl, hx⟩ | ⟨rfl, hx⟩ | ⟨rfl, hx⟩ <;> by_cases e : j = i <;> simp only [e, if_true, if_false, Nat.reduceAdd, Nat.reduceEqDiff]
    all_goals first | exact ⟨q1, q2, q3, q4⟩ | (subst e; first | exact ⟨hx, q2, q3, q4⟩ | exact ⟨q1, hx, q3, q4⟩ | exact ⟨q1, q2, q3, fun _ => hx⟩ | exact ⟨q1, q2, hx, q4⟩)
  · intro j hj
    have q := es j hj
    rcases hk with ⟨rfl, hx⟩ | ⟨rfl, hx⟩ | ⟨rfl, hx⟩ | ⟨rfl, hx⟩ <;> simpa using q
theorem RHill_sun {h s : MS} (hr : RHill h s) (i : Nat) (x : Int32) (hx : IR x 0 9) : RHill (ap h 5 i x) (ap s 14 i x) := by
  obtain ⟨e0, i0, ea, ba, es, e6, b6, e7, b7, e8, e9, b9⟩ := hr
  unfold RHill
  simp only [ap1, ap2]
  refine ⟨e0, i0, by simpa using ea, by simpa using ba, ?_, e6, b6, e7, b7, e8, e9, b9⟩
  intro j hj
  have q := es j hj
  by_cases e : j = i
  · subst e; exact ⟨by simp, by simpa using hx⟩
  · simpa [e] using q
theorem RHill_end {h s : MS} (hr : RHill h s) (x : Int32) (hx : IR x 1 120) : RHill (sp h 6 x) (sp s 15 x) := by
  obtain ⟨e0, i0, ea, ba, es, e6, b6, e7, b7, e8, e9, b9⟩ := hr
  unfold RHill
  simp only [sp1, sp2]
  exact ⟨by simpa using e0, by simpa using i0, by simpa using ea, by simpa using ba, es, by simp, by simpa using hx, by simpa using e7, by simpa using b7, by simpa using e8, by simpa using e9, by simpa using b9⟩
theorem fits_3 (n : Nat) (a : Int32) : f_X7_fits n 3 a = some (bo (0 ≤ a ∧ a ≤ 9)) := by
  unfold f_X7_fits
  rw [btw, cl_some, if_neg (by decide), show ib 3 6 = true by decide, ck_t, bn_def, ck_t, bn_def, btw, cl_some]
  show (if bo (0 ≤ a ∧ a ≤ 9) = 0 then _ else _) = _
  unfold bo
  by_cases h : (0 ≤ a ∧ a ≤ 9)
  · simp only [if_pos h]; rfl
  · simp only [if_neg h]; rfl
theorem fits_4 (n : Nat) (a : Int32) : f_X7_fits n 4 a = some (bo (0 ≤ a ∧ a ≤ 9)) := by
  unfold f_X7_fits
  rw [btw, cl_some, if_neg (by decide), show ib 4 6 = true by decide, ck_t, bn_def, ck_t, bn_def, btw, cl_some]
  show (if bo (0 ≤ a ∧ a ≤ 9) = 0 then _ else _) = _
  unfold bo
  by_cases h : (0 ≤ a ∧ a ≤ 9)
  · simp only [if_pos h]; rfl
  · simp only [if_neg h]; rfl
theorem fits_5 (n : Nat) (a : Int32) : f_X7_fits n 5 a = some (bo (1 ≤ a ∧ a ≤ 120)) := by
  unfold f_X7_fits
  rw [btw, cl_some, if_neg (by decide), show ib 5 6 = true by decide, ck_t, bn_def, ck_t, bn_def, btw, cl_some]
  show (if bo (1 ≤ a ∧ a ≤ 120) = 0 then _ else _) = _
  unfold bo
  by_cases h : (1 ≤ a ∧ a ≤ 120)
  · simp only [if_pos h]; rfl
  · simp only [if_neg h]; rfl
theorem fits_no (n : Nat) (k a : Int32) (h : ¬ (0 ≤ k ∧ k ≤ 5)) : f_X7_fits n k a = some 0 := by
  unfold f_X7_fits
  rw [btw, cl_some]
  simp only [bo_0, ite_not_f h]
  rfl
theorem sort_i {a b : Int32} (hb : IR b 0 6) (h : 0 ≤ a ∧ a ≤ b - 1) : 0 ≤ a.toInt ∧ a.toInt < b.toInt ∧ ib a 6 = true := by
  have z0 : (0 : Int32).toInt = 0 := by decide
  have z1 : (1 : Int32).toInt = 1 := by decide
  obtain ⟨h1, h2⟩ := h
  obtain ⟨b1, b2⟩ := hb
  rw [le_i, z0] at h1
  rw [le_i, sub_i _ _ (by rw [z1]; omega), z1] at h2
  exact ⟨h1, by omega, ib_of h1 (by omega)⟩
theorem op_set (t0 : MS) (nw n : Nat) (a b d : Int32) (c : CS) (s : MS) (hr : R t0 nw c s) : SIM t0 nw (f_X7_set n nw a b d c) (f_X8_set n a b d s) := by
  have hr0 := hr
  obtain ⟨rH, rK, rC, rW, rP, rT, rX, rS, rM⟩ := hr
  have z0 : (0 : Int32).toInt = 0 := by decide
  have z1 : (1 : Int32).toInt = 1 := by decide
  have z5 : (5 : Int32).toInt = 5 := by decide
  have z9 : (9 : Int32).toInt = 9 := by decide
  have z40 : (40 : Int32).toInt = 40 := by decide
  have z60 : (60 : Int32).toInt = 60 := by decide
  have z120 : (120 : Int32).toInt = 120 := by decide
  have z400 : (400 : Int32).toInt = 400 := by decide
  have e0 := rH.1
  have i0 := rH.2.1
  have ea := rH.2.2.1
  unfold f_X7_set f_X8_set
  by_cases k0 : a = 0
  · subst k0
    simp only [fits_0, cl_some, bo_0, m_sort, m_in, f_X2_rowOf, f_X2_sizeOf, btw, oc_some, e0, if_true, show ((0 : Int32) = 5) = False by decide, show ((0 : Int32) = 4) = False by decide, if_false]
    by_cases h1 : 0 ≤ d ∧ d ≤ 400
    · by_cases h2 : 0 ≤ b ∧ b ≤ s.1 1 - 1
      · obtain ⟨p1, p2, p3⟩ := sort_i i0 h2
        simp only [ite_not_t h1, ite_not_t h2, p3, ck_t, bn_def]
        rw [le_i, le_i, z0, z400] at h1
        refine ⟨_, _, ap s 2 b.toNatClampNeg d, rfl, by rw [(ea b.toNatClampNeg (nn_lt p1 (by have := i0.2; omega))).1], R_hill hr0 (RHill_put rH 1 _ d (Or.inl ⟨rfl, h1⟩)) (by rw [ap1]; exact Int.le_refl _) (by rw [ap1]; exact rM.2.2.2.1) (AG_ap (by decide))⟩
      · simp only [ite_not_t h1, ite_not_f h2]; exact ⟨_, _, _, rfl, rfl, hr0⟩
    · by_cases h2 : 0 ≤ b ∧ b ≤ s.1 1 - 1 <;> simp only [ite_not_f h1, h2, not_true, not_false_eq_true, if_true, if_false] <;> exact ⟨_, _, _, rfl, rfl, hr0⟩
  by_cases k1 : a = 1
  · subst k1
    simp only [fits_1, cl_some, bo_0, m_sort, m_in, f_X2_rowOf, f_X2_sizeOf, btw, oc_some, e0, if_true, show ((1 : Int32) = 5) = False by decide, show ((1 : Int32) = 4) = False by decide, show ((1 : Int32) = 0) = False by decide, show ((2 : Nat) = 1) = False by decide, if_false]
    by_cases h1 : 0 ≤ d ∧ d ≤ 40
    · by_cases h2 : 0 ≤ b ∧ b ≤ s.1 1 - 1
      · obtain ⟨p1, p2, p3⟩ := sort_i i0 h2
        simp only [ite_not_t h1, ite_not_t h2, p3, ck_t, bn_def]
        rw [le_i, le_i, z0, z40] at h1
        refine ⟨_, _, ap s 3 b.toNatClampNeg d, rfl, by rw [(ea b.toNatClampNeg (nn_lt p1 (by have := i0.2; omega))).2.1], R_hill hr0 (RHill_put rH 2 _ d (Or.inr (Or.inl ⟨rfl, h1⟩))) (by rw [ap1]; exact Int.le_refl _) (by rw [ap1]; exact rM.2.2.2.1) (AG_ap (by decide))⟩
      · simp only [ite_not_t h1, ite_not_f h2]; exact ⟨_, _, _, rfl, rfl, hr0⟩
    · by_cases h2 : 0 ≤ b ∧ b ≤ s.1 1 - 1 <;> simp only [ite_not_f h1, h2, not_true, not_false_eq_true, if_true, if_false] <;> exact ⟨_, _, _, rfl, rfl, hr0⟩
  by_cases k2 : a = 2
  · subst k2
    simp only [fits_2, cl_some, bo_0, m_sort, m_in, f_X2_rowOf, f_X2_sizeOf, btw, oc_some, e0, if_true, show ((2 : Int32) = 5) = False by decide, show ((2 : Int32) = 4) = False by decide, show ((2 : Int32) = 0) = False by decide, show ((2 : Int32) = 1) = False by decide, show ((3 : Nat) = 1) = False by decide, show ((3 : Nat) = 2) = False by decide, if_false]
    by_cases h1 : 1 ≤ d ∧ d ≤ 60
    · by_cases h2 : 0 ≤ b ∧ b ≤ s.1 1 - 1
      · obtain ⟨p1, p2, p3⟩ := sort_i i0 h2
        simp only [ite_not_t h1, ite_not_t h2, p3, ck_t, bn_def]
        rw [le_i, le_i, z1, z60] at h1
        refine ⟨_, _, ap s 4 b.toNatClampNeg d, rfl, by rw [(ea b.toNatClampNeg (nn_lt p1 (by have := i0.2; omega))).2.2.1], R_hill hr0 (RHill_put rH 3 _ d (Or.inr (Or.inr (Or.inl ⟨rfl, h1⟩)))) (by rw [ap1]; exact Int.le_refl _) (by rw [ap1]; exact rM.2.2.2.1) (AG_ap (by decide))⟩
      · simp only [ite_not_t h1, ite_not_f h2]; exact ⟨_, _, _, rfl, rfl, hr0⟩
    · by_cases h2 : 0 ≤ b ∧ b ≤ s.1 1 - 1 <;> simp only [ite_not_f h1, h2, not_true, not_false_eq_true, if_true, if_false] <;> exact ⟨_, _, _, rfl, rfl, hr0⟩
  by_cases k3 : a = 3
  · subst k3
    simp only [fits_3, cl_some, bo_0, m_sort, m_in, f_X2_rowOf, f_X2_sizeOf, btw, oc_some, e0, if_true, show ((3 : Int32) = 5) = False by decide, show ((3 : Int32) = 4) = False by decide, show ((3 : Int32) = 0) = False by decide, show ((3 : Int32) = 1) = False by decide, show ((3 : Int32) = 2) = False by decide, show ((4 : Nat) = 1) = False by decide, show ((4 : Nat) = 2) = False by decide, show ((4 : Nat) = 3) = False by decide, if_false]
    by_cases h1 : 0 ≤ d ∧ d ≤ 9
    · by_cases h2 : 0 ≤ b ∧ b ≤ s.1 1 - 1
      · obtain ⟨p1, p2, p3⟩ := sort_i i0 h2
        simp only [ite_not_t h1, ite_not_t h2, p3, ck_t, bn_def]
        rw [le_i, le_i, z0, z9] at h1
        refine ⟨_, _, ap s 5 b.toNatClampNeg d, rfl, by rw [(ea b.toNatClampNeg (nn_lt p1 (by have := i0.2; omega))).2.2.2], R_hill hr0 (RHill_put rH 4 _ d (Or.inr (Or.inr (Or.inr ⟨rfl, h1⟩)))) (by rw [ap1]; exact Int.le_refl _) (by rw [ap1]; exact rM.2.2.2.1) (AG_ap (by decide))⟩
      · simp only [ite_not_t h1, ite_not_f h2]; exact ⟨_, _, _, rfl, rfl, hr0⟩
    · by_cases h2 : 0 ≤ b ∧ b ≤ s.1 1 - 1 <;> simp only [ite_not_f h1, h2, not_true, not_false_eq_true, if_true, if_false] <;> exact ⟨_, _, _, rfl, rfl, hr0⟩
  by_cases k4 : a = 4
  · subst k4
    simp only [fits_4, cl_some, bo_0, m_min, m_in, f_X2_rowOf, f_X2_sizeOf, btw, oc_some, if_true, show ((4 : Int32) = 5) = False by decide, show ((4 : Int32) = 0) = False by decide, show ((4 : Int32) = 1) = False by decide, show ((4 : Int32) = 2) = False by decide, show ((4 : Int32) = 3) = False by decide, show ((5 : Nat) = 1) = False by decide, show ((5 : Nat) = 2) = False by decide, show ((5 : Nat) = 3) = False by decide, show ((5 : Nat) = 4) = False by decide, if_false, show (120 : Int32) - 1 = 119 by decide]
    by_cases h1 : 0 ≤ d ∧ d ≤ 9
    · by_cases h2 : 0 ≤ b ∧ b ≤ 119
      · have z119 : (119 : Int32).toInt = 119 := by decide
        obtain ⟨p1, p2⟩ := h2
        have p1' := p1
        have p2' := p2
        rw [le_i, z0] at p1'
        rw [le_i, z119] at p2'
        have p3 : ib b 120 = true := ib_of p1' (by omega)
        simp only [ite_not_t h1, ite_not_t (⟨p1, p2⟩ : 0 ≤ b ∧ b ≤ 119), p3, ck_t, bn_def]
        rw [le_i, le_i, z0, z9] at h1
        refine ⟨_, _, ap s 14 b.toNatClampNeg d, rfl, by rw [(rH.2.2.2.2.1 b.toNatClampNeg (nn_lt p1' (by omega))).1], R_hill hr0 (RHill_sun rH _ d h1) (by rw [ap1]; exact Int.le_refl _) (by rw [ap1]; exact rM.2.2.2.1) (AG_ap (by decide))⟩
      · simp only [ite_not_t h1, ite_not_f h2]; exact ⟨_, _, _, rfl, rfl, hr0⟩
    · by_cases h2 : 0 ≤ b ∧ b ≤ 119 <;> simp only [ite_not_f h1, h2, not_true, not_false_eq_true, if_true, if_false] <;> exact ⟨_, _, _, rfl, rfl, hr0⟩
  by_cases k5 : a = 5
  · subst k5
    simp only [fits_5, cl_some, bo_0, m_in, if_true, show ((5 : Int32) = 0) = False by decide, show ((5 : Int32) = 1) = False by decide, show ((5 : Int32) = 2) = False by decide, show ((5 : Int32) = 3) = False by decide, show ((5 : Int32) = 4) = False by decide, if_false, bn_def]
    by_cases h1 : 1 ≤ d ∧ d ≤ 120
    · simp only [ite_not_t h1]
      rw [le_i, le_i, z1, z120] at h1
      refine ⟨_, _, sp s 15 d, rfl, by rw [rH.2.2.2.2.2.1], R_hill hr0 (RHill_end rH d h1) (by rw [sp1]; exact Int.le_refl _) (by rw [sp1, sp1]; exact rM.2.2.2.1) (AG_sp (by decide))⟩
    · simp only [ite_not_f h1]; exact ⟨_, _, _, rfl, rfl, hr0⟩
  have hno : ¬ (0 ≤ a ∧ a ≤ 5) := by
    rw [le_i, le_i, z0, z5]
    have z2 : (2 : Int32).toInt = 2 := by decide
    have z3 : (3 : Int32).toInt = 3 := by decide
    have z4 : (4 : Int32).toInt = 4 := by decide
    rw [eq_i, z0] at k0
    rw [eq_i, z1] at k1
    rw [eq_i, z2] at k2
    rw [eq_i, z3] at k3
    rw [eq_i, z4] at k4
    rw [eq_i, z5] at k5
    omega
  rw [fits_no n a d hno, cl_some, if_pos rfl, if_neg k0, if_neg k1, if_neg k2, if_neg k3, if_neg k4, if_neg k5]
  exact ⟨_, _, _, rfl, rfl, hr0⟩
