-- THE RELATION between the class's state and the reference's
def RHill (h s : MS) : Prop :=
  h.1 0 = s.1 1 ∧ IR (s.1 1) 0 6 ∧
  (∀ i, i < 6 → h.2 1 i = s.2 2 i ∧ h.2 2 i = s.2 3 i ∧ h.2 3 i = s.2 4 i ∧ h.2 4 i = s.2 5 i) ∧
  (∀ i, i < 6 → IR (s.2 2 i) 0 400 ∧ IR (s.2 3 i) 0 40 ∧ IR (s.2 5 i) 0 9 ∧ ((i : Int) < (s.1 1).toInt → IR (s.2 4 i) 1 60)) ∧
  (∀ i, i < 120 → h.2 5 i = s.2 14 i ∧ IR (s.2 14 i) 0 9) ∧
  h.1 6 = s.1 15 ∧ IR (s.1 15) 1 120 ∧
  h.1 7 = s.1 16 ∧ IR (s.1 16) (-1) 119 ∧ (s.1 16 = -1 ∨ (h.1 8 = s.1 17 ∧ IR (s.1 17) 0 119)) ∧
  h.1 9 = s.1 22 ∧ IR (s.1 22) 0 5
/-- addSort, closed -/
def psOk (a b : Int32) : Prop := 0 ≤ b ∧ (0 ≤ a ∧ a ≤ 400) ∧ b / 1000 ≤ 40 ∧ (1 ≤ b / 10 - b / 10 / 100 * 100 ∧ b / 10 - b / 10 / 100 * 100 ≤ 60)
def hAdd (a b : Int32) (h : MS) : MS := sp (ap (ap (ap (ap h 1 (h.1 0).toNatClampNeg a) 2 (h.1 0).toNatClampNeg (b / 1000)) 3 (h.1 0).toNatClampNeg (b / 10 - b / 10 / 100 * 100)) 4 (h.1 0).toNatClampNeg (b - b / 10 * 10)) 0 (h.1 0 + 1)
def sAdd (a b : Int32) (s : MS) : MS := sp (ap (ap (ap (ap s 2 (s.1 1).toNatClampNeg a) 3 (s.1 1).toNatClampNeg (b / 1000)) 4 (s.1 1).toNatClampNeg (b / 10 - b / 10 / 100 * 100)) 5 (s.1 1).toNatClampNeg (b - b / 10 * 10)) 1 (s.1 1 + 1)
theorem nz1000 : nz 1000 = true := by decide
theorem nz100 : nz 100 = true := by decide
theorem nz10 : nz 10 = true := by decide
theorem fits_0 (n : Nat) (a : Int32) : f_X7_fits n 0 a = some (bo (0 ≤ a ∧ a ≤ 400)) := by
  unfold f_X7_fits
  rw [btw, cl_some, if_neg (by decide), show ib 0 6 = true by decide, ck_t, bn_def, ck_t, bn_def, btw, cl_some]
  show (if bo (0 ≤ a ∧ a ≤ 400) = 0 then _ else _) = _
  unfold bo
  by_cases h : (0 ≤ a ∧ a ≤ 400)
  · simp only [if_pos h]; rfl
  · simp only [if_neg h]; rfl
theorem fits_1 (n : Nat) (a : Int32) : f_X7_fits n 1 a = some (bo (0 ≤ a ∧ a ≤ 40)) := by
  unfold f_X7_fits
  rw [btw, cl_some, if_neg (by decide), show ib 1 6 = true by decide, ck_t, bn_def, ck_t, bn_def, btw, cl_some]
  show (if bo (0 ≤ a ∧ a ≤ 40) = 0 then _ else _) = _
  unfold bo
  by_cases h : (0 ≤ a ∧ a ≤ 40)
  · simp only [if_pos h]; rfl
  · simp only [if_neg h]; rfl
theorem fits_2 (n : Nat) (a : Int32) : f_X7_fits n 2 a = some (bo (1 ≤ a ∧ a ≤ 60)) := by
  unfold f_X7_fits
  rw [btw, cl_some, if_neg (by decide), show ib 2 6 = true by decide, ck_t, bn_def, ck_t, bn_def, btw, cl_some]
  show (if bo (1 ≤ a ∧ a ≤ 60) = 0 then _ else _) = _
  unfold bo
  by_cases h : (1 ≤ a ∧ a ≤ 60)
  · simp only [if_pos h]; rfl
  · simp only [if_neg h]; rfl
theorem div_nn {b k : Int32} (hb : 0 ≤ b) (hk : 0 < k.toInt) : 0 ≤ b / k := by
  rw [le_i] at hb ⊢
  rw [div_i _ _ hk]
  have z : (0 : Int32).toInt = 0 := by decide
  rw [z] at hb ⊢
  exact Int.tdiv_nonneg hb (by omega)
theorem addSort_eq (n : Nat) (a b : Int32) (h : MS) (hs : IR (h.1 0) 0 6) : f_X2_addSort n a b h = some (if 0 ≤ b then (if 0 ≤ a ∧ a ≤ 400 then (if b / 1000 ≤ 40 then (if 1 ≤ b / 10 - b / 10 / 100 * 100 ∧ b / 10 - b / 10 / 100 * 100 ≤ 60 then (if h.1 0 < 6 then (h.1 0, hAdd a b h) else (-4, h)) else (-2, h)) else (-2, h)) else (-2, h)) else (-2, h)) := by
  unfold f_X2_addSort
  simp only [nz1000, nz100, nz10, ck_t, bn_def, fits_0, fits_1, fits_2, cl_some, bo_0]
  by_cases h1 : 0 ≤ b
  · simp only [if_pos h1]
    have hd : 0 ≤ b / 1000 := div_nn h1 (by decide)
    by_cases h2 : (0 ≤ a ∧ a ≤ 400)
    · simp only [h2, not_true, and_self, if_false, if_true]
      by_cases h3 : b / 1000 ≤ 40
      · simp only [h3, hd, and_self, not_true, if_false, if_true]
        by_cases h4 : (1 ≤ b / 10 - b / 10 / 100 * 100 ∧ b / 10 - b / 10 / 100 * 100 ≤ 60)
        · rw [if_neg (by simpa using h4), if_pos h4]
          by_cases h5 : h.1 0 < 6
          · have hi : ib (h.1 0) 6 = true := ib_of hs.1 (by rw [lt_i] at h5; exact h5)
            simp only [if_pos h5, ap1, hi, ck_t]
            rfl
          · simp only [if_neg h5]
        · rw [if_pos h4, if_neg h4]
      · simp only [h3, and_false, not_false_eq_true, if_true, if_false]
    · rw [if_pos h2, if_neg h2]
  · simp only [if_neg h1]
theorem m_people_eq (n : Nat) (a b : Int32) (s : MS) (hs : IR (s.1 1) 0 6) : f_X8_people n a b s = some (if 0 ≤ b then (if 0 ≤ a ∧ a ≤ 400 then (if b / 1000 ≤ 40 then (if 1 ≤ b / 10 - b / 10 / 100 * 100 ∧ b / 10 - b / 10 / 100 * 100 ≤ 60 then (if s.1 1 < 6 then (s.1 1, sAdd a b s) else (-4, s)) else (-2, s)) else (-2, s)) else (-2, s)) else (-2, s)) := by
  unfold f_X8_people
  simp only [nz1000, nz100, nz10, ck_t, bn_def, m_in, cl_some, bo_0]
  by_cases h1 : 0 ≤ b
  · have h1' : ¬ b < 0 := Int32.not_lt.mpr h1
    by_cases h2 : (0 ≤ a ∧ a ≤ 400)
    · rw [if_neg (by simpa using h2), if_neg h1', if_pos h1, if_pos h2]
      by_cases h3 : b / 1000 ≤ 40
      · rw [if_neg (Int32.not_lt.mpr h3), if_pos h3]
        by_cases h4 : (1 ≤ b / 10 - b / 10 / 100 * 100 ∧ b / 10 - b / 10 / 100 * 100 ≤ 60)
        · rw [if_neg (by simpa using h4), if_pos h4]
          have z : (6 : Int32).toInt = 6 := by decide
          by_cases h5 : s.1 1 = 6
          · rw [if_pos h5, if_neg (by rw [h5]; decide)]
          · have h6 : s.1 1 < 6 := by
              rw [lt_i, z]
              rw [eq_i, z] at h5
              have := hs.2
              omega
            have hi : ib (s.1 1) 6 = true := ib_of hs.1 (by rw [lt_i, z] at h6; exact h6)
            have hsub : s.1 1 + 1 - 1 = s.1 1 := by
              apply Int32.toInt_inj.mp
              have o : (1 : Int32).toInt = 1 := by decide
              have := hs.1; have := hs.2
              rw [sub_i _ _ (by rw [add_i _ _ (by omega), o]; omega), add_i _ _ (by omega), o]
              omega
            rw [if_neg h5, if_pos h6]
            simp only [ap1, hi, ck_t]
            show some (((sp _ 1 (s.1 1 + 1)).1 1 - 1), _) = _
            rw [sp1, if_pos rfl, hsub]
            rfl
        · rw [if_pos h4, if_neg h4]
      · rw [if_pos (Int32.not_le.mp h3), if_neg h3]
    · rw [if_pos h2, if_pos h1, if_neg h2]
  · rw [if_neg h1]
    by_cases h2 : (0 ≤ a ∧ a ≤ 400)
    · rw [if_neg (by simpa using h2), if_pos (Int32.not_le.mp h1)]
    · rw [if_pos h2]
