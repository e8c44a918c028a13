-- OPS: ways
theorem nw_i {nw : Nat} (h : nw ≤ 8) : (nI nw).toInt = (nw : Int) := nI_toInt (by omega)
/-- which way is meant, on both sides -/
theorem c_wayAt (n nw : Nat) (w : Int32) (c : CS) (h5 : c.1.1 5 = nI nw) (h8 : nw ≤ 8) : f_X7_wayAt n nw w c = some (if 0 ≤ w.toInt ∧ w.toInt < (nw : Int) then some w.toNatClampNeg else none) := by
  have z0 : (0 : Int32).toInt = 0 := by decide
  have z1 : (1 : Int32).toInt = 1 := by decide
  have hn := nw_i h8
  have e : (0 ≤ w ∧ w ≤ c.1.1 5 - 1) = (0 ≤ w.toInt ∧ w.toInt < (nw : Int)) := by
    rw [h5, le_i, le_i, z0, sub_i _ _ (by rw [hn, z1]; omega), hn, z1]
    apply propext
    constructor
    · rintro ⟨a, b⟩; exact ⟨a, by omega⟩
    · rintro ⟨a, b⟩; exact ⟨a, by omega⟩
  unfold f_X7_wayAt
  rw [btw, cl_some]
  simp only [bo_0, e]
  by_cases h : 0 ≤ w.toInt ∧ w.toInt < (nw : Int)
  · have hi : ib w 8 = true := ib_of h.1 (by omega)
    have hd : decide (w.toNatClampNeg < nw) = true := decide_eq_true (nn_lt h.1 h.2)
    rw [ite_not_t h, if_pos h, hi, ck_t, hd, ck_t]
  · rw [ite_not_f h, if_neg h]
theorem m_wayAt (nw n : Nat) (w : Int32) (s : MS) (h10 : s.1 10 = nI nw) (h8 : nw ≤ 8) : f_X8_isWay n w s = some (bo (0 ≤ w.toInt ∧ w.toInt < (nw : Int))) := by
  have z0 : (0 : Int32).toInt = 0 := by decide
  have z1 : (1 : Int32).toInt = 1 := by decide
  have hn := nw_i h8
  have e : (0 ≤ w ∧ w ≤ s.1 10 - 1) = (0 ≤ w.toInt ∧ w.toInt < (nw : Int)) := by
    rw [h10, le_i, le_i, z0, sub_i _ _ (by rw [hn, z1]; omega), hn, z1]
    apply propext
    constructor
    · rintro ⟨a, b⟩; exact ⟨a, by omega⟩
    · rintro ⟨a, b⟩; exact ⟨a, by omega⟩
  rw [m_way]
  unfold bo
  simp only [e]
theorem op_told (t0 : MS) (nw n : Nat) (w m k : Int32) (c : CS) (s : MS) (hr : R t0 nw c s) : SIM0 (f_X7_told n nw w m k c) (f_X8_told n w m k s) := by
  obtain ⟨rH, rK, rC, ⟨l5, l10, h8, hw⟩, rP, rT, rX, rS, rM⟩ := hr
  unfold f_X7_told f_X8_told
  rw [c_wayAt n nw w _ l5 h8, m_wayAt nw n w s l10 h8, cl_some, cl_some]
  simp only [bo_0]
  by_cases h : 0 ≤ w.toInt ∧ w.toInt < (nw : Int)
  case neg => rw [if_neg h, ite_not_f h, oc_none]; exact ⟨_, rfl, rfl⟩
  have hlt := nn_lt h.1 h.2
  have hi : ib w 8 = true := ib_of h.1 (by omega)
  have hd : decide (w.toNatClampNeg < nw) = true := decide_eq_true hlt
  obtain ⟨e1, e2, e3, b1, b2, b3⟩ := hw _ hlt
  rw [if_pos h, ite_not_t h, oc_some, hd, ck_t, c_min, m_min, cl_some, cl_some]
  simp only [bo_0, hi, ck_t, bn_def]
  by_cases hm : 0 ≤ m ∧ m ≤ 119
  case neg => simp only [ite_not_f hm]; exact ⟨_, rfl, rfl⟩
  simp only [ite_not_t hm]
  have q1 := c_calls n m (c.2.2.2.2.1.2 1 w.toNatClampNeg) (wy c.2.2.2.2.1 w.toNatClampNeg) (by show IR (c.2.2.2.2.1.2 0 w.toNatClampNeg) 0 5; rw [e1]; exact b1)
  have q2 := c_asks n m (c.2.2.2.2.1.2 1 w.toNatClampNeg) (wy c.2.2.2.2.1 w.toNatClampNeg)
  rw [q1, q2, m_calls n w m s rM.2.2.1 hi b1, m_asks n w m s rM.2.2.1 hi, cl_some, cl_some, cl_some, cl_some]
  show SIM0 _ _
  have f1 : callsV ((wy c.2.2.2.2.1 w.toNatClampNeg).1 0) (c.2.2.2.2.1.2 1 w.toNatClampNeg) ((wy c.2.2.2.2.1 w.toNatClampNeg).1 2) m = callsV (s.2 11 w.toNatClampNeg) (s.2 12 w.toNatClampNeg) (s.2 13 w.toNatClampNeg) m := by
    show callsV (c.2.2.2.2.1.2 0 w.toNatClampNeg) (c.2.2.2.2.1.2 1 w.toNatClampNeg) (c.2.2.2.2.1.2 2 w.toNatClampNeg) m = _
    rw [e1, e2, e3]
  have f2 : asksV ((wy c.2.2.2.2.1 w.toNatClampNeg).1 0) (c.2.2.2.2.1.2 1 w.toNatClampNeg) ((wy c.2.2.2.2.1 w.toNatClampNeg).1 2) m = asksV (s.2 11 w.toNatClampNeg) (s.2 12 w.toNatClampNeg) (s.2 13 w.toNatClampNeg) m := by
    show asksV (c.2.2.2.2.1.2 0 w.toNatClampNeg) (c.2.2.2.2.1.2 1 w.toNatClampNeg) (c.2.2.2.2.1.2 2 w.toNatClampNeg) m = _
    rw [e1, e2, e3]
  rw [f1, f2, e1, e2, e3]
  by_cases k0 : k = 0
  · simp only [if_pos k0]; exact ⟨_, rfl, rfl⟩
  by_cases k1 : k = 1
  · simp only [if_neg k0, if_pos k1]; exact ⟨_, rfl, rfl⟩
  by_cases k2 : k = 2
  · simp only [if_neg k0, if_neg k1, if_pos k2]; exact ⟨_, rfl, rfl⟩
  by_cases k3 : k = 3
  · simp only [if_neg k0, if_neg k1, if_neg k2, if_pos k3]; exact ⟨_, rfl, rfl⟩
  by_cases k4 : k = 4
  · simp only [if_neg k0, if_neg k1, if_neg k2, if_neg k3, if_pos k4]; exact ⟨_, rfl, rfl⟩
  simp only [if_neg k0, if_neg k1, if_neg k2, if_neg k3, if_neg k4]; exact ⟨_, rfl, rfl⟩
/-- one kind under another, both ways: by trying all -/
theorem under_all : ∀ a, a < 6 → ∀ b, b < 6 → f_X6_isUnder 9 (nI b) (va_up (fun _ => 0) 0 (nI a), fun _ _ => 0) = f_X8_isUnder 9 (nI a) (nI b) := by decide +kernel
