-- OPS: ways
theorem nw_i {nw : Nat} (h : nw ≤ 8) : (nI nw).toInt = (nw : Int) := nI_toInt (by omega)
/-- which way is meant, on both sides -/
theorem c_wayAt (n nw : Nat) (w : Int32) (c : CS) (h5 : c.1.1 5 = nI nw) (h8 : nw ≤ 8) : f_X7_wayAt n nw w c = some (if 0 ≤ w.toInt ∧ w.toInt < (nw : Int) then some w.toNatClampNeg else none) := by
  have z0 : (0 : Int32).toInt = 0 := by decide
  have z1 : (1 : Int32).toInt = 1 := by decide
  have hn := nw_i h8
  have e : (0 ≤ w ∧ w ≤ c.1.1 5 - 1) = (0 ≤ w.toInt ∧ w.toInt < (nw : Int)) := by
    rw [h5, le_i, le_i, z0, sub_i _ _ (by rw [hn, z1]; omega), hn, z1]
    apply propext
    constructor
    · rintro ⟨a, b⟩; exact ⟨a, by omega⟩
    · rintro ⟨a, b⟩; exact ⟨a, by omega⟩
  unfold f_X7_wayAt
  rw [btw, cl_some]
  simp only [bo_0, e]
  by_cases h : 0 ≤ w.toInt ∧ w.toInt < (nw : Int)
  · have hi : ib w 8 = true := ib_of h.1 (by omega)
    have hd : decide (w.toNatClampNeg < nw) = true := decide_eq_true (nn_lt h.1 h.2)
    rw [ite_not_t h, if_pos h, hi, ck_t, hd, ck_t]
  · rw [ite_not_f h, if_neg h]
theorem m_wayAt (nw n : Nat) (w : Int32) (s : MS) (h10 : s.1 10 = nI nw) (h8 : nw ≤ 8) : f_X8_isWay n w s = some (bo (0 ≤ w.toInt ∧ w.toInt < (nw : Int))) := by
  have z0 : (0 : Int32).toInt = 0 := by decide
  have z1 : (1 : Int32).toInt = 1 := by decide
  have hn := nw_i h8
  have e : (0 ≤ w ∧ w ≤ s.1 10 - 1) = (0 ≤ w.toInt ∧ w.toInt < (nw : Int)) := by
    rw [h10, le_i, le_i, z0, sub_i _ _ (by rw [hn, z1]; omega), hn, z1]
    apply propext
    constructor
    · rintro ⟨a, b⟩; exact ⟨a, by omega⟩
    · rintro ⟨a, b⟩; exact ⟨a, by omega⟩
  rw [m_way]
  unfold bo
  simp only [e]
theorem op_told (t0 : MS) (nw n : Nat) (w m k : Int32) (c : CS) (s : MS) (hr : R t0 nw c s) : SIM0 (f_X7_told n nw w m k c) (f_X8_told n w m k s) := by
  obtain ⟨rH, rK, rC, ⟨l5, l10, h8, hw⟩, rP, rT, rX, rS, rM⟩ := hr
  unfold f_X7_told f_X8_told
  rw [c_wayAt n nw w _ l5 h8, m_wayAt nw n w s l10 h8, cl_some, cl_some]
  simp only [bo_0]
  by_cases h : 0 ≤ w.toInt ∧ w.toInt < (nw : Int)
  case neg => rw [if_neg h, ite_not_f h, oc_none]; exact ⟨_, rfl, rfl⟩
  have hlt := nn_lt h.1 h.2
  have hi : ib w 8 = true := ib_of h.1 (by omega)
  have hd : decide (w.toNatClampNeg < nw) = true := decide_eq_true hlt
  obtain ⟨e1, e2, e3, b1, b2, b3⟩ := hw _ hlt
  rw [if_pos h, ite_not_t h, oc_some, hd, ck_t, c_min, m_min, cl_some, cl_some]
  simp only [bo_0, hi, ck_t, bn_def]
  by_cases hm : 0 ≤ m ∧ m ≤ 119
  case neg => simp only [ite_not_f hm]; exact ⟨_, rfl, rfl⟩
  simp only [ite_not_t hm]
  have q1 := c_calls n m (c.2.2.2.2.1.2 1 w.toNatClampNeg) (wy c.2.2.2.2.1 w.toNatClampNeg) (by show IR (c.2.2.2.2.1.2 0 w.toNatClampNeg) 0 5; rw [e1]; exact b1)
  have q2 := c_asks n m (c.2.2.2.2.1.2 1 w.toNatClampNeg) (wy c.2.2.2.2.1 w.toNatClampNeg)
  rw [q1, q2, m_calls n w m s rM.2.2.1 hi b1, m_asks n w m s rM.2.2.1 hi, cl_some, cl_some, cl_some, cl_some]
  show SIM0 _ _
  have f1 : callsV ((wy c.2.2.2.2.1 w.toNatClampNeg).1 0) (c.2.2.2.2.1.2 1 w.toNatClampNeg) ((wy c.2.2.2.2.1 w.toNatClampNeg).1 2) m = callsV (s.2 11 w.toNatClampNeg) (s.2 12 w.toNatClampNeg) (s.2 13 w.toNatClampNeg) m := by
    show callsV (c.2.2.2.2.1.2 0 w.toNatClampNeg) (c.2.2.2.2.1.2 1 w.toNatClampNeg) (c.2.2.2.2.1.2 2 w.toNatClampNeg) m = _
    rw [e1, e2, e3]
  have f2 : asksV ((wy c.2.2.2.2.1 w.toNatClampNeg).1 0) (c.2.2.2.2.1.2 1 w.toNatClampNeg) ((wy c.2.2.2.2.1 w.toNatClampNeg).1 2) m = asksV (s.2 11 w.toNatClampNeg) (s.2 12 w.toNatClampNeg) (s.2 13 w.toNatClampNeg) m := by
    show asksV (c.2.2.2.2.1.2 0 w.toNatClampNeg) (c.2.2.2.2.1.2 1 w.toNatClampNeg) (c.2.2.2.2.1.2 2 w.toNatClampNeg) m = _
    rw [e1, e2, e3]
  rw [f1, f2, e1, e2, e3]
  by_cases k0 : k = 0
  · simp only [if_pos k0]; exact ⟨_, rfl, rfl⟩
  by_cases k1 : k = 1
  · simp only [if_neg k0, if_pos k1]; exact ⟨_, rfl, rfl⟩
  by_cases k2 : k = 2
  · simp only [if_neg k0, if_neg k1, if_pos k2]; exact ⟨_, rfl, rfl⟩
  by_cases k3 : k = 3
  · simp only [if_neg k0, if_neg k1, if_neg k2, if_pos k3]; exact ⟨_, rfl, rfl⟩
  by_cases k4 : k = 4
  · simp only [if_neg k0, if_neg k1, if_neg k2, if_neg k3, if_pos k4]; exact ⟨_, rfl, rfl⟩
  simp only [if_neg k0, if_neg k1, if_neg k2, if_neg k3, if_neg k4]; exact ⟨_, rfl, rfl⟩
/-- the fuel -/
def NF : Nat := 4000
/-- one kind under another, both ways: by trying all -/
theorem under_all : ∀ a, a < 6 → ∀ b, b < 6 → (f_X6_isUnder NF (nI b) (va_up (fun _ => 0) 0 (nI a), fun _ _ => 0) = f_X8_isUnder NF (nI a) (nI b) ∧ (f_X8_isUnder NF (nI a) (nI b)).isSome = true) := by decide +kernel
theorem c_under0 (n : Nat) (k : Int32) (s : MS) : f_X6_isUnder n k s = f_X6_isUnder n k (va_up (fun _ => 0) 0 (s.1 0), fun _ _ => 0) := rfl
theorem IRn {x : Int32} {k : Nat} (h : IR x 0 k) (hk : k < 2 ^ 31) : x = nI x.toNatClampNeg ∧ x.toNatClampNeg ≤ k := by
  obtain ⟨h1, h2, -⟩ := IR_nat h hk
  exact ⟨h1, h2⟩
theorem under_eq (a b : Int32) (s : MS) (hs : s.1 0 = a) (ha : IR a 0 5) (hb : IR b 0 5) : f_X6_isUnder NF b s = f_X8_isUnder NF a b ∧ (f_X8_isUnder NF a b).isSome = true := by
  rw [c_under0, hs]
  obtain ⟨a1, a2⟩ := IRn (k := 5) ha (by omega)
  obtain ⟨b1, b2⟩ := IRn (k := 5) hb (by omega)
  rw [a1, b1]
  exact under_all _ (by omega) _ (by omega)
theorem op_taken (t0 : MS) (nw : Nat) (w k : Int32) (c : CS) (s : MS) (hr : R t0 nw c s) : SIM0 (f_X7_taken NF nw w k c) (f_X8_taken NF w k s) := by
  obtain ⟨rH, rK, rC, ⟨l5, l10, h8, hw⟩, rP, rT, rX, rS, rM⟩ := hr
  unfold f_X7_taken f_X8_taken
  rw [btw, m_in, cl_some, cl_some]
  simp only [bo_0]
  by_cases hk : 0 ≤ k ∧ k ≤ 5
  case neg => simp only [ite_not_f hk]; exact ⟨_, rfl, rfl⟩
  simp only [ite_not_t hk]
  rw [c_wayAt NF nw w _ l5 h8, m_wayAt nw NF w s l10 h8, cl_some, cl_some]
  simp only [bo_0]
  by_cases h : 0 ≤ w.toInt ∧ w.toInt < (nw : Int)
  case neg => rw [if_neg h, ite_not_f h, oc_none]; exact ⟨_, rfl, rfl⟩
  have hlt := nn_lt h.1 h.2
  have hi : ib w 8 = true := ib_of h.1 (by omega)
  have hd : decide (w.toNatClampNeg < nw) = true := decide_eq_true hlt
  obtain ⟨e1, e2, e3, b1, b2, b3⟩ := hw _ hlt
  have hkk : IR k 0 5 := by
    have z0 : (0 : Int32).toInt = 0 := by decide
    have z5 : (5 : Int32).toInt = 5 := by decide
    rw [le_i, le_i, z0, z5] at hk
    exact hk
  obtain ⟨u1, u2⟩ := under_eq (s.2 11 w.toNatClampNeg) k (wy c.2.2.2.2.1 w.toNatClampNeg) e1 b1 hkk
  rw [if_pos h, ite_not_t h, oc_some, hd, ck_t, u1, hi, ck_t, bn_def]
  obtain ⟨q, hq⟩ := Option.isSome_iff_exists.mp u2
  rw [hq, cl_some, cl_some, e3]
  by_cases h0 : q = 0
  · rw [if_pos h0, if_pos h0]; exact ⟨_, rfl, rfl⟩
  · rw [if_neg h0, if_neg h0]; exact ⟨_, rfl, rfl⟩
def sWay (a b d : Int32) (s : MS) : MS := sp (ap (ap (ap s 11 (s.1 10).toNatClampNeg a) 12 (s.1 10).toNatClampNeg b) 13 (s.1 10).toNatClampNeg d) 10 (s.1 10 + 1)
/-- way: the class's answer tells whether one came -/
theorem op_way (t0 : MS) (nw n : Nat) (a b d : Int32) (c : CS) (s : MS) (hr : R t0 nw c s) : ∃ (r : Int32) (z : Bool) (c' : CS) (s' : MS), f_X7_way n nw a b d c = some (r, z, c') ∧ f_X8_way n a b d s = some (r, s') ∧ R t0 (cond z (nw + 1) nw) c' s' := by
  have hr0 := hr
  obtain ⟨rH, rK, rC, ⟨l5, l10, h8, hw⟩, rP, rT, rX, rS, rM⟩ := hr
  have z0 : (0 : Int32).toInt = 0 := by decide
  have z1 : (1 : Int32).toInt = 1 := by decide
  have z5 : (5 : Int32).toInt = 5 := by decide
  have z8 : (8 : Int32).toInt = 8 := by decide
  have z9 : (9 : Int32).toInt = 9 := by decide
  have z119 : (119 : Int32).toInt = 119 := by decide
  have hn := nw_i h8
  unfold f_X7_way f_X8_way
  simp only [bn_def, btw, m_in, c_min, m_min, cl_some, bo_0]
  by_cases h1 : (0 ≤ a ∧ a ≤ 5)
  case neg => simp only [ite_not_f h1]; exact ⟨_, false, c, s, rfl, rfl, hr0⟩
  by_cases h2 : (0 ≤ b ∧ b ≤ 119)
  case neg => simp only [ite_not_t h1, ite_not_f h2]; exact ⟨_, false, c, s, rfl, rfl, hr0⟩
  by_cases h3 : (0 ≤ d ∧ d ≤ 9)
  case neg => simp only [ite_not_t h1, ite_not_t h2, ite_not_f h3]; exact ⟨_, false, c, s, rfl, rfl, hr0⟩
  simp only [ite_not_t h1, ite_not_t h2, ite_not_t h3]
  by_cases h4 : nw = 8
  · have e8 : s.1 10 = 8 := by rw [l10, h4]; rfl
    have e9 : ¬ c.1.1 5 < 8 := by rw [l5, h4]; decide
    simp only [if_pos e8, if_neg e9]; exact ⟨_, false, c, s, rfl, rfl, hr0⟩
  have e8 : ¬ s.1 10 = 8 := by rw [l10, eq_i, hn, z8]; omega
  have e9 : c.1.1 5 < 8 := by rw [l5, lt_i, hn, z8]; omega
  have hi : ib (s.1 10) 8 = true := by rw [l10]; exact ib_of (by rw [hn]; omega) (by rw [hn]; omega)
  have hi2 : ib (c.1.1 5) 8 = true := by rw [l5]; exact ib_of (by rw [hn]; omega) (by rw [hn]; omega)
  have hd : decide (c.1.1 5 = nI nw) = true := decide_eq_true l5
  simp only [if_neg e8, if_pos e9, ap1, hi, hi2, hd, ck_t]
  have hinc : s.1 10 + 1 = nI (nw + 1) := by rw [l10, nI_succ]
  have hsub : s.1 10 + 1 - 1 = s.1 10 := by
    rw [hinc]
    apply Int32.toInt_inj.mp
    have q := nw_i (nw := nw + 1) (by omega)
    rw [sub_i _ _ (by rw [q, z1]; omega), q, z1, l10, hn]
    omega
  have hcl : (s.1 10).toNatClampNeg = nw := by rw [l10]; exact nI_clamp (by omega)
  have g : ∀ ks as, 10 ∉ ks → 11 ∉ as → 12 ∉ as → 13 ∉ as → AG ks as s (sWay a b d s) := fun ks as h1 h2 h3 h4 => AG_tr (AG_ap h2) (AG_tr (AG_ap h3) (AG_tr (AG_ap h4) (AG_sp h1)))
  refine ⟨c.1.1 5, true, (sp c.1 5 ((c.1.1 5) + 1), c.2.1, c.2.2.1, c.2.2.2.1, wyadd c.2.2.2.2.1 nw a b d, c.2.2.2.2.2), sWay a b d s, rfl, ?_, RHill_ag rH (g _ _ (by decide) (by decide) (by decide) (by decide)), ?_, RCars_ag rC (g _ _ (by decide) (by decide) (by decide) (by decide)) trivial, ?_, rP, RTape_ag rT (g _ _ (by decide) (by decide) (by decide) (by decide)), RTexts_ag rX (g _ _ (by decide) (by decide) (by decide) (by decide)), RSheets_ag rS (g _ _ (by decide) (by decide) (by decide) (by decide)), ?_⟩
  · show some (((sp _ 10 (s.1 10 + 1)).1 10 - 1), sWay a b d s) = _
    rw [sp1, if_pos rfl, hsub, l10, l5]
  · have := RKept_ag rK (g [46, 47, 48, 49, 50, 51, 21] [52, 53, 54, 55, 56] (by decide) (by decide) (by decide) (by decide))
    obtain ⟨a1, a2, a3, a4, a5⟩ := this
    exact ⟨by show (sp c.1 5 ((c.1.1 5) + 1)).1 2 = _; rw [sp1, if_neg (by decide)]; exact a1, a2, a3, a4, a5⟩
  · rw [le_i, le_i, z0, z5] at h1
    rw [le_i, le_i, z0, z119] at h2
    rw [le_i, le_i, z0, z9] at h3
    refine ⟨?_, ?_, by show nw + 1 ≤ 8; omega, fun i hlt => ?_⟩
    · show (sp c.1 5 ((c.1.1 5) + 1)).1 5 = nI (nw + 1)
      rw [sp1, if_pos rfl, l5, nI_succ]
    · show (sWay a b d s).1 10 = nI (nw + 1)
      unfold sWay
      rw [sp1, if_pos rfl, hinc]
    · have hlt : i < nw + 1 := hlt
      have hs : ∀ j t, (sWay a b d s).2 j t = if j = 13 then (if t = nw then d else s.2 13 t) else if j = 12 then (if t = nw then b else s.2 12 t) else if j = 11 then (if t = nw then a else s.2 11 t) else s.2 j t := by
        intro j t; unfold sWay; rw [sp2]; simp only [ap2, hcl]
        by_cases q3 : j = 13
        · subst q3; simp
        by_cases q2 : j = 12
        · subst q2; simp
        by_cases q1 : j = 11
        · subst q1; simp
        simp [q3, q2, q1]
      have hc : ∀ k t, (wyadd c.2.2.2.2.1 nw a b d).2 k t = if t = nw then (if k = 0 then a else if k = 1 then b else d) else c.2.2.2.2.1.2 k t := fun _ _ => rfl
      show (wyadd c.2.2.2.2.1 nw a b d).2 0 i = (sWay a b d s).2 11 i ∧ (wyadd c.2.2.2.2.1 nw a b d).2 1 i = (sWay a b d s).2 12 i ∧ (wyadd c.2.2.2.2.1 nw a b d).2 2 i = (sWay a b d s).2 13 i ∧ IR ((sWay a b d s).2 11 i) 0 5 ∧ IR ((sWay a b d s).2 12 i) 0 119 ∧ IR ((sWay a b d s).2 13 i) 0 9
      rw [hc, hc, hc, hs, hs, hs]
      by_cases e : i = nw
      · simp only [e, if_true, show (11 : Nat) ≠ 13 by decide, show (11 : Nat) ≠ 12 by decide, show (12 : Nat) ≠ 13 by decide, show (1 : Nat) ≠ 0 by decide, show (2 : Nat) ≠ 0 by decide, show (2 : Nat) ≠ 1 by decide, if_false, true_and]
        exact ⟨h1, h2, h3⟩
      · have := hw i (by omega)
        simpa [e] using this
  · have := RMisc_ag rM (g [21, 18, 22] [35, 36] (by decide) (by decide) (by decide) (by decide))
    obtain ⟨m1, m2⟩ := this
    exact ⟨by show (sp c.1 5 ((c.1.1 5) + 1)).1 9 = _; rw [sp1, if_neg (by decide)]; exact m1, m2⟩
