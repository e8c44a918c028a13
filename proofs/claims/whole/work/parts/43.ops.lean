-- OPS: shut, force, car, calls, asks
theorem c_min (n : Nat) (v : Int32) : f_X7_isMinute n v = some (bo (0 ≤ v ∧ v ≤ 119)) := by
  unfold f_X7_isMinute
  rw [btw, cl_some, isz_bo, ck_t]
theorem m_min (n : Nat) (v : Int32) : f_X8_isMinute n v = some (bo (0 ≤ v ∧ v ≤ 119)) := by
  unfold f_X8_isMinute
  rw [m_in, cl_some, isz_bo, ck_t]
theorem c_she (n : Nat) (v : Int32) : f_X7_isSheet n v = some (bo (0 ≤ v ∧ v ≤ 3)) := by
  unfold f_X7_isSheet
  rw [btw, cl_some, isz_bo, ck_t]
theorem m_she (n : Nat) (v : Int32) : f_X8_isSheet n v = some (bo (0 ≤ v ∧ v ≤ 3)) := by
  unfold f_X8_isSheet
  rw [m_in, cl_some, isz_bo, ck_t]
theorem m_way (n : Nat) (v : Int32) (s : MS) : f_X8_isWay n v s = some (bo (0 ≤ v ∧ v ≤ s.1 10 - 1)) := by
  unfold f_X8_isWay
  rw [m_in, cl_some, isz_bo, ck_t]
theorem m_sort (n : Nat) (v : Int32) (s : MS) : f_X8_isSort n v s = some (bo (0 ≤ v ∧ v ≤ s.1 1 - 1)) := by
  unfold f_X8_isSort
  rw [m_in, cl_some, isz_bo, ck_t]
theorem ite_not_t {α : Type} {p : Prop} [Decidable p] {a b : α} (h : p) : (if ¬ p then a else b) = b := if_neg (fun q => q h)
theorem ite_not_f {α : Type} {p : Prop} [Decidable p] {a b : α} (h : ¬ p) : (if ¬ p then a else b) = a := if_pos h
theorem op_shut (t0 : MS) (nw n : Nat) (a b : Int32) (c : CS) (s : MS) (hr : R t0 nw c s) : SIM t0 nw (f_X7_shut n nw a b c) (f_X8_shut n a b s) := by
  have hr0 := hr
  obtain ⟨rH, rK, rC, rW, rP, rT, rX, rS, rM⟩ := hr
  have z0 : (0 : Int32).toInt = 0 := by decide
  have z119 : (119 : Int32).toInt = 119 := by decide
  unfold f_X7_shut f_X8_shut
  simp only [jn_def, bn_def, c_min, m_min, m_in, cl_some, bo_0]
  have done : (a = -1 ∨ ((0 ≤ a ∧ a ≤ 119) ∧ (a ≤ b ∧ b ≤ 119))) → R t0 nw (c.1, sp (sp c.2.1 7 a) 8 b, c.2.2.1, c.2.2.2.1, c.2.2.2.2.1, c.2.2.2.2.2.1, c.2.2.2.2.2.2.1, c.2.2.2.2.2.2.2.1, c.2.2.2.2.2.2.2.2.1, c.2.2.2.2.2.2.2.2.2.1, c.2.2.2.2.2.2.2.2.2.2) (sp (sp s 16 a) 17 b) := by
    intro hab
    have g : ∀ ks as, 16 ∉ ks → 17 ∉ ks → AG ks as s (sp (sp s 16 a) 17 b) := fun ks as h1 h2 => AG_tr (AG_sp h1) (AG_sp h2)
    refine ⟨?_, RKept_ag (RKept_h rK (by show _ ≤ ((sp (sp c.2.1 7 a) 8 b).1 0).toInt; rw [sp1, sp1]; simp)) (g _ _ (by decide) (by decide)), RCars_ag rC (g _ _ (by decide) (by decide)) trivial, RWays_ag rW (g _ _ (by decide) (by decide)), rP, RTape_ag rT (g _ _ (by decide) (by decide)), RTexts_ag rX (g _ _ (by decide) (by decide)), RSheets_ag rS (g _ _ (by decide) (by decide)), RMisc_ag rM (g _ _ (by decide) (by decide))⟩
    obtain ⟨e0, i0, ea, ba, es, e6, b6, e7, b7, e8, e9, b9⟩ := rH
    unfold RHill
    simp only [sp1, sp2]
    refine ⟨by simpa using e0, by simpa using i0, by simpa using ea, by simpa using ba, es, by simpa using e6, by simpa using b6, by simp, ?_, ?_, by simpa using e9, by simpa using b9⟩
    · show IR a (-1) 119
      rcases hab with rfl | ⟨⟨h1, h2⟩, h3⟩
      · exact ⟨by decide, by decide⟩
      · rw [le_i, z0] at h1; rw [le_i, z119] at h2; exact ⟨by omega, h2⟩
    · show a = -1 ∨ (b = b ∧ IR b 0 119)
      rcases hab with rfl | ⟨⟨h1, h2⟩, h3, h4⟩
      · exact Or.inl rfl
      · rw [le_i, z0] at h1; rw [le_i] at h3; rw [le_i, z119] at h4; exact Or.inr ⟨rfl, by omega, h4⟩
  by_cases h1 : a = -1
  · simp only [if_pos h1]; exact ⟨_, _, _, rfl, rfl, done (Or.inl h1)⟩
  by_cases h2 : (0 ≤ a ∧ a ≤ 119)
  case neg => simp only [if_neg h1, ite_not_f h2]; exact ⟨_, _, _, rfl, rfl, hr0⟩
  by_cases h3 : (a ≤ b ∧ b ≤ 119)
  · have h4 : (0 ≤ b ∧ b ≤ 119) := ⟨Int32.le_trans h2.1 h3.1, h3.2⟩
    simp only [if_neg h1, ite_not_t h2, ite_not_t h4, if_pos h3.1, ite_not_t h3]; exact ⟨_, _, _, rfl, rfl, done (Or.inr ⟨h2, h3⟩)⟩
  · by_cases h4 : (0 ≤ b ∧ b ≤ 119)
    · have h5 : ¬ a ≤ b := fun h => h3 ⟨h, h4.2⟩
      simp only [if_neg h1, ite_not_t h2, ite_not_t h4, if_neg h5, ite_not_f h3]; exact ⟨_, _, _, rfl, rfl, hr0⟩
    · simp only [if_neg h1, ite_not_t h2, ite_not_f h4, ite_not_f h3]; exact ⟨_, _, _, rfl, rfl, hr0⟩
theorem op_force (t0 : MS) (nw n : Nat) (a : Int32) (c : CS) (s : MS) (hr : R t0 nw c s) : SIM t0 nw (f_X7_force n nw a c) (f_X8_force n a s) := by
  have hr0 := hr
  obtain ⟨rH, rK, rC, rW, rP, rT, rX, rS, rM⟩ := hr
  have z0 : (0 : Int32).toInt = 0 := by decide
  have z1 : (1 : Int32).toInt = 1 := by decide
  unfold f_X7_force f_X8_force
  rw [rM.1]
  simp only [bn_def, btw, m_in, cl_some, bo_0]
  by_cases h1 : (0 ≤ a ∧ a ≤ s.1 21 - 1)
  case neg => simp only [ite_not_f h1]; exact ⟨_, _, _, rfl, rfl, hr0⟩
  simp only [ite_not_t h1]
  have hb := rM.2.1
  have h2 : 0 ≤ a.toInt ∧ a.toInt < (s.1 21).toInt := by
    obtain ⟨q1, q2⟩ := h1
    rw [le_i, z0] at q1
    have := hb.1; have := hb.2
    rw [le_i, sub_i _ _ (by rw [z1]; omega), z1] at q2
    omega
  have g : ∀ ks as, 22 ∉ ks → AG ks as s (sp s 22 a) := fun ks as h1 => AG_sp h1
  have eo : c.2.1.1 9 = s.1 22 := rH.2.2.2.2.2.2.2.2.2.2.1
  refine ⟨c.2.1.1 9, _, sp s 22 a, rfl, by rw [eo], ?_, RKept_ag (RKept_h rK (by show _ ≤ ((sp c.2.1 9 a).1 0).toInt; rw [sp1]; simp)) (g _ _ (by decide)), RCars_ag rC (g _ _ (by decide)) trivial, RWays_ag rW (g _ _ (by decide)), rP, RTape_ag rT (g _ _ (by decide)), RTexts_ag rX (g _ _ (by decide)), RSheets_ag rS (g _ _ (by decide)), ?_⟩
  · obtain ⟨e0, i0, ea, ba, es, e6, b6, e7, b7, e8, e9, b9⟩ := rH
    unfold RHill
    simp only [sp1, sp2]
    refine ⟨by simpa using e0, by simpa using i0, by simpa using ea, by simpa using ba, es, by simpa using e6, by simpa using b6, by simpa using e7, by simpa using b7, by simpa using e8, by simp, ?_⟩
    show IR a 0 5
    have := hb.2
    exact ⟨h2.1, by omega⟩
  · obtain ⟨m1, m2, m3, m4, m5, m6⟩ := rM
    unfold RMisc
    simp only [sp1, sp2]
    exact ⟨by simpa using m1, by simpa using m2, by simpa using m3, h2.2, m5, m6⟩
def hCar (a b d : Int32) (C : MS) : MS := sp (ap (ap (ap C 1 (C.1 0).toNatClampNeg a) 2 (C.1 0).toNatClampNeg b) 3 (C.1 0).toNatClampNeg d) 0 (C.1 0 + 1)
def sCar (a b d : Int32) (s : MS) : MS := sp (ap (ap (ap s 7 (s.1 6).toNatClampNeg a) 8 (s.1 6).toNatClampNeg b) 9 (s.1 6).toNatClampNeg d) 6 (s.1 6 + 1)
theorem op_car (t0 : MS) (nw n : Nat) (a b d : Int32) (c : CS) (s : MS) (hr : R t0 nw c s) : SIM t0 nw (f_X7_car n nw a b d c) (f_X8_car n a b d s) := by
  have hr0 := hr
  obtain ⟨rH, rK, rC, rW, rP, rT, rX, rS, rM⟩ := hr
  have z0 : (0 : Int32).toInt = 0 := by decide
  have z1 : (1 : Int32).toInt = 1 := by decide
  have z4 : (4 : Int32).toInt = 4 := by decide
  have z30 : (30 : Int32).toInt = 30 := by decide
  have z60 : (60 : Int32).toInt = 60 := by decide
  have z119 : (119 : Int32).toInt = 119 := by decide
  obtain ⟨e0, i0, ee⟩ := rC
  unfold f_X7_car f_X8_car f_X0_add
  simp only [bn_def, btw, m_in, c_min, m_min, cl_some, bo_0]
  by_cases h1 : (1 ≤ a ∧ a ≤ 60)
  case neg => simp only [ite_not_f h1]; exact ⟨_, _, _, rfl, rfl, hr0⟩
  by_cases h2 : (1 ≤ b ∧ b ≤ 30)
  case neg => simp only [ite_not_t h1, ite_not_f h2]; exact ⟨_, _, _, rfl, rfl, hr0⟩
  by_cases h3 : (0 ≤ d ∧ d ≤ 119)
  case neg => simp only [ite_not_t h1, ite_not_t h2, ite_not_f h3]; exact ⟨_, _, _, rfl, rfl, hr0⟩
  simp only [ite_not_t h1, ite_not_t h2, ite_not_t h3]
  by_cases h4 : s.1 6 = 4
  · have h5 : ¬ c.2.2.2.1.1 0 < 4 := by rw [e0, h4]; decide
    simp only [if_pos h4, if_neg h5, cl_some]; exact ⟨_, _, _, rfl, rfl, hr0⟩
  have h6 : (s.1 6).toInt < 4 := by
    rw [eq_i, z4] at h4
    have := i0.2
    omega
  have h5 : c.2.2.2.1.1 0 < 4 := by rw [e0, lt_i, z4]; exact h6
  have hi : ib (s.1 6) 24 = true := ib_of i0.1 (by omega)
  have hi2 : ib (c.2.2.2.1.1 0) 4 = true := by rw [e0]; exact ib_of i0.1 (by omega)
  simp only [if_neg h4, if_pos h5, ap1, hi, hi2, ck_t, cl_some]
  have hinc := inc_i (s.1 6) i0.1 (by omega)
  have hsub : s.1 6 + 1 - 1 = s.1 6 := by
    apply Int32.toInt_inj.mp
    have := i0.1
    rw [sub_i _ _ (by rw [hinc, z1]; omega), hinc, z1]
    omega
  have g : ∀ ks as, 6 ∉ ks → 7 ∉ as → 8 ∉ as → 9 ∉ as → AG ks as s (sCar a b d s) := fun ks as h1 h2 h3 h4 => AG_tr (AG_ap h2) (AG_tr (AG_ap h3) (AG_tr (AG_ap h4) (AG_sp h1)))
  refine ⟨c.2.2.2.1.1 0, (c.1, c.2.1, c.2.2.1, hCar a b d c.2.2.2.1, c.2.2.2.2.1, c.2.2.2.2.2.1, c.2.2.2.2.2.2.1, c.2.2.2.2.2.2.2.1, c.2.2.2.2.2.2.2.2.1, c.2.2.2.2.2.2.2.2.2.1, c.2.2.2.2.2.2.2.2.2.2), sCar a b d s, rfl, ?_, RHill_ag rH (g _ _ (by decide) (by decide) (by decide) (by decide)), RKept_ag rK (g _ _ (by decide) (by decide) (by decide) (by decide)), ?_, RWays_ag rW (g _ _ (by decide) (by decide) (by decide) (by decide)), rP, RTape_ag rT (g _ _ (by decide) (by decide) (by decide) (by decide)), RTexts_ag rX (g _ _ (by decide) (by decide) (by decide) (by decide)), RSheets_ag rS (g _ _ (by decide) (by decide) (by decide) (by decide)), RMisc_ag rM (g _ _ (by decide) (by decide) (by decide) (by decide))⟩
  · show some (((sp _ 6 (s.1 6 + 1)).1 6 - 1), sCar a b d s) = _
    rw [sp1, if_pos rfl, hsub, e0]
  · have hnn := nn_eq i0.1
    rw [le_i, le_i, z1, z60] at h1
    rw [le_i, le_i, z1, z30] at h2
    rw [le_i, le_i, z0, z119] at h3
    have ex : (hCar a b d c.2.2.2.1).1 0 = s.1 6 + 1 := by unfold hCar; rw [sp1, if_pos rfl, e0]
    have sx : (sCar a b d s).1 6 = s.1 6 + 1 := by unfold sCar; rw [sp1, if_pos rfl]
    unfold RCars
    rw [ex, sx, hinc]
    refine ⟨rfl, ⟨by rw [hinc]; have := i0.1; omega, by rw [hinc]; omega⟩, fun i hlt => ?_⟩
    have hx : ∀ j t, (hCar a b d c.2.2.2.1).2 j t = if j = 3 then (if t = (s.1 6).toNatClampNeg then d else c.2.2.2.1.2 3 t) else if j = 2 then (if t = (s.1 6).toNatClampNeg then b else c.2.2.2.1.2 2 t) else if j = 1 then (if t = (s.1 6).toNatClampNeg then a else c.2.2.2.1.2 1 t) else c.2.2.2.1.2 j t := by
      intro j t; unfold hCar; rw [sp2]; simp only [ap2, e0]
      by_cases q3 : j = 3
      · subst q3; simp
      by_cases q2 : j = 2
      · subst q2; simp
      by_cases q1 : j = 1
      · subst q1; simp
      simp [q3, q2, q1]
    have hs : ∀ j t, (sCar a b d s).2 j t = if j = 9 then (if t = (s.1 6).toNatClampNeg then d else s.2 9 t) else if j = 8 then (if t = (s.1 6).toNatClampNeg then b else s.2 8 t) else if j = 7 then (if t = (s.1 6).toNatClampNeg then a else s.2 7 t) else s.2 j t := by
      intro j t; unfold sCar; rw [sp2]; simp only [ap2]
      by_cases q3 : j = 9
      · subst q3; simp
      by_cases q2 : j = 8
      · subst q2; simp
      by_cases q1 : j = 7
      · subst q1; simp
      simp [q3, q2, q1]
    rw [hx, hx, hx, hs, hs, hs]
    by_cases e : i = (s.1 6).toNatClampNeg
    · simp only [e, if_true, show (1 : Nat) ≠ 3 by decide, show (1 : Nat) ≠ 2 by decide, show (2 : Nat) ≠ 3 by decide, show (7 : Nat) ≠ 9 by decide, show (7 : Nat) ≠ 8 by decide, show (8 : Nat) ≠ 9 by decide, if_false, true_and]
      exact ⟨h1, h2, h3⟩
    · have := ee i (by omega)
      simpa [e] using this
-- calls, asks
def callsV (k f b m : Int32) : Int32 := if f ≤ m then (if k = 1 then b else if k = 3 then (if (m - f) - (m - f) / 10 * 10 = 0 then b + 5 else b) else if k = 5 then 2 * (if (m - f) - (m - f) / 10 * 10 = 0 then b + 5 else b) else 0) else 0
def asksV (k f b m : Int32) : Int32 := if k = 2 then (if f ≤ m then 1 + b else 1) else if k = 3 then 0 else if k = 4 then 2 * (if f ≤ m then 1 + b else 1) else if k = 5 then b else 1
theorem IR5 {k : Int32} (h : IR k 0 5) : k = 0 ∨ k = 1 ∨ k = 2 ∨ k = 3 ∨ k = 4 ∨ k = 5 := by
  obtain ⟨h1, h2⟩ := h
  simp only [eq_i]
  have z0 : (0 : Int32).toInt = 0 := by decide
  have z1 : (1 : Int32).toInt = 1 := by decide
  have z2 : (2 : Int32).toInt = 2 := by decide
  have z3 : (3 : Int32).toInt = 3 := by decide
  have z4 : (4 : Int32).toInt = 4 := by decide
  have z5 : (5 : Int32).toInt = 5 := by decide
  omega
theorem c_calls (n : Nat) (m f : Int32) (s : MS) (hk : IR (s.1 0) 0 5) : f_X6_callsIn n m f s = some (callsV (s.1 0) f (s.1 2) m) := by
  unfold f_X6_callsIn callsV
  simp only [nz10, ck_t, jn_def]
  by_cases h : f ≤ m
  · simp only [if_pos h]
    rcases IR5 hk with e | e | e | e | e | e <;> rw [e] <;> by_cases h2 : (m - f) - (m - f) / 10 * 10 = 0 <;> simp [h2]
  · simp only [if_neg h]
theorem c_asks (n : Nat) (m f : Int32) (s : MS) : f_X6_asksIn n m f s = some (asksV (s.1 0) f (s.1 2) m) := by
  unfold f_X6_asksIn asksV
  simp only [jn_def]
  by_cases h : f ≤ m <;> simp only [h, if_true, if_false] <;> (repeat' split) <;> rfl
theorem m_calls (n : Nat) (w m : Int32) (s : MS) (ht : s.1 18 = -1) (hw : ib w 8 = true) (hk : IR (s.2 11 w.toNatClampNeg) 0 5) : f_X8_calls n w m s = some (callsV (s.2 11 w.toNatClampNeg) (s.2 12 w.toNatClampNeg) (s.2 13 w.toNatClampNeg) m) := by
  unfold f_X8_calls callsV
  rw [ht, if_pos (by decide)]
  simp only [hw, ck_t, bn_def, jn_def, nz10]
  rcases IR5 hk with e | e | e | e | e | e <;> rw [e] <;> by_cases h : s.2 12 w.toNatClampNeg ≤ m <;> by_cases h2 : (m - s.2 12 w.toNatClampNeg) - (m - s.2 12 w.toNatClampNeg) / 10 * 10 = 0 <;> simp [h, h2]
theorem m_asks (n : Nat) (w m : Int32) (s : MS) (ht : s.1 18 = -1) (hw : ib w 8 = true) : f_X8_asks n w m s = some (asksV (s.2 11 w.toNatClampNeg) (s.2 12 w.toNatClampNeg) (s.2 13 w.toNatClampNeg) m) := by
  unfold f_X8_asks asksV
  rw [ht, if_pos (by decide)]
  simp only [hw, ck_t, bn_def, jn_def]
  by_cases h : s.2 12 w.toNatClampNeg ≤ m
  · have h' : ¬ m < s.2 12 w.toNatClampNeg := Int32.not_lt.mpr h
    simp only [h, h', if_true, if_false]
    (repeat' split) <;> rfl
  · have h' : m < s.2 12 w.toNatClampNeg := Int32.not_le.mp h
    simp only [h, h', if_true, if_false]
    (repeat' split) <;> rfl
