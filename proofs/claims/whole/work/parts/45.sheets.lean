-- OPS: sheets
theorem she_i {a : Int32} (h : 0 ≤ a ∧ a ≤ 3) : ib a 4 = true ∧ a.toNatClampNeg < 4 ∧ a.toInt = (a.toNatClampNeg : Int) := by
  have z0 : (0 : Int32).toInt = 0 := by decide
  have z3 : (3 : Int32).toInt = 3 := by decide
  rw [le_i, le_i, z0, z3] at h
  exact ⟨ib_of h.1 (by omega), nn_lt h.1 (by omega), (nn_eq h.1).symm⟩
theorem at40 {a b : Int32} {i : Nat} (hi : a.toInt = (i : Int)) (h4 : i < 4) (h0 : 0 ≤ b.toInt) (h1 : b.toInt < 40) : ib (40 * a + b) 160 = true ∧ (40 * a + b).toNatClampNeg = 40 * i + b.toNatClampNeg := by
  have z40 : (40 : Int32).toInt = 40 := by decide
  have hm : ((40 : Int32) * a).toInt = 40 * (i : Int) := by rw [mul_i _ _ (by rw [z40, hi]; omega), z40, hi]
  have hs : ((40 : Int32) * a + b).toInt = 40 * (i : Int) + b.toInt := by rw [add_i _ _ (by rw [hm]; omega), hm]
  refine ⟨ib_of (by rw [hs]; omega) (by rw [hs]; omega), ?_⟩
  have q := nn_eq (x := 40 * a + b) (by rw [hs]; omega)
  have q2 := nn_eq h0
  rw [hs] at q
  omega
theorem RSheets_put {S : Nat → MS} {s : MS} {i j : Nat} {x : Int32} (hr : RSheets S s) (hi : i < 4) (hj : (j : Int) < (s.2 58 i).toInt) (hn : ¬ s.2 57 i = -1) : RSheets (va_up S i (ap (S i) 2 j x)) (ap s 59 (40 * i + j) x) := by
  intro k hk
  obtain ⟨a1, a2, a3⟩ := hr k hk
  have hs : ∀ t u, t ≠ 59 → (ap s 59 (40 * i + j) x).2 t u = s.2 t u := fun t u h => by rw [ap2, if_neg h]
  rw [hs 57 k (by decide), hs 58 k (by decide)]
  by_cases e : k = i
  · subst e
    rw [vu, if_pos rfl]
    refine ⟨by rw [ap1]; exact a1, a2, Or.inr ?_⟩
    rcases a3 with a3 | ⟨b1, b2, b3⟩
    · exact absurd a3 hn
    · refine ⟨by rw [ap1]; exact b1, b2, fun t ht => ?_⟩
      rw [ap2, if_pos rfl, ap2, if_pos rfl]
      by_cases e2 : t = j
      · subst e2; rw [if_pos rfl, if_pos rfl]
      · rw [if_neg e2, if_neg (by omega)]; exact b3 t ht
  · rw [vu, if_neg e]
    refine ⟨a1, a2, ?_⟩
    rcases a3 with a3 | ⟨b1, b2, b3⟩
    · exact Or.inl a3
    · refine Or.inr ⟨b1, b2, fun t ht => ?_⟩
      rw [ap2, if_pos rfl, if_neg (by
        have h1 := (hr i hi).2.2
        rcases h1 with h1 | ⟨_, h2, _⟩
        · exact absurd h1 hn
        · have := h2.2; have := b2.2; omega)]
      exact b3 t ht
theorem R_sheets {t0 : MS} {nw : Nat} {c : CS} {s s' : MS} {S' : Nat → MS} (hr : R t0 nw c s) (hS : RSheets S' s') (g : ∀ ks as, 57 ∉ as → 58 ∉ as → 59 ∉ as → AG ks as s s') : R t0 nw (c.1, c.2.1, c.2.2.1, c.2.2.2.1, c.2.2.2.2.1, c.2.2.2.2.2.1, c.2.2.2.2.2.2.1, c.2.2.2.2.2.2.2.1, S', c.2.2.2.2.2.2.2.2.2.1, c.2.2.2.2.2.2.2.2.2.2) s' := by
  obtain ⟨rH, rK, rC, rW, rP, rT, rX, rS, rM⟩ := hr
  exact ⟨RHill_ag rH (g _ _ (by decide) (by decide) (by decide)), RKept_ag rK (g _ _ (by decide) (by decide) (by decide)), RCars_ag rC (g _ _ (by decide) (by decide) (by decide)) trivial, RWays_ag rW (g _ _ (by decide) (by decide) (by decide)), rP, RTape_ag rT (g _ _ (by decide) (by decide) (by decide)), RTexts_ag rX (g _ _ (by decide) (by decide) (by decide)), hS, RMisc_ag rM (g _ _ (by decide) (by decide) (by decide))⟩
theorem op_cell (t0 : MS) (nw n : Nat) (a b v : Int32) (c : CS) (s : MS) (hr : R t0 nw c s) : SIM t0 nw (f_X7_cell n nw a b v c) (f_X8_cell n a b v s) := by
  have hr0 := hr
  obtain ⟨rH, rK, rC, rW, rP, rT, rX, rS, rM⟩ := hr
  have z0 : (0 : Int32).toInt = 0 := by decide
  have z1 : (1 : Int32).toInt = 1 := by decide
  have zm : (-1 : Int32).toInt = -1 := by decide
  unfold f_X7_cell f_X8_cell
  rw [c_she, m_she, cl_some, cl_some]
  simp only [bo_0]
  by_cases h1 : 0 ≤ a ∧ a ≤ 3
  case neg => simp only [ite_not_f h1]; exact ⟨_, _, _, rfl, rfl, hr0⟩
  obtain ⟨i4, hi, hai⟩ := she_i h1
  obtain ⟨q1, q2, q3⟩ := rS _ hi
  simp only [ite_not_t h1, i4, ck_t, bn_def]
  rw [q1]
  by_cases h2 : s.2 57 a.toNatClampNeg = -1
  · have h3 : ¬ 0 ≤ s.2 57 a.toNatClampNeg := by rw [h2]; decide
    rw [if_pos h2, if_neg h3]; exact ⟨_, _, _, rfl, rfl, hr0⟩
  have h3 : 0 ≤ s.2 57 a.toNatClampNeg := by
    rw [le_i, z0]
    rw [eq_i, zm] at h2
    have := q2.1
    omega
  rw [if_neg h2, if_pos h3]
  rcases q3 with q3 | ⟨b1, b2, b3⟩
  · exact absurd q3 h2
  unfold f_X3_has
  rw [b1, btw, cl_some, isz_bo, ck_t, cl_some, m_in, cl_some]
  simp only [bo_0]
  by_cases h4 : 0 ≤ b ∧ b ≤ s.2 58 a.toNatClampNeg - 1
  case neg => rw [ite_not_f h4, ite_not_f h4]; exact ⟨_, _, _, rfl, rfl, hr0⟩
  rw [ite_not_t h4, ite_not_t h4]
  have hb : 0 ≤ b.toInt ∧ b.toInt < (s.2 58 a.toNatClampNeg).toInt := by
    obtain ⟨u1, u2⟩ := h4
    rw [le_i, z0] at u1
    have := b2.1; have := b2.2
    rw [le_i, sub_i _ _ (by rw [z1]; omega), z1] at u2
    omega
  have hb40 : b.toInt < 40 := by have := b2.2; omega
  obtain ⟨p1, p2⟩ := at40 hai hi hb.1 hb40
  have p3 : ib b 40 = true := ib_of hb.1 hb40
  have p4 := nn_eq hb.1
  rw [p2]
  simp only [p1, ck_t, jn_def]
  unfold f_X3_put
  rw [q1]
  have fin : ∀ x : Int32, SIM t0 nw (some ((1 : Int32), (c.1, c.2.1, c.2.2.1, c.2.2.2.1, c.2.2.2.2.1, c.2.2.2.2.2.1, c.2.2.2.2.2.2.1, c.2.2.2.2.2.2.2.1, (va_up c.2.2.2.2.2.2.2.2.1 a.toNatClampNeg (ap (c.2.2.2.2.2.2.2.2.1 a.toNatClampNeg) 2 b.toNatClampNeg x)), c.2.2.2.2.2.2.2.2.2.1, c.2.2.2.2.2.2.2.2.2.2))) (some ((1 : Int32), ap s 59 (40 * a.toNatClampNeg + b.toNatClampNeg) x)) := fun x =>
    ⟨1, _, _, rfl, rfl, R_sheets hr0 (RSheets_put rS hi (by omega) h2) (fun ks as _ _ h => AG_ap h)⟩
  by_cases k0 : s.2 57 a.toNatClampNeg = 0
  · rw [if_pos k0, if_pos k0, p3, ck_t, bn_def, cl_some]; exact fin _
  by_cases k1 : s.2 57 a.toNatClampNeg = 1
  · rw [if_neg k0, if_pos k1, if_neg k0, if_pos k1, p3, ck_t, bn_def, cl_some]; exact fin _
  · rw [if_neg k0, if_neg k1, if_neg k0, if_neg k1, p3, ck_t, bn_def, cl_some]; exact fin _
