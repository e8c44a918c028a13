-- OPS: image, back
theorem mmax_i (x y : Int32) : (mmax x y).toInt = max x.toInt y.toInt := by
  unfold mmax
  by_cases h : x < y
  · rw [if_pos h]; rw [lt_i] at h; omega
  · rw [if_neg h]; rw [lt_i] at h; omega
theorem mmin_i (x y : Int32) : (mmin x y).toInt = min x.toInt y.toInt := by
  unfold mmin
  by_cases h : y < x
  · rw [if_pos h]; rw [lt_i] at h; omega
  · rw [if_neg h]; rw [lt_i] at h; omega
/-- the class lays a hill over another -/
def overH (h k : MS) : MS := (fun j => if j = 0 then mmax (h.1 0) (k.1 0) else if j = 6 ∨ j = 7 ∨ j = 8 ∨ j = 9 then k.1 j else h.1 j, fun j i => if j = 1 ∨ j = 2 ∨ j = 3 ∨ j = 4 then (if i < (k.1 0).toNatClampNeg then k.2 j i else h.2 j i) else if j = 5 then (if i < 120 then k.2 5 i else h.2 5 i) else h.2 j i)
theorem c_over (n : Nat) (h k : MS) (hk : IR (k.1 0) 0 6) : f_X2_takeOver n h k = some (overH h k) := by
  have z0 : (0 : Int32).toInt = 0 := by decide
  have c1 : cpk 0 6 0 6 (k.1 0) = true := by
    unfold cpk
    have q := nn_eq hk.1
    obtain ⟨a, b⟩ := hk
    have e0 : (0 : Int32).toNatClampNeg = 0 := by decide
    rw [decide_eq_true_eq, lt_i, lt_i, z0, e0]
    omega
  have c2 : cpk 0 120 0 120 120 = true := by decide
  have e0 : (0 : Int32).toNatClampNeg = 0 := by decide
  have e120 : (120 : Int32).toNatClampNeg = 120 := by decide
  unfold f_X2_takeOver
  simp only [c1, c2, ck_t, bn_def, e0, e120]
  refine congrArg some (Prod.ext ?_ ?_)
  · funext j
    simp only [sp1, ar1, overH]
    by_cases j9 : j = 9
    · subst j9; simp
    by_cases j8 : j = 8
    · subst j8; simp
    by_cases j7 : j = 7
    · subst j7; simp
    by_cases j6 : j = 6
    · subst j6; simp
    by_cases j0 : j = 0
    · subst j0; simp
    simp [j9, j8, j7, j6, j0]
  · funext j i
    simp only [sp2, ar2, overH]
    unfold va_cpy
    simp only [Nat.zero_le, true_and, Nat.zero_add, Nat.sub_zero]
    by_cases j5 : j = 5
    · subst j5; simp
    by_cases j4 : j = 4
    · subst j4; simp
    by_cases j3 : j = 3
    · subst j3; simp
    by_cases j2 : j = 2
    · subst j2; simp
    by_cases j1 : j = 1
    · subst j1; simp
    simp [j5, j4, j3, j2, j1]
theorem m_image (n : Nat) (hn : 121 ≤ n) (s : MS) : ∃ s', f_X8_image n s = some (s.1 1, s') ∧ s'.1 = (fun j => if j = 51 then s.1 1 else if j = 50 then s.1 22 else if j = 49 then s.1 17 else if j = 48 then s.1 16 else if j = 47 then s.1 15 else if j = 46 then 1 else s.1 j) ∧ (∀ q, q ≠ 52 → q ≠ 53 → q ≠ 54 → q ≠ 55 → q ≠ 56 → s'.2 q = s.2 q) ∧ (∀ i, i < 6 → s'.2 52 i = s.2 2 i ∧ s'.2 53 i = s.2 3 i ∧ s'.2 54 i = s.2 4 i ∧ s'.2 55 i = s.2 5 i) ∧ ∀ i, i < 120 → s'.2 56 i = s.2 14 i := by
  have loop2 : ∀ z : MS, ∃ r : Int32 × MS, (r.1 = z.1 1 ∧ r.2.1 = z.1 ∧ (∀ q, q ≠ 56 → r.2.2 q = z.2 q) ∧ ∀ i, i < 120 → r.2.2 56 i = z.2 14 i) ∧ lp (fun K11 (t10 : Int32 × MS) =>
        if 120 ≤ t10.1 then (
          some ((t10.2.1 1), t10.2))
        else (
          ck (ib t10.1 120) <| bn (t10.2.2 14 (Int32.toNatClampNeg t10.1)) fun x13 =>
          ck (ib t10.1 120) <| bn (ap t10.2 56 (Int32.toNatClampNeg t10.1) x13) fun z14 =>
          K11 ((t10.1 + 1), z14))) n (0, z) = some r := by
    intro z
    refine lp_for 120 (by omega) (fun j s => s.1 = z.1 ∧ (∀ q, q ≠ 56 → s.2 q = z.2 q) ∧ ∀ i, i < j → s.2 56 i = z.2 14 i) _ ?_ ?_ n (by omega) z ⟨rfl, fun _ _ => rfl, fun u hu => absurd hu (Nat.not_lt_zero _)⟩
    · intro j s hj ⟨q1, q2, q3⟩
      refine Or.inl ⟨ap s 56 j (s.2 14 j), ⟨by rw [ap1]; exact q1, fun q hq => by funext u; rw [ap2, if_neg hq, q2 q hq], fun u hu => ?_⟩, fun self => ?_⟩
      · rw [ap2, if_pos rfl, q2 14 (by decide)]
        by_cases e : u = j
        · rw [if_pos e, e]
        · rw [if_neg e, q3 u (by omega)]
      · show (if (120 : Int32) ≤ nI j then _ else ck (ib (nI j) 120) (bn (s.2 14 (nI j).toNatClampNeg) fun x13 => ck (ib (nI j) 120) (bn (ap s 56 (nI j).toNatClampNeg x13) fun z14 => self ((nI j + 1), z14)))) = _
        rw [if_neg (nI_ge (a := j) (b := 120) hj (by omega)), ib_j (by omega) (by omega), ck_t, bn_def, ck_t, bn_def, nI_succ, nI_clamp (by omega)]
    · intro s ⟨q1, q2, q3⟩
      refine ⟨(s.1 1, s), ⟨by rw [q1], q1, q2, q3⟩, fun self => ?_⟩
      show (if (120 : Int32) ≤ nI 120 then _ else _) = _
      rw [if_pos (by decide)]
  unfold f_X8_image
  simp only [bn_def]
  generalize hz : sp (sp (sp (sp (sp (sp s 46 1) 47 _) 48 _) 49 _) 50 _) 51 _ = z
  have z1 : z.1 = (fun j => if j = 51 then s.1 1 else if j = 50 then s.1 22 else if j = 49 then s.1 17 else if j = 48 then s.1 16 else if j = 47 then s.1 15 else if j = 46 then 1 else s.1 j) := by
    subst hz
    funext j
    simp only [sp1]
    simp
  have z2 : z.2 = s.2 := by subst hz; rfl
  obtain ⟨r, ⟨r1, r2, r3, r4, r5⟩, he⟩ := lp_for (F := fun K8 (t7 : Int32 × MS) =>
    if 6 ≤ t7.1 then (
      lp (fun K11 (t10 : Int32 × MS) =>
        if 120 ≤ t10.1 then (
          some ((t10.2.1 1), t10.2))
        else (
          ck (ib t10.1 120) <| bn (t10.2.2 14 (Int32.toNatClampNeg t10.1)) fun x13 =>
          ck (ib t10.1 120) <| bn (ap t10.2 56 (Int32.toNatClampNeg t10.1) x13) fun z14 =>
          K11 ((t10.1 + 1), z14))) n (0, t7.2))
    else (
      ck (ib t7.1 6) <| bn (t7.2.2 2 (Int32.toNatClampNeg t7.1)) fun x15 =>
      ck (ib t7.1 6) <| bn (ap t7.2 52 (Int32.toNatClampNeg t7.1) x15) fun z16 =>
      ck (ib t7.1 6) <| bn (z16.2 3 (Int32.toNatClampNeg t7.1)) fun x17 =>
      ck (ib t7.1 6) <| bn (ap z16 53 (Int32.toNatClampNeg t7.1) x17) fun z18 =>
      ck (ib t7.1 6) <| bn (z18.2 4 (Int32.toNatClampNeg t7.1)) fun x19 =>
      ck (ib t7.1 6) <| bn (ap z18 54 (Int32.toNatClampNeg t7.1) x19) fun z20 =>
      ck (ib t7.1 6) <| bn (z20.2 5 (Int32.toNatClampNeg t7.1)) fun x21 =>
      ck (ib t7.1 6) <| bn (ap z20 55 (Int32.toNatClampNeg t7.1) x21) fun z22 =>
      K8 ((t7.1 + 1), z22))) 6 (by omega) (fun j x => x.1 = z.1 ∧ (∀ q, q ≠ 52 → q ≠ 53 → q ≠ 54 → q ≠ 55 → x.2 q = z.2 q) ∧ ∀ i, i < j → x.2 52 i = z.2 2 i ∧ x.2 53 i = z.2 3 i ∧ x.2 54 i = z.2 4 i ∧ x.2 55 i = z.2 5 i) (fun r : Int32 × MS => r.1 = z.1 1 ∧ r.2.1 = z.1 ∧ (∀ q, q ≠ 52 → q ≠ 53 → q ≠ 54 → q ≠ 55 → q ≠ 56 → r.2.2 q = z.2 q) ∧ (∀ i, i < 6 → r.2.2 52 i = z.2 2 i ∧ r.2.2 53 i = z.2 3 i ∧ r.2.2 54 i = z.2 4 i ∧ r.2.2 55 i = z.2 5 i) ∧ ∀ i, i < 120 → r.2.2 56 i = z.2 14 i) (by
      intro j x hj ⟨q1, q2, q3⟩
      refine Or.inl ⟨ap (ap (ap (ap x 52 j (x.2 2 j)) 53 j (x.2 3 j)) 54 j (x.2 4 j)) 55 j (x.2 5 j), ⟨by rw [ap1, ap1, ap1, ap1]; exact q1, fun q h2 h3 h4 h5 => ?_, fun i hi => ?_⟩, fun self => ?_⟩
      · funext u; rw [ap2, if_neg h5, ap2, if_neg h4, ap2, if_neg h3, ap2, if_neg h2, q2 q h2 h3 h4 h5]
      · simp only [ap2]
        have e2 := q2 2 (by decide) (by decide) (by decide) (by decide)
        have e3 := q2 3 (by decide) (by decide) (by decide) (by decide)
        have e4 := q2 4 (by decide) (by decide) (by decide) (by decide)
        have e5 := q2 5 (by decide) (by decide) (by decide) (by decide)
        by_cases e : i = j
        · subst e; simp [e2, e3, e4, e5]
        · have := q3 i (by omega); simpa [e] using this
      · show (if (6 : Int32) ≤ nI j then _ else ck (ib (nI j) 6) (bn (x.2 2 (nI j).toNatClampNeg) fun x15 => ck (ib (nI j) 6) (bn (ap x 52 (nI j).toNatClampNeg x15) fun z16 => ck (ib (nI j) 6) (bn (z16.2 3 (nI j).toNatClampNeg) fun x17 => ck (ib (nI j) 6) (bn (ap z16 53 (nI j).toNatClampNeg x17) fun z18 => ck (ib (nI j) 6) (bn (z18.2 4 (nI j).toNatClampNeg) fun x19 => ck (ib (nI j) 6) (bn (ap z18 54 (nI j).toNatClampNeg x19) fun z20 => ck (ib (nI j) 6) (bn (z20.2 5 (nI j).toNatClampNeg) fun x21 => ck (ib (nI j) 6) (bn (ap z20 55 (nI j).toNatClampNeg x21) fun z22 => self ((nI j + 1), z22))))))))) = _
        rw [if_neg (nI_ge (a := j) (b := 6) hj (by omega)), ib_j (by omega) (by omega), nI_succ, nI_clamp (by omega)]
        simp only [ck_t, bn_def]
        rw [ap2, if_neg (by decide), ap2, if_neg (by decide), ap2, if_neg (by decide), ap2, if_neg (by decide), ap2, if_neg (by decide), ap2, if_neg (by decide)]) (by
      intro x ⟨q1, q2, q3⟩
      obtain ⟨r, ⟨r1, r2, r3, r4⟩, he⟩ := loop2 x
      refine ⟨r, ⟨by rw [r1, q1], r2.trans q1, fun q h2 h3 h4 h5 h6 => (r3 q h6).trans (q2 q h2 h3 h4 h5), fun i hi => ?_, fun i hi => ?_⟩, fun self => ?_⟩
      · rw [r3 52 (by decide), r3 53 (by decide), r3 54 (by decide), r3 55 (by decide)]; exact q3 i hi
      · rw [r4 i hi, q2 14 (by decide) (by decide) (by decide) (by decide)]
      · show (if (6 : Int32) ≤ nI 6 then _ else _) = _
        rw [if_pos (by decide)]
        exact he) n (by omega) z ⟨rfl, fun _ _ _ _ _ => rfl, fun i hi => absurd hi (Nat.not_lt_zero _)⟩
  refine ⟨r.2, he.trans ?_, r2.trans z1, ?_, ?_, ?_⟩
  · have : z.1 1 = s.1 1 := by rw [z1]; simp
    rw [← this, ← r1]
  · intro q h2 h3 h4 h5 h6; rw [r3 q h2 h3 h4 h5 h6, z2]
  · rw [← z2]; exact r4
  · rw [← z2]; exact r5
