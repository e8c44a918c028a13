-- OPS: image, back
theorem lp_to {κ X ρ : Type} {F : κ → (X → Option ρ) → X → Option ρ} (k : Nat) (I : Nat → X → Prop) (out : κ → X → Option ρ) (step : ∀ j x, j < k → I j x → ∃ x', I (j + 1) x' ∧ ∀ c self, F c self x = self x') (stop : ∀ x, I k x → ∀ c self, F c self x = out c x) (n : Nat) (hn : k < n) (x0 : X) (h0 : I 0 x0) : ∃ x, I k x ∧ ∀ c, lp (F c) n x0 = out c x := by
  have go : ∀ (d j : Nat) (y : X) (n : Nat), j + d = k → d < n → I j y → ∃ x, I k x ∧ ∀ c, lp (F c) n y = out c x := by
    intro d
    induction d with
    | zero =>
      intro j y n hj hn hI
      have e : j = k := by omega
      subst e
      cases n with
      | zero => omega
      | succ n => exact ⟨y, hI, fun c => stop y hI c _⟩
    | succ d ih =>
      intro j y n hj hn hI
      cases n with
      | zero => omega
      | succ n =>
        obtain ⟨y', h1, h2⟩ := step j y (by omega) hI
        obtain ⟨x, hx, he⟩ := ih (j + 1) y' n (by omega) (by omega) h1
        exact ⟨x, hx, fun c => by show F c (lp (F c) n) y = _; rw [h2]; exact he c⟩
  exact go k 0 x0 n (by omega) hn h0
theorem lp_fn {X ρ : Type} {F : (X → Option ρ) → X → Option ρ} (k : Nat) (st : Nat → X) (out : Option ρ) (step : ∀ j, j < k → ∀ self, F self (st j) = self (st (j + 1))) (stop : ∀ self, F self (st k) = out) (n : Nat) (hn : k < n) : lp F n (st 0) = out := by
  obtain ⟨x, hx, he⟩ := lp_to (F := fun (_ : Unit) => F) k (fun j x => x = st j) (fun _ _ => out) (fun j x hj h => ⟨st (j + 1), rfl, fun _ self => by rw [h]; exact step j hj self⟩) (fun x h _ self => by rw [h]; exact stop self) n hn (st 0) rfl
  exact he ()
theorem lge {j : Nat} (k : Nat) (x : Int32) (hx : x = nI k) (h : j < k) (hk : k < 2 ^ 31) : ¬ x ≤ nI j := by
  rw [hx]; exact nI_ge h hk
theorem mmax_i (x y : Int32) : (mmax x y).toInt = max x.toInt y.toInt := by
  unfold mmax
  by_cases h : x < y
  · rw [if_pos h]; rw [lt_i] at h; omega
  · rw [if_neg h]; rw [lt_i] at h; omega
theorem mmin_i (x y : Int32) : (mmin x y).toInt = min x.toInt y.toInt := by
  unfold mmin
  by_cases h : y < x
  · rw [if_pos h]; rw [lt_i] at h; omega
  · rw [if_neg h]; rw [lt_i] at h; omega
/-- the class lays a hill over another -/
def overH (h k : MS) : MS := (fun j => if j = 0 then mmax (h.1 0) (k.1 0) else if j = 6 ∨ j = 7 ∨ j = 8 ∨ j = 9 then k.1 j else h.1 j, fun j i => if j = 1 ∨ j = 2 ∨ j = 3 ∨ j = 4 then (if i < (k.1 0).toNatClampNeg then k.2 j i else h.2 j i) else if j = 5 then (if i < 120 then k.2 5 i else h.2 5 i) else h.2 j i)
theorem c_over (n : Nat) (h k : MS) (hk : IR (k.1 0) 0 6) : f_X2_takeOver n h k = some (overH h k) := by
  have z0 : (0 : Int32).toInt = 0 := by decide
  have c1 : cpk 0 6 0 6 (k.1 0) = true := by
    unfold cpk
    have q := nn_eq hk.1
    obtain ⟨a, b⟩ := hk
    have e0 : (0 : Int32).toNatClampNeg = 0 := by decide
    rw [decide_eq_true_eq, lt_i, lt_i, z0, e0]
    omega
  have c2 : cpk 0 120 0 120 120 = true := by decide
  have e0 : (0 : Int32).toNatClampNeg = 0 := by decide
  have e120 : (120 : Int32).toNatClampNeg = 120 := by decide
  unfold f_X2_takeOver
  simp only [c1, c2, ck_t, bn_def, e0, e120]
  refine congrArg some (Prod.ext ?_ ?_)
  · funext j
    simp only [sp1, ar1, overH]
    by_cases j9 : j = 9
    · subst j9; simp
    by_cases j8 : j = 8
    · subst j8; simp
    by_cases j7 : j = 7
    · subst j7; simp
    by_cases j6 : j = 6
    · subst j6; simp
    by_cases j0 : j = 0
    · subst j0; simp
    simp [j9, j8, j7, j6, j0]
  · funext j i
    simp only [sp2, ar2, overH]
    unfold va_cpy
    simp only [Nat.zero_le, true_and, Nat.zero_add, Nat.sub_zero]
    by_cases j5 : j = 5
    · subst j5; simp
    by_cases j4 : j = 4
    · subst j4; simp
    by_cases j3 : j = 3
    · subst j3; simp
    by_cases j2 : j = 2
    · subst j2; simp
    by_cases j1 : j = 1
    · subst j1; simp
    simp [j5, j4, j3, j2, j1]
theorem m_image (n : Nat) (hn : 121 ≤ n) (s : MS) : ∃ s', f_X8_image n s = some (s.1 1, s') ∧ s'.1 = (fun j => if j = 51 then s.1 1 else if j = 50 then s.1 22 else if j = 49 then s.1 17 else if j = 48 then s.1 16 else if j = 47 then s.1 15 else if j = 46 then 1 else s.1 j) ∧ (∀ q, q ≠ 52 → q ≠ 53 → q ≠ 54 → q ≠ 55 → q ≠ 56 → s'.2 q = s.2 q) ∧ (∀ i, i < 6 → s'.2 52 i = s.2 2 i ∧ s'.2 53 i = s.2 3 i ∧ s'.2 54 i = s.2 4 i ∧ s'.2 55 i = s.2 5 i) ∧ ∀ i, i < 120 → s'.2 56 i = s.2 14 i := by
  have loop2 : ∀ z : MS, ∃ r : Int32 × MS, (r.1 = z.1 1 ∧ r.2.1 = z.1 ∧ (∀ q, q ≠ 56 → r.2.2 q = z.2 q) ∧ ∀ i, i < 120 → r.2.2 56 i = z.2 14 i) ∧ lp (fun K11 (t10 : Int32 × MS) =>
        if 120 ≤ t10.1 then (
          some ((t10.2.1 1), t10.2))
        else (
          ck (ib t10.1 120) <| bn (t10.2.2 14 (Int32.toNatClampNeg t10.1)) fun x13 =>
          ck (ib t10.1 120) <| bn (ap t10.2 56 (Int32.toNatClampNeg t10.1) x13) fun z14 =>
          K11 ((t10.1 + 1), z14))) n (0, z) = some r := by
    intro z
    refine lp_for 120 (by omega) (fun j s => s.1 = z.1 ∧ (∀ q, q ≠ 56 → s.2 q = z.2 q) ∧ ∀ i, i < j → s.2 56 i = z.2 14 i) _ ?_ ?_ n (by omega) z ⟨rfl, fun _ _ => rfl, fun u hu => absurd hu (Nat.not_lt_zero _)⟩
    · intro j s hj ⟨q1, q2, q3⟩
      refine Or.inl ⟨ap s 56 j (s.2 14 j), ⟨by rw [ap1]; exact q1, fun q hq => by funext u; rw [ap2, if_neg hq, q2 q hq], fun u hu => ?_⟩, fun self => ?_⟩
      · rw [ap2, if_pos rfl, q2 14 (by decide)]
        by_cases e : u = j
        · rw [if_pos e, e]
        · rw [if_neg e, q3 u (by omega)]
      · show (if (120 : Int32) ≤ nI j then _ else ck (ib (nI j) 120) (bn (s.2 14 (nI j).toNatClampNeg) fun x13 => ck (ib (nI j) 120) (bn (ap s 56 (nI j).toNatClampNeg x13) fun z14 => self ((nI j + 1), z14)))) = _
        rw [if_neg (lge 120 120 rfl hj (by omega)), ib_j (by omega) (by omega), ck_t, bn_def, ck_t, bn_def, nI_succ, nI_clamp (by omega)]
    · intro s ⟨q1, q2, q3⟩
      refine ⟨(s.1 1, s), ⟨by rw [q1], q1, q2, q3⟩, fun self => ?_⟩
      show (if (120 : Int32) ≤ nI 120 then _ else _) = _
      rw [if_pos (by decide)]
  unfold f_X8_image
  simp only [bn_def]
  generalize hz : sp (sp (sp (sp (sp (sp s 46 1) 47 _) 48 _) 49 _) 50 _) 51 _ = z
  have z1 : z.1 = (fun j => if j = 51 then s.1 1 else if j = 50 then s.1 22 else if j = 49 then s.1 17 else if j = 48 then s.1 16 else if j = 47 then s.1 15 else if j = 46 then 1 else s.1 j) := by
    subst hz
    funext j
    simp only [sp1]
    simp
  have z2 : z.2 = s.2 := by subst hz; rfl
  obtain ⟨r, ⟨r1, r2, r3, r4, r5⟩, he⟩ := lp_for (F := fun K8 (t7 : Int32 × MS) =>
    if 6 ≤ t7.1 then (
      lp (fun K11 (t10 : Int32 × MS) =>
        if 120 ≤ t10.1 then (
          some ((t10.2.1 1), t10.2))
        else (
          ck (ib t10.1 120) <| bn (t10.2.2 14 (Int32.toNatClampNeg t10.1)) fun x13 =>
          ck (ib t10.1 120) <| bn (ap t10.2 56 (Int32.toNatClampNeg t10.1) x13) fun z14 =>
          K11 ((t10.1 + 1), z14))) n (0, t7.2))
    else (
      ck (ib t7.1 6) <| bn (t7.2.2 2 (Int32.toNatClampNeg t7.1)) fun x15 =>
      ck (ib t7.1 6) <| bn (ap t7.2 52 (Int32.toNatClampNeg t7.1) x15) fun z16 =>
      ck (ib t7.1 6) <| bn (z16.2 3 (Int32.toNatClampNeg t7.1)) fun x17 =>
      ck (ib t7.1 6) <| bn (ap z16 53 (Int32.toNatClampNeg t7.1) x17) fun z18 =>
      ck (ib t7.1 6) <| bn (z18.2 4 (Int32.toNatClampNeg t7.1)) fun x19 =>
      ck (ib t7.1 6) <| bn (ap z18 54 (Int32.toNatClampNeg t7.1) x19) fun z20 =>
      ck (ib t7.1 6) <| bn (z20.2 5 (Int32.toNatClampNeg t7.1)) fun x21 =>
      ck (ib t7.1 6) <| bn (ap z20 55 (Int32.toNatClampNeg t7.1) x21) fun z22 =>
      K8 ((t7.1 + 1), z22))) 6 (by omega) (fun j x => x.1 = z.1 ∧ (∀ q, q ≠ 52 → q ≠ 53 → q ≠ 54 → q ≠ 55 → x.2 q = z.2 q) ∧ ∀ i, i < j → x.2 52 i = z.2 2 i ∧ x.2 53 i = z.2 3 i ∧ x.2 54 i = z.2 4 i ∧ x.2 55 i = z.2 5 i) (fun r : Int32 × MS => r.1 = z.1 1 ∧ r.2.1 = z.1 ∧ (∀ q, q ≠ 52 → q ≠ 53 → q ≠ 54 → q ≠ 55 → q ≠ 56 → r.2.2 q = z.2 q) ∧ (∀ i, i < 6 → r.2.2 52 i = z.2 2 i ∧ r.2.2 53 i = z.2 3 i ∧ r.2.2 54 i = z.2 4 i ∧ r.2.2 55 i = z.2 5 i) ∧ ∀ i, i < 120 → r.2.2 56 i = z.2 14 i) (by
      intro j x hj ⟨q1, q2, q3⟩
      refine Or.inl ⟨ap (ap (ap (ap x 52 j (x.2 2 j)) 53 j (x.2 3 j)) 54 j (x.2 4 j)) 55 j (x.2 5 j), ⟨by rw [ap1, ap1, ap1, ap1]; exact q1, fun q h2 h3 h4 h5 => ?_, fun i hi => ?_⟩, fun self => ?_⟩
      · funext u; rw [ap2, if_neg h5, ap2, if_neg h4, ap2, if_neg h3, ap2, if_neg h2, q2 q h2 h3 h4 h5]
      · simp only [ap2]
        have e2 := q2 2 (by decide) (by decide) (by decide) (by decide)
        have e3 := q2 3 (by decide) (by decide) (by decide) (by decide)
        have e4 := q2 4 (by decide) (by decide) (by decide) (by decide)
        have e5 := q2 5 (by decide) (by decide) (by decide) (by decide)
        by_cases e : i = j
        · subst e; simp [e2, e3, e4, e5]
        · have := q3 i (by omega); simpa [e] using this
      · show (if (6 : Int32) ≤ nI j then _ else ck (ib (nI j) 6) (bn (x.2 2 (nI j).toNatClampNeg) fun x15 => ck (ib (nI j) 6) (bn (ap x 52 (nI j).toNatClampNeg x15) fun z16 => ck (ib (nI j) 6) (bn (z16.2 3 (nI j).toNatClampNeg) fun x17 => ck (ib (nI j) 6) (bn (ap z16 53 (nI j).toNatClampNeg x17) fun z18 => ck (ib (nI j) 6) (bn (z18.2 4 (nI j).toNatClampNeg) fun x19 => ck (ib (nI j) 6) (bn (ap z18 54 (nI j).toNatClampNeg x19) fun z20 => ck (ib (nI j) 6) (bn (z20.2 5 (nI j).toNatClampNeg) fun x21 => ck (ib (nI j) 6) (bn (ap z20 55 (nI j).toNatClampNeg x21) fun z22 => self ((nI j + 1), z22)))))))))) = _
        rw [if_neg (lge 6 6 rfl hj (by omega)), ib_j (by omega) (by omega), nI_succ, nI_clamp (by omega)]
        simp only [ck_t, bn_def]
        rw [ap2, if_neg (by decide), ap2, if_neg (by decide), ap2, if_neg (by decide), ap2, if_neg (by decide), ap2, if_neg (by decide), ap2, if_neg (by decide)]) (by
      intro x ⟨q1, q2, q3⟩
      obtain ⟨r, ⟨r1, r2, r3, r4⟩, he⟩ := loop2 x
      refine ⟨r, ⟨by rw [r1, q1], r2.trans q1, fun q h2 h3 h4 h5 h6 => (r3 q h6).trans (q2 q h2 h3 h4 h5), fun i hi => ?_, fun i hi => ?_⟩, fun self => ?_⟩
      · rw [r3 52 (by decide), r3 53 (by decide), r3 54 (by decide), r3 55 (by decide)]; exact q3 i hi
      · rw [r4 i hi, q2 14 (by decide) (by decide) (by decide) (by decide)]
      · show (if (6 : Int32) ≤ nI 6 then _ else _) = _
        rw [if_pos (by decide)]
        exact he) n (by omega) z ⟨rfl, fun _ _ _ _ _ => rfl, fun i hi => absurd hi (Nat.not_lt_zero _)⟩
  refine ⟨r.2, he.trans ?_, r2.trans z1, ?_, ?_, ?_⟩
  · have : z.1 1 = s.1 1 := by rw [z1]; simp
    rw [← this, ← r1]
  · intro q h2 h3 h4 h5 h6; rw [r3 q h2 h3 h4 h5 h6, z2]
  · rw [← z2]; exact r4
  · rw [← z2]; exact r5
theorem overH_a (h k : MS) (j i : Nat) (hj : j = 1 ∨ j = 2 ∨ j = 3 ∨ j = 4) : (overH h k).2 j i = if i < (k.1 0).toNatClampNeg then k.2 j i else h.2 j i := if_pos hj
theorem overH_5 (h k : MS) (i : Nat) : (overH h k).2 5 i = if i < 120 then k.2 5 i else h.2 5 i := rfl
theorem mmax_r {x y : Int32} (h : x.toInt ≤ y.toInt) : mmax x y = y := by
  apply Int32.toInt_inj.mp
  rw [mmax_i]; omega
theorem mmax_l {x y : Int32} (h : y.toInt ≤ x.toInt) : mmax x y = x := by
  apply Int32.toInt_inj.mp
  rw [mmax_i]; omega
theorem op_image (t0 : MS) (nw n : Nat) (hn : 121 ≤ n) (c : CS) (s : MS) (hr : R t0 nw c s) : SIM t0 nw (f_X7_image n nw c) (f_X8_image n s) := by
  obtain ⟨rH, rK, rC, rW, rP, rT, rX, rS, rM⟩ := hr
  obtain ⟨s', h1, h2, h3, h4, h5⟩ := m_image n hn s
  have i0 := rH.2.1
  have e0 := rH.1
  unfold f_X7_image
  rw [c_over n c.2.2.1 c.2.1 (by rw [e0]; exact i0), cl_some, bn_def]
  have g : AG [1, 15, 16, 17, 22, 21, 6, 10, 20, 18] [2, 3, 4, 5, 14, 7, 8, 9, 11, 12, 13, 19, 23, 24, 25, 57, 58, 59, 35, 36] s s' := by
    refine ⟨fun k hk => ?_, fun k hk => ?_⟩
    · simp only [List.mem_cons, List.mem_nil_iff, or_false] at hk
      rw [h2]
      show (if k = 51 then _ else _) = _
      rw [if_neg (by omega), if_neg (by omega), if_neg (by omega), if_neg (by omega), if_neg (by omega), if_neg (by omega)]
    · simp only [List.mem_cons, List.mem_nil_iff, or_false] at hk
      exact h3 k (by omega) (by omega) (by omega) (by omega) (by omega)
  have q46 : s'.1 46 = 1 := by rw [h2]; rfl
  have q47 : s'.1 47 = s.1 15 := by rw [h2]; rfl
  have q48 : s'.1 48 = s.1 16 := by rw [h2]; rfl
  have q49 : s'.1 49 = s.1 17 := by rw [h2]; rfl
  have q50 : s'.1 50 = s.1 22 := by rw [h2]; rfl
  have q51 : s'.1 51 = s.1 1 := by rw [h2]; rfl
  have q21 : s'.1 21 = s.1 21 := by rw [h2]; rfl
  have k0 : (overH c.2.2.1 c.2.1).1 0 = s.1 1 := by
    show mmax (c.2.2.1.1 0) (c.2.1.1 0) = _
    rw [mmax_r rK.2.2.2.1, e0]
  obtain ⟨m1, m2⟩ := RMisc_ag rM (AG_sub g (ks' := [21, 18, 22]) (as' := [35, 36]) (by decide) (by decide))
  obtain ⟨w1, w2⟩ := RWays_ag rW (AG_sub g (ks' := [10]) (as' := [11, 12, 13]) (by decide) (by decide))
  refine ⟨c.2.1.1 0, _, s', rfl, by rw [h1, e0], RHill_ag rH (AG_sub g (by decide) (by decide)), ?_, RCars_ag rC (AG_sub g (by decide) (by decide)) trivial, ⟨by show (sp c.1 2 1).1 5 = _; rw [sp1, if_neg (by decide)]; exact w1, w2⟩, rP, RTape_ag rT (AG_sub g (by decide) (by decide)), RTexts_ag rX (AG_sub g (by decide) (by decide)), RSheets_ag rS (AG_sub g (by decide) (by decide)), ⟨by show (sp c.1 2 1).1 9 = _; rw [sp1, if_neg (by decide)]; exact m1, m2⟩⟩
  obtain ⟨-, -, ea, ba, es, e6, b6, e7, b7, e8, e9, b9⟩ := rH
  have kn : (overH c.2.2.1 c.2.1).1 0 = c.2.1.1 0 := by rw [k0, e0]
  refine ⟨by show (sp c.1 2 1).1 2 = _; rw [sp1, if_pos rfl, q46], Or.inr q46, by rw [k0]; exact i0, by rw [kn]; exact Int.le_refl _, fun _ => ⟨by rw [k0, q51], fun i hi => ?_, fun i hi => ?_, ?_, by rw [q47]; exact b6, ?_, by rw [q48]; exact b7, ?_, ?_, by rw [q50]; exact b9, by rw [q50, q21]; exact rM.2.2.2.1⟩⟩
  · rw [k0] at hi
    have hi6 : i < 6 := by have := i0.2; omega
    have hlt : i < (c.2.1.1 0).toNatClampNeg := by rw [e0]; have := nn_eq i0.1; omega
    obtain ⟨a1, a2, a3, a4⟩ := ea i hi6
    obtain ⟨b1, b2, b3, b4⟩ := ba i hi6
    obtain ⟨g1, g2, g3, g4⟩ := h4 i hi6
    have o1 : (overH c.2.2.1 c.2.1).2 1 i = c.2.1.2 1 i := by rw [overH_a _ _ 1 i (by omega), if_pos hlt]
    have o2 : (overH c.2.2.1 c.2.1).2 2 i = c.2.1.2 2 i := by rw [overH_a _ _ 2 i (by omega), if_pos hlt]
    have o3 : (overH c.2.2.1 c.2.1).2 3 i = c.2.1.2 3 i := by rw [overH_a _ _ 3 i (by omega), if_pos hlt]
    have o4 : (overH c.2.2.1 c.2.1).2 4 i = c.2.1.2 4 i := by rw [overH_a _ _ 4 i (by omega), if_pos hlt]
    rw [g1, g2, g3, g4]
    exact ⟨o1.trans a1, o2.trans a2, o3.trans a3, o4.trans a4, b1, b2, b4 hi, b3⟩
  · obtain ⟨a1, a2⟩ := es i hi
    rw [h5 i hi]
    refine ⟨?_, a2⟩
    rw [← a1]
    rw [overH_5, if_pos hi]
  · show c.2.1.1 6 = _; rw [q47]; exact e6
  · show c.2.1.1 7 = _; rw [q48]; exact e7
  · show _ ∨ (c.2.1.1 8 = _ ∧ _); rw [q48, q49]; exact e8
  · show c.2.1.1 9 = _; rw [q50]; exact e9
theorem m_back (n : Nat) (hn : 121 ≤ n) (s : MS) (h46 : ¬ s.1 46 = 0) (K : Nat) (hK : s.1 51 = nI K) (hK6 : K ≤ 6) : ∃ s', f_X8_back n s = some (s.1 1, s') ∧ s'.1 = (fun j => if j = 22 then s.1 50 else if j = 17 then s.1 49 else if j = 16 then s.1 48 else if j = 15 then s.1 47 else s.1 j) ∧ (∀ q, q ≠ 2 → q ≠ 3 → q ≠ 4 → q ≠ 5 → q ≠ 14 → s'.2 q = s.2 q) ∧ (∀ i, s'.2 2 i = (if i < K then s.2 52 i else s.2 2 i) ∧ s'.2 3 i = (if i < K then s.2 53 i else s.2 3 i) ∧ s'.2 4 i = (if i < K then s.2 54 i else s.2 4 i) ∧ s'.2 5 i = (if i < K then s.2 55 i else s.2 5 i)) ∧ ∀ i, i < 120 → s'.2 14 i = s.2 56 i := by
  unfold f_X8_back
  rw [if_neg h46]
  simp only [bn_def]
  generalize hz : sp (sp (sp (sp s 15 _) 16 _) 17 _) 22 _ = z
  have z1 : z.1 = (fun j => if j = 22 then s.1 50 else if j = 17 then s.1 49 else if j = 16 then s.1 48 else if j = 15 then s.1 47 else s.1 j) := by
    subst hz
    funext j
    simp only [sp1]
    simp
  have z2 : z.2 = s.2 := by subst hz; rfl
  have z51 : z.1 51 = nI K := by rw [z1]; exact hK
  have z11 : z.1 1 = s.1 1 := by rw [z1]; rfl
  obtain ⟨x, ⟨x1, x2, x3, x4⟩, hx⟩ := lp_to (F := fun (_ : Unit) K7 (t6 : Int32 × MS) =>
      if (t6.2.1 51) ≤ t6.1 then (
        lp (fun K10 (t9 : Int32 × MS) =>
          if 120 ≤ t9.1 then (
            some ((t9.2.1 1), t9.2))
          else (
            ck (ib t9.1 120) <| bn (t9.2.2 56 (Int32.toNatClampNeg t9.1)) fun x12 =>
            ck (ib t9.1 120) <| bn (ap t9.2 14 (Int32.toNatClampNeg t9.1) x12) fun z13 =>
            K10 ((t9.1 + 1), z13))) n (0, t6.2))
      else (
        ck (ib t6.1 6) <| bn (t6.2.2 52 (Int32.toNatClampNeg t6.1)) fun x14 =>
        ck (ib t6.1 6) <| bn (ap t6.2 2 (Int32.toNatClampNeg t6.1) x14) fun z15 =>
        ck (ib t6.1 6) <| bn (z15.2 53 (Int32.toNatClampNeg t6.1)) fun x16 =>
        ck (ib t6.1 6) <| bn (ap z15 3 (Int32.toNatClampNeg t6.1) x16) fun z17 =>
        ck (ib t6.1 6) <| bn (z17.2 54 (Int32.toNatClampNeg t6.1)) fun x18 =>
        ck (ib t6.1 6) <| bn (ap z17 4 (Int32.toNatClampNeg t6.1) x18) fun z19 =>
        ck (ib t6.1 6) <| bn (z19.2 55 (Int32.toNatClampNeg t6.1)) fun x20 =>
        ck (ib t6.1 6) <| bn (ap z19 5 (Int32.toNatClampNeg t6.1) x20) fun z21 =>
        K7 ((t6.1 + 1), z21))) K (fun j x => x.1 = nI j ∧ x.2.1 = z.1 ∧ (∀ q, q ≠ 2 → q ≠ 3 → q ≠ 4 → q ≠ 5 → x.2.2 q = z.2 q) ∧ (∀ i, x.2.2 2 i = (if i < j then z.2 52 i else z.2 2 i) ∧ x.2.2 3 i = (if i < j then z.2 53 i else z.2 3 i) ∧ x.2.2 4 i = (if i < j then z.2 54 i else z.2 4 i) ∧ x.2.2 5 i = (if i < j then z.2 55 i else z.2 5 i))) (fun _ x => lp (fun K10 (t9 : Int32 × MS) =>
          if 120 ≤ t9.1 then (
            some ((t9.2.1 1), t9.2))
          else (
            ck (ib t9.1 120) <| bn (t9.2.2 56 (Int32.toNatClampNeg t9.1)) fun x12 =>
            ck (ib t9.1 120) <| bn (ap t9.2 14 (Int32.toNatClampNeg t9.1) x12) fun z13 =>
            K10 ((t9.1 + 1), z13))) n (0, x.2)) (by
      rintro j ⟨t, x⟩ hj ⟨rfl, q1, q2, q3⟩
      refine ⟨(nI (j + 1), ap (ap (ap (ap x 2 j (x.2 52 j)) 3 j (x.2 53 j)) 4 j (x.2 54 j)) 5 j (x.2 55 j)), ⟨rfl, by show (ap _ _ _ _).1 = _; rw [ap1, ap1, ap1, ap1]; exact q1, fun q h2 h3 h4 h5 => ?_, fun i => ?_⟩, fun _ self => ?_⟩
      · show (ap _ _ _ _).2 q = _
        funext u; rw [ap2, if_neg h5, ap2, if_neg h4, ap2, if_neg h3, ap2, if_neg h2]; exact congrFun (q2 q h2 h3 h4 h5) u
      · have e2 : x.2 52 = z.2 52 := q2 52 (by decide) (by decide) (by decide) (by decide)
        have e3 : x.2 53 = z.2 53 := q2 53 (by decide) (by decide) (by decide) (by decide)
        have e4 : x.2 54 = z.2 54 := q2 54 (by decide) (by decide) (by decide) (by decide)
        have e5 : x.2 55 = z.2 55 := q2 55 (by decide) (by decide) (by decide) (by decide)
        obtain ⟨p1, p2, p3, p4⟩ := q3 i
        have p1 : x.2 2 i = (if i < j then z.2 52 i else z.2 2 i) := p1
        have p2 : x.2 3 i = (if i < j then z.2 53 i else z.2 3 i) := p2
        have p3 : x.2 4 i = (if i < j then z.2 54 i else z.2 4 i) := p3
        have p4 : x.2 5 i = (if i < j then z.2 55 i else z.2 5 i) := p4
        simp only [ap2, e2, e3, e4, e5]
        by_cases e : i = j
        · subst e; simp
        · have : (i < j + 1) = (i < j) := propext ⟨fun _ => by omega, fun _ => by omega⟩
          simp [e, p1, p2, p3, p4, this]
      · show (if x.1 51 ≤ nI j then _ else ck (ib (nI j) 6) (bn (x.2 52 (nI j).toNatClampNeg) fun x14 => ck (ib (nI j) 6) (bn (ap x 2 (nI j).toNatClampNeg x14) fun z15 => ck (ib (nI j) 6) (bn (z15.2 53 (nI j).toNatClampNeg) fun x16 => ck (ib (nI j) 6) (bn (ap z15 3 (nI j).toNatClampNeg x16) fun z17 => ck (ib (nI j) 6) (bn (z17.2 54 (nI j).toNatClampNeg) fun x18 => ck (ib (nI j) 6) (bn (ap z17 4 (nI j).toNatClampNeg x18) fun z19 => ck (ib (nI j) 6) (bn (z19.2 55 (nI j).toNatClampNeg) fun x20 => ck (ib (nI j) 6) (bn (ap z19 5 (nI j).toNatClampNeg x20) fun z21 => self ((nI j + 1), z21)))))))))) = _
        have q1' : x.1 = z.1 := q1
        rw [q1', z51, if_neg (nI_ge hj (by omega)), ib_j (by omega) (by omega), nI_succ, nI_clamp (by omega)]
        simp only [ck_t, bn_def]
        rw [ap2, if_neg (by decide), ap2, if_neg (by decide), ap2, if_neg (by decide), ap2, if_neg (by decide), ap2, if_neg (by decide), ap2, if_neg (by decide)]) (by
      rintro ⟨t, x⟩ ⟨rfl, q1, -⟩ _ self
      have q1 : x.1 = z.1 := q1
      show (if x.1 51 ≤ nI K then _ else _) = _
      rw [q1, z51, if_pos (Int32.le_refl _)]) n (by omega) (0, z) ⟨rfl, rfl, fun _ _ _ _ _ => rfl, fun i => ⟨(if_neg (Nat.not_lt_zero _)).symm, (if_neg (Nat.not_lt_zero _)).symm, (if_neg (Nat.not_lt_zero _)).symm, (if_neg (Nat.not_lt_zero _)).symm⟩⟩
  obtain ⟨y, ⟨y1, y2, y3, y4⟩, hy⟩ := lp_to (F := fun (_ : Unit) K10 (t9 : Int32 × MS) =>
          if 120 ≤ t9.1 then (
            some ((t9.2.1 1), t9.2))
          else (
            ck (ib t9.1 120) <| bn (t9.2.2 56 (Int32.toNatClampNeg t9.1)) fun x12 =>
            ck (ib t9.1 120) <| bn (ap t9.2 14 (Int32.toNatClampNeg t9.1) x12) fun z13 =>
            K10 ((t9.1 + 1), z13))) 120 (fun j y => y.1 = nI j ∧ y.2.1 = x.2.1 ∧ (∀ q, q ≠ 14 → y.2.2 q = x.2.2 q) ∧ ∀ i, i < j → y.2.2 14 i = x.2.2 56 i) (fun _ y => some ((y.2.1 1), y.2)) (by
      rintro j ⟨t, y⟩ hj ⟨rfl, q1, q2, q3⟩
      have q1 : y.1 = x.2.1 := q1
      have q2 : ∀ q, q ≠ 14 → y.2 q = x.2.2 q := q2
      have q3 : ∀ i, i < j → y.2 14 i = x.2.2 56 i := q3
      refine ⟨(nI (j + 1), ap y 14 j (y.2 56 j)), ⟨rfl, by show (ap _ _ _ _).1 = _; rw [ap1]; exact q1, fun q hq => ?_, fun u hu => ?_⟩, fun _ self => ?_⟩
      · show (ap _ _ _ _).2 q = _
        funext u; rw [ap2, if_neg hq, q2 q hq]
      · show (ap _ _ _ _).2 14 u = _
        rw [ap2, if_pos rfl, q2 56 (by decide)]
        by_cases e : u = j
        · rw [if_pos e, e]
        · rw [if_neg e, q3 u (by omega)]
      · show (if (120 : Int32) ≤ nI j then _ else ck (ib (nI j) 120) (bn (y.2 56 (nI j).toNatClampNeg) fun x13 => ck (ib (nI j) 120) (bn (ap y 14 (nI j).toNatClampNeg x13) fun z14 => self ((nI j + 1), z14)))) = _
        rw [if_neg (lge 120 120 rfl hj (by omega)), ib_j (by omega) (by omega), ck_t, bn_def, ck_t, bn_def, nI_succ, nI_clamp (by omega)]) (by
      rintro ⟨t, y⟩ ⟨rfl, -⟩ _ self
      show (if (120 : Int32) ≤ nI 120 then _ else _) = _
      rw [if_pos (by decide)]) n (by omega) (0, x.2) ⟨rfl, rfl, fun _ _ => rfl, fun u hu => absurd hu (Nat.not_lt_zero _)⟩
  refine ⟨y.2, (hx ()).trans ((hy ()).trans (by rw [y2, x2, z11])), by rw [y2, x2, z1], fun q h2 h3 h4 h5 h6 => by rw [y3 q h6, x3 q h2 h3 h4 h5, z2], fun i => ?_, fun i hi => ?_⟩
  · obtain ⟨p1, p2, p3, p4⟩ := x4 i
    rw [y3 2 (by decide), y3 3 (by decide), y3 4 (by decide), y3 5 (by decide), p1, p2, p3, p4, z2]
    exact ⟨rfl, rfl, rfl, rfl⟩
  · rw [y4 i hi, x3 56 (by decide) (by decide) (by decide) (by decide), z2]
theorem op_back (t0 : MS) (nw n : Nat) (hn : 121 ≤ n) (c : CS) (s : MS) (hr : R t0 nw c s) : SIM t0 nw (f_X7_back n nw c) (f_X8_back n s) := by
  have hr0 := hr
  obtain ⟨rH, rK, rC, rW, rP, rT, rX, rS, rM⟩ := hr
  obtain ⟨a1, a2, a3, a4, a5⟩ := rK
  unfold f_X7_back
  by_cases h46 : s.1 46 = 0
  · unfold f_X8_back
    rw [a1, if_pos h46, if_pos h46]
    exact ⟨_, _, _, rfl, rfl, hr0⟩
  have h1 : s.1 46 = 1 := a2.resolve_left h46
  obtain ⟨b1, b2, b3, b4, b5, b6, b7, b8, b9, b10, b11⟩ := a5 h1
  rw [a1, if_neg h46, c_over n c.2.1 c.2.2.1 a3, cl_some]
  obtain ⟨k1, k2, k3⟩ := IR_nat (hi := 6) a3 (by omega)
  obtain ⟨s', h1, h2, h3, h4, h5⟩ := m_back n hn s h46 (c.2.2.1.1 0).toNatClampNeg (by rw [← b1]; exact k1) k2
  have g : AG [1, 46, 47, 48, 49, 50, 51, 21, 6, 10, 20, 18] [52, 53, 54, 55, 56, 7, 8, 9, 11, 12, 13, 19, 23, 24, 25, 57, 58, 59, 35, 36] s s' := by
    refine ⟨fun k hk => ?_, fun k hk => ?_⟩
    · simp only [List.mem_cons, List.mem_nil_iff, or_false] at hk
      rw [h2]
      show (if k = 22 then _ else _) = _
      rw [if_neg (by omega), if_neg (by omega), if_neg (by omega), if_neg (by omega)]
    · simp only [List.mem_cons, List.mem_nil_iff, or_false] at hk
      exact h3 k (by omega) (by omega) (by omega) (by omega) (by omega)
  have q15 : s'.1 15 = s.1 47 := by rw [h2]; rfl
  have q16 : s'.1 16 = s.1 48 := by rw [h2]; rfl
  have q17 : s'.1 17 = s.1 49 := by rw [h2]; rfl
  have q22 : s'.1 22 = s.1 50 := by rw [h2]; rfl
  have q1 : s'.1 1 = s.1 1 := by rw [h2]; rfl
  have q21 : s'.1 21 = s.1 21 := by rw [h2]; rfl
  obtain ⟨e0, i0, ea, ba, es, e6, c6, e7, c7, e8, e9, c9⟩ := rH
  have k0 : (overH c.2.1 c.2.2.1).1 0 = s.1 1 := by
    show mmax (c.2.1.1 0) (c.2.2.1.1 0) = _
    rw [mmax_l a4, e0]
  refine ⟨(overH c.2.1 c.2.2.1).1 0, _, s', rfl, by rw [h1, k0], R_hill hr0 ?_ (by rw [k0, e0]; exact Int.le_refl _) (by rw [q22, q21]; exact b11) (AG_sub g (by decide) (by decide))⟩
  have o1 : ∀ j, j = 1 ∨ j = 2 ∨ j = 3 ∨ j = 4 → ∀ i, (overH c.2.1 c.2.2.1).2 j i = if i < (c.2.2.1.1 0).toNatClampNeg then c.2.2.1.2 j i else c.2.1.2 j i := by
    intro j hj i
    exact overH_a _ _ j i hj
  refine ⟨by rw [k0, q1], by rw [q1]; exact i0, fun i hi => ?_, fun i hi => ?_, fun i hi => ?_, ?_, by rw [q15]; exact b5, ?_, by rw [q16]; exact b7, ?_, ?_, by rw [q22]; exact b10⟩
  · obtain ⟨p1, p2, p3, p4⟩ := h4 i
    obtain ⟨r1, r2, r3, r4⟩ := ea i hi
    rw [p1, p2, p3, p4, o1 1 (by omega), o1 2 (by omega), o1 3 (by omega), o1 4 (by omega)]
    by_cases e : i < (c.2.2.1.1 0).toNatClampNeg
    · obtain ⟨t1, t2, t3, t4, -⟩ := b2 i (by omega)
      simp only [if_pos e]
      exact ⟨t1, t2, t3, t4⟩
    · simp only [if_neg e]
      exact ⟨r1, r2, r3, r4⟩
  · obtain ⟨p1, p2, p3, p4⟩ := h4 i
    obtain ⟨r1, r2, r3, r4⟩ := ba i hi
    rw [p1, p2, p3, p4, q1]
    by_cases e : i < (c.2.2.1.1 0).toNatClampNeg
    · obtain ⟨-, -, -, -, t1, t2, t3, t4⟩ := b2 i (by omega)
      simp only [if_pos e]
      exact ⟨t1, t2, t4, fun _ => t3⟩
    · simp only [if_neg e]
      exact ⟨r1, r2, r3, r4⟩
  · obtain ⟨t1, t2⟩ := b3 i hi
    rw [h5 i hi]
    refine ⟨?_, t2⟩
    rw [← t1]
    rw [overH_5, if_pos hi]
  · show c.2.2.1.1 6 = _; rw [q15]; exact b4
  · show c.2.2.1.1 7 = _; rw [q16]; exact b6
  · show _ ∨ (c.2.2.1.1 8 = _ ∧ _); rw [q16, q17]; exact b8
  · show c.2.2.1.1 9 = _; rw [q22]; exact b9
