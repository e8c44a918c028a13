-- OPS: sorts
/-- two loops that keep step -/
theorem lp_two {X Y ρ σ : Type} {F : (X → Option ρ) → X → Option ρ} {G : (Y → Option σ) → Y → Option σ} (I : X → Y → Prop) (μ : X → Nat) (Post : ρ → σ → Prop) (h : ∀ x y, I x y → (∃ x' y', I x' y' ∧ μ x' < μ x ∧ (∀ self, F self x = self x') ∧ ∀ self, G self y = self y') ∨ (∃ r q, Post r q ∧ (∀ self, F self x = some r) ∧ ∀ self, G self y = some q)) : ∀ (n m : Nat) (x : X) (y : Y), I x y → μ x < n → μ x < m → ∃ r q, Post r q ∧ lp F n x = some r ∧ lp G m y = some q := by
  intro n
  induction n with
  | zero => intro m x y _ h _; omega
  | succ n ih =>
    intro m x y hx h1 h2
    cases m with
    | zero => omega
    | succ m =>
      rcases h x y hx with ⟨x', y', hx', hlt, e1, e2⟩ | ⟨r, q, hp, e1, e2⟩
      · obtain ⟨r, q, hp, f1, f2⟩ := ih m x' y' hx' (by omega) (by omega)
        exact ⟨r, q, hp, by show F (lp F n) x = some r; rw [e1]; exact f1, by show G (lp G m) y = some q; rw [e2]; exact f2⟩
      · exact ⟨r, q, hp, by show F (lp F n) x = some r; exact e1 _, by show G (lp G m) y = some q; exact e2 _⟩
theorem sim_lp {X Y α : Type} {t0 : MS} {nw : Nat} {F : (X → Option (α × CS)) → X → Option (α × CS)} {G : (Y → Option (α × MS)) → Y → Option (α × MS)} (I : X → Y → Prop) (μ : X → Nat) (h : ∀ x y, I x y → (∃ x' y', I x' y' ∧ μ x' < μ x ∧ (∀ self, F self x = self x') ∧ ∀ self, G self y = self y') ∨ (∃ r q, (r.1 = q.1 ∧ R t0 nw r.2 q.2) ∧ (∀ self, F self x = some r) ∧ ∀ self, G self y = some q)) (n m : Nat) (x : X) (y : Y) (h0 : I x y) (h1 : μ x < n) (h2 : μ x < m) : SIM t0 nw (lp F n x) (lp G m y) := by
  obtain ⟨r, q, ⟨hrq, hR⟩, e1, e2⟩ := lp_two I μ (fun (r : α × CS) (q : α × MS) => r.1 = q.1 ∧ R t0 nw r.2 q.2) h n m x y h0 h1 h2
  exact ⟨r.1, r.2, q.2, e1, by rw [hrq]; exact e2, hR⟩
theorem has_eq (n : Nat) (a : Int32) (T : MS) (hz : IR (T.1 1) 0 40) : f_X3_has n a T = some (bo (0 ≤ a.toInt ∧ a.toInt < (T.1 1).toInt)) := by
  have z0 : (0 : Int32).toInt = 0 := by decide
  have z1 : (1 : Int32).toInt = 1 := by decide
  obtain ⟨b1, b2⟩ := hz
  unfold f_X3_has
  rw [btw, cl_some, isz_bo, ck_t]
  have e : (0 ≤ a ∧ a ≤ T.1 1 - 1) = (0 ≤ a.toInt ∧ a.toInt < (T.1 1).toInt) := by
    rw [le_i, le_i, z0, sub_i _ _ (by rw [z1]; omega), z1]
    apply propext
    constructor <;> rintro ⟨x, y⟩ <;> exact ⟨x, by omega⟩
  unfold bo
  simp only [e]
/-- a sort added: both answer alike -/
theorem add_both (t0 : MS) (nw n : Nat) (a b : Int32) (c : CS) (s : MS) (hr : R t0 nw c s) : ∃ (r : Int32) (h' s' : MS), f_X2_addSort n a b c.2.1 = some (r, h') ∧ f_X8_people n a b s = some (r, s') ∧ R t0 nw (c.1, h', c.2.2) s' := by
  obtain ⟨r, c', s', e1, e2, hr'⟩ := op_people t0 nw n a b c s hr
  unfold f_X7_people at e1
  cases hq : f_X2_addSort n a b c.2.1 with
  | none => rw [hq] at e1; cases e1
  | some q =>
    rw [hq, cl_some] at e1
    have e3 := Option.some.inj e1
    have e4 : q.1 = r := (Prod.mk.inj e3).1
    have e5 := (Prod.mk.inj e3).2
    refine ⟨r, q.2, s', by rw [← e4], e2, ?_⟩
    rw [← e5] at hr'
    exact hr'
theorem op_sorts (t0 : MS) (nw n : Nat) (hn : 41 ≤ n) (a1 a2 a3 a4 : Int32) (c : CS) (s : MS) (hr : R t0 nw c s) : SIM t0 nw (f_X7_sorts n nw a1 a2 a3 a4 c) (f_X8_sorts n a1 a2 a3 a4 s) := by
  have hr0 := hr
  obtain ⟨rH, rK, rC, rW, rP, rT, rX, rS, rM⟩ := hr
  have z0 : (0 : Int32).toInt = 0 := by decide
  have z1 : (1 : Int32).toInt = 1 := by decide
  have z2 : (2 : Int32).toInt = 2 := by decide
  have z8 : (8 : Int32).toInt = 8 := by decide
  unfold f_X7_sorts f_X8_sorts
  rw [c_she, m_she, cl_some, cl_some]
  simp only [bo_0, btw, m_in, cl_some]
  by_cases h1 : 0 ≤ a1 ∧ a1 ≤ 3
  case neg => simp only [ite_not_f h1]; exact ⟨_, _, _, rfl, rfl, hr0⟩
  by_cases h2 : 0 ≤ a2 ∧ a2 ≤ 2
  case neg => simp only [ite_not_t h1, ite_not_f h2]; exact ⟨_, _, _, rfl, rfl, hr0⟩
  by_cases h4 : 0 ≤ a4 ∧ a4 ≤ 8
  case neg => simp only [ite_not_t h1, ite_not_t h2, ite_not_f h4]; exact ⟨_, _, _, rfl, rfl, hr0⟩
  obtain ⟨i14, hi1, hai1⟩ := she_i h1
  obtain ⟨q1, q2, q3⟩ := rS _ hi1
  simp only [ite_not_t h1, ite_not_t h2, ite_not_t h4, i14, ck_t, jn_def]
  rw [q1]
  simp only [bn_def]
  rcases kind_pos q2 with ⟨k1, k2, k3⟩ | ⟨k1, k2, k3⟩
  · simp only [if_pos k1, if_pos k3, if_neg k2]; exact ⟨_, _, _, rfl, rfl, hr0⟩
  simp only [if_neg k1, if_neg k3, if_pos k2]
  by_cases he : s.2 57 a1.toNatClampNeg = a2
  case neg => simp only [if_neg he]; exact ⟨_, _, _, rfl, rfl, hr0⟩
  simp only [if_pos he]
  rw [le_i, le_i, z0, z8] at h4
  obtain ⟨f1, f2, f3⟩ := IR_nat (x := a4) (hi := 8) h4 (by omega)
  refine sim_lp (fun (x : Int32 × Int32 × CS) (y : Int32 × Int32 × MS) => x.1 = y.1 ∧ ∃ j, j ≤ a4.toNatClampNeg ∧ x.2.1 = nI j ∧ y.2.1 = nI j ∧ R t0 nw x.2.2 y.2.2 ∧ y.2.2.2 57 a1.toNatClampNeg = a2) (fun x => 8 - x.2.1.toNatClampNeg) ?_ n n _ _ ⟨rfl, 0, Nat.zero_le _, rfl, rfl, hr0, he⟩ (by show 8 - _ < n; omega) (by show 8 - _ < n; omega)
  · skip
    rintro ⟨x1, x2, c'⟩ ⟨y1, y2, s'⟩ hI
    obtain ⟨e1, j, hj, e2, e3, hr', hk'⟩ : x1 = y1 ∧ ∃ j, j ≤ a4.toNatClampNeg ∧ x2 = nI j ∧ y2 = nI j ∧ R t0 nw c' s' ∧ s'.2 57 a1.toNatClampNeg = a2 := hI
    subst e1 e2 e3
    show (∃ x' y', _) ∨ _
    by_cases hjk : j = a4.toNatClampNeg
    · refine Or.inr ⟨(x1, c'), (x1, s'), ⟨rfl, hr'⟩, fun self => ?_, fun self => ?_⟩
      · show (if a4 ≤ nI j then _ else _) = _
        rw [if_pos (by rw [f1, hjk]; exact Int32.le_refl _)]
      · show (if a4 ≤ nI j then _ else _) = _
        rw [if_pos (by rw [f1, hjk]; exact Int32.le_refl _)]
    have hlt : ¬ a4 ≤ nI j := by rw [f1]; exact nI_ge (by omega) (by omega)
    have hjt : (nI j).toInt = (j : Int) := nI_toInt (by omega)
    have h2j : ((2 : Int32) * nI j).toInt = 2 * (j : Int) := by rw [mul_i _ _ (by rw [z2, hjt]; omega), z2, hjt]
    obtain ⟨u1, u2, u3⟩ := hr'.2.2.2.2.2.2.2.1 _ hi1
    rcases u3 with u3 | ⟨b1, b2, b3⟩
    · exact absurd (he.trans (hk'.symm.trans u3)) k1
    have ra := rng a3
    have hX : (a3.toInt64 + ((2 : Int32) * nI j).toInt64).toInt = a3.toInt + 2 * (j : Int) := by rw [add_l, h2j]
    have hX1 : (a3.toInt64 + ((2 : Int32) * nI j).toInt64 + 1).toInt = a3.toInt + 2 * (j : Int) + 1 := by
      rw [Int64.toInt_add, hX, show (1 : Int64).toInt = 1 by decide]
      unfold Int.bmod
      simp only [Int.reducePow] at ra ⊢
      split <;> omega
    have hz64 : (0 : Int64).toInt = 0 := by decide
    have b2' := b2.2
    have b2'' := b2.1
    -- the class's place
    have hC : (a3 + (2 : Int32) * nI j).toInt = a3.toInt + 2 * (j : Int) ∨ (2 ^ 31 ≤ a3.toInt + 2 * (j : Int) ∧ (a3 + (2 : Int32) * nI j).toInt < 0) := by
      rw [Int32.toInt_add, h2j]
      unfold Int.bmod
      simp only [Int.reducePow] at ra ⊢
      split <;> omega
    by_cases g1 : a3.toInt + 2 * (j : Int) < 0
    · refine Or.inr ⟨(-12, c'), (-12, s'), ⟨rfl, hr'⟩, fun self => ?_, fun self => ?_⟩
      · show (if a4 ≤ nI j then _ else bn (a3 + 2 * nI j) fun x13 => cl (f_X3_has n x13 (c'.2.2.2.2.2.2.2.2.1 a1.toNatClampNeg)) fun q14 => if q14 = 0 then _ else _) = _
        rw [if_neg hlt, bn_def, has_eq n _ _ (by rw [b1]; exact b2), cl_some]
        simp only [bo_0]
        rw [ite_not_f (by omega)]
      · show (if a4 ≤ nI j then _ else bn (a3.toInt64 + ((2 : Int32) * nI j).toInt64) fun x15 => if lg_cmp x15 0 < 0 then _ else _) = _
        rw [if_neg hlt, bn_def]
        simp only [cmp_lt]
        rw [if_pos (by rw [hX, hz64]; exact g1)]
    by_cases g2 : a3.toInt + 2 * (j : Int) + 1 < (s'.2 58 a1.toNatClampNeg).toInt
    case neg =>
      refine Or.inr ⟨(-12, c'), (-12, s'), ⟨rfl, hr'⟩, fun self => ?_, fun self => ?_⟩
      · show (if a4 ≤ nI j then _ else bn (a3 + 2 * nI j) fun x13 => cl (f_X3_has n x13 (c'.2.2.2.2.2.2.2.2.1 a1.toNatClampNeg)) fun q14 => if q14 = 0 then _ else cl (f_X3_has n (x13 + 1) (c'.2.2.2.2.2.2.2.2.1 a1.toNatClampNeg)) fun q16 => if q16 = 0 then _ else _) = _
        rw [if_neg hlt, bn_def, has_eq n _ _ (by rw [b1]; exact b2), cl_some]
        simp only [bo_0, b1]
        by_cases g3 : 0 ≤ (a3 + 2 * nI j).toInt ∧ (a3 + 2 * nI j).toInt < (s'.2 58 a1.toNatClampNeg).toInt
        · have g4 := add_i (a3 + 2 * nI j) 1 (by rw [z1]; omega)
          rw [ite_not_t g3, has_eq n _ _ (by rw [b1]; exact b2), cl_some]
          simp only [bo_0, b1]
          rw [ite_not_f (by rw [g4, z1]; omega)]
        · rw [ite_not_f g3]
      · show (if a4 ≤ nI j then _ else bn (a3.toInt64 + ((2 : Int32) * nI j).toInt64) fun x15 => if lg_cmp x15 0 < 0 then _ else (bn (s'.2 58 a1.toNatClampNeg) fun x17 => if lg_cmp (x15 + 1) x17.toInt64 < 0 then _ else _)) = _
        rw [if_neg hlt, bn_def]
        simp only [cmp_lt]
        rw [if_neg (by rw [hX, hz64]; exact g1), bn_def, if_neg (by rw [hX1, Int32.toInt_toInt64]; exact g2)]
    -- both in
    have hP : (a3 + (2 : Int32) * nI j).toInt = a3.toInt + 2 * (j : Int) := by omega
    have hP1 := add_i (a3 + 2 * nI j) 1 (by rw [z1]; omega)
    rw [z1, hP] at hP1
    have c1 := nn_eq (x := a3 + 2 * nI j) (by omega)
    have c2 := nn_eq (x := a3 + 2 * nI j + 1) (by omega)
    have hto : Int64.toInt32 (a3.toInt64 + ((2 : Int32) * nI j).toInt64) = a3 + 2 * nI j := by
      apply Int32.toInt_inj.mp
      rw [Int64.toInt_toInt32, hX, hP]
      unfold Int.bmod
      simp only [Int.reducePow] at ra ⊢
      split <;> omega
    obtain ⟨p1, p2⟩ := at40 (a := a1) (b := a3 + 2 * nI j) hai1 hi1 (by omega) (by omega)
    obtain ⟨p3, p4⟩ := at40b (a := a1) (b := a3 + 2 * nI j) (t := 1) hai1 hi1 (by omega) (by omega) (by omega)
    have p5 : (1 : Int32).toNatClampNeg = 1 := by decide
    have i1' : ib (a3 + 2 * nI j) 40 = true := ib_of (by omega) (by omega)
    have i2' : ib (a3 + 2 * nI j + 1) 40 = true := ib_of (by omega) (by omega)
    obtain ⟨r, h', s2, w1, w2, w3⟩ := add_both t0 nw n (s'.2 59 (40 * a1.toNatClampNeg + (a3 + 2 * nI j).toNatClampNeg)) (s'.2 59 (40 * a1.toNatClampNeg + (a3 + 2 * nI j).toNatClampNeg + 1)) c' s' hr'
    have hk2 : s2.2 57 a1.toNatClampNeg = a2 := by
      have := (w3.2.2.2.2.2.2.2.1 _ hi1).1
      rw [← this]
      exact u1.trans hk'
    have v1 : (c'.2.2.2.2.2.2.2.2.1 a1.toNatClampNeg).2 2 (a3 + 2 * nI j).toNatClampNeg = s'.2 59 (40 * a1.toNatClampNeg + (a3 + 2 * nI j).toNatClampNeg) := b3 _ (by omega)
    have v2 : (c'.2.2.2.2.2.2.2.2.1 a1.toNatClampNeg).2 2 (a3 + 2 * nI j + 1).toNatClampNeg = s'.2 59 (40 * a1.toNatClampNeg + (a3 + 2 * nI j).toNatClampNeg + 1) := by
      have e6 : 40 * a1.toNatClampNeg + (a3 + 2 * nI j + 1).toNatClampNeg = 40 * a1.toNatClampNeg + (a3 + 2 * nI j).toNatClampNeg + 1 := by omega
      rw [b3 _ (by omega), e6]
    refine Or.inl ⟨((if r < 0 then x1 else x1 + 1), nI (j + 1), (c'.1, h', c'.2.2)), ((if r < 0 then x1 else x1 + 1), nI (j + 1), s2), ⟨rfl, j + 1, by omega, rfl, rfl, w3, hk2⟩, ?_, fun self => ?_, fun self => ?_⟩
    · show 8 - (nI (j + 1)).toNatClampNeg < 8 - (nI j).toNatClampNeg
      rw [nI_clamp (by omega), nI_clamp (by omega)]; omega
    · show (if a4 ≤ nI j then _ else bn (a3 + 2 * nI j) fun x13 => cl (f_X3_has n x13 (c'.2.2.2.2.2.2.2.2.1 a1.toNatClampNeg)) fun q14 => if q14 = 0 then _ else cl (f_X3_has n (x13 + 1) (c'.2.2.2.2.2.2.2.2.1 a1.toNatClampNeg)) fun q16 => if q16 = 0 then _ else
          ck (ib x13 40) (bn ((c'.2.2.2.2.2.2.2.2.1 a1.toNatClampNeg).2 2 x13.toNatClampNeg) fun x18 => ck (ib (x13 + 1) 40) (bn ((c'.2.2.2.2.2.2.2.2.1 a1.toNatClampNeg).2 2 (x13 + 1).toNatClampNeg) fun x19 => cl (f_X2_addSort n x18 x19 c'.2.1) fun q20 => jn (fun (t21 : Int32) => self (t21, (nI j + 1), c'.1, q20.2, c'.2.2)) fun K22 => if q20.1 < 0 then K22 x1 else K22 (x1 + 1)))) = _
      rw [if_neg hlt, bn_def, has_eq n _ _ (by rw [b1]; exact b2), cl_some]
      simp only [bo_0, b1]
      rw [ite_not_t (by omega), has_eq n _ _ (by rw [b1]; exact b2), cl_some]
      simp only [bo_0, b1]
      rw [ite_not_t (by omega), i1', i2', ck_t, bn_def, ck_t, bn_def, v1, v2, w1, cl_some, jn_def, nI_succ]
      by_cases hq : r < 0
      · simp only [if_pos hq]
      · simp only [if_neg hq]
    · show (if a4 ≤ nI j then _ else bn (a3.toInt64 + ((2 : Int32) * nI j).toInt64) fun x15 => if lg_cmp x15 0 < 0 then _ else (bn (s'.2 58 a1.toNatClampNeg) fun x17 => if lg_cmp (x15 + 1) x17.toInt64 < 0 then
          bn ((40 * a1) + Int64.toInt32 x15) fun x19 => ck (ib x19 160) (bn (s'.2 59 x19.toNatClampNeg) fun x20 => ck (ib (x19 + 1) 160) (bn (s'.2 59 (x19 + 1).toNatClampNeg) fun x21 => cl (f_X8_people n x20 x21 s') fun q22 => jn (fun (t23 : Int32) => self (t23, (nI j + 1), q22.2)) fun K24 => if q22.1 < 0 then K24 x1 else K24 (x1 + 1))) else _)) = _
      rw [if_neg hlt, bn_def]
      simp only [cmp_lt]
      rw [if_neg (by rw [hX, hz64]; exact g1), bn_def, if_pos (by rw [hX1, Int32.toInt_toInt64]; exact g2), bn_def, hto, p1, ck_t, bn_def, p3, ck_t, bn_def, p2, p4, p5, w2, cl_some, jn_def, nI_succ]
      by_cases hq : r < 0
      · simp only [if_pos hq]
      · simp only [if_neg hq]
