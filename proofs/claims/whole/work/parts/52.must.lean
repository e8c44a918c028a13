-- LOOPS that run to their end; sums; OPS: must, latestUp
theorem lp_st {X ρ : Type} {F : (X → Option ρ) → X → Option ρ} (k : Nat) (st : Nat → X) {out : Option ρ} (step : ∀ j, j < k → ∀ self, F self (st j) = self (st (j + 1))) (stop : ∀ self, F self (st k) = out) (n : Nat) (hn : k < n) {x0 : X} (hx : x0 = st 0) : lp F n x0 = out := by
  rw [hx]; exact lp_fn k st out step stop n hn
theorem sumI_s (f : Nat → Int32) (k : Nat) : sumI f (k + 1) = sumI f k + f k := rfl
theorem sumI_0 (f : Nat → Int32) : sumI f 0 = 0 := rfl
theorem sumI_add (f g : Nat → Int32) : ∀ k, sumI (fun i => f i + g i) k = sumI f k + sumI g k
  | 0 => rfl
  | k + 1 => by
    rw [sumI_s, sumI_s, sumI_s, sumI_add f g k]
    ac_rfl
theorem sumI_z : ∀ k, sumI (fun _ => 0) k = 0
  | 0 => rfl
  | k + 1 => by rw [sumI_s, sumI_z k]; rfl
theorem sumI_swap (f : Nat → Nat → Int32) (b : Nat) : ∀ a, sumI (fun i => sumI (f i) b) a = sumI (fun j => sumI (fun i => f i j) a) b
  | 0 => (sumI_z b).symm
  | a + 1 => by
    rw [sumI_s, sumI_swap f b a, ← sumI_add]
    rfl
theorem sumI_if (p : Prop) [Decidable p] (f : Nat → Int32) (k : Nat) : (if p then 0 else sumI f k) = sumI (fun i => if p then 0 else f i) k := by
  by_cases h : p
  · rw [if_pos h, sumI_congr (g := fun _ => 0) k (fun i _ => by rw [if_pos h]), sumI_z]
  · rw [if_neg h]; exact sumI_congr k (fun i _ => by rw [if_neg h])
/-- a sum of small numbers -/
theorem sumI_bd {f : Nat → Int32} {B : Int} (hB : 0 ≤ B) : ∀ k : Nat, (∀ i, i < k → IR (f i) 0 B) → (k : Int) * B < 2 ^ 31 → IR (sumI f k) 0 ((k : Int) * B) ∧ ∀ i, i < k → (f i).toInt ≤ (sumI f k).toInt := by
  intro k
  induction k with
  | zero => intro _ _; exact ⟨⟨by rw [sumI_0]; decide, by rw [sumI_0, show (0 : Int32).toInt = 0 by decide]; simp⟩, fun i h => absurd h (Nat.not_lt_zero _)⟩
  | succ k ih =>
    intro h hb
    have e : ((k + 1 : Nat) : Int) * B = (k : Int) * B + B := by rw [Int.natCast_succ, Int.add_mul, Int.one_mul]
    rw [e] at hb ⊢
    obtain ⟨⟨a1, a2⟩, a3⟩ := ih (fun i hi => h i (by omega)) (by omega)
    obtain ⟨b1, b2⟩ := h k (by omega)
    have s := add_i (sumI f k) (f k) (by omega)
    rw [sumI_s]
    refine ⟨⟨by omega, by omega⟩, fun i hi => ?_⟩
    by_cases e : i = k
    · subst e; omega
    · have := a3 i (by omega); omega
abbrev goP (f e m : Int32) : Prop := f ≤ m ∧ (m - f) - (m - f) / e * e = 0
abbrev shV (s : MS) (m : Int32) : Prop := 0 ≤ s.1 16 ∧ s.1 16 ≤ m ∧ m ≤ s.1 17
theorem c_shut (n : Nat) (m : Int32) (h s : MS) (hr : RHill h s) : f_X2_isShutIn n m h = some (bo (shV s m)) := by
  obtain ⟨-, -, -, -, -, -, -, e7, b7, e8, -, -⟩ := hr
  have z0 : (0 : Int32).toInt = 0 := by decide
  have zm : (-1 : Int32).toInt = -1 := by decide
  unfold f_X2_isShutIn
  rw [e7]
  by_cases h1 : s.1 16 = -1
  · rw [if_pos h1]
    unfold bo shV
    rw [if_neg (by rw [h1]; exact fun q => absurd q.1 (by decide))]; rfl
  · rw [if_neg h1]
    have h0 : 0 ≤ s.1 16 := by
      rw [eq_i, zm] at h1
      rw [le_i, z0]
      have := b7.1
      omega
    obtain ⟨q1, q2⟩ := e8.resolve_left h1
    rw [btw, cl_some, q1]
    simp only [bo_0]
    unfold bo shV
    by_cases h2 : s.1 16 ≤ m ∧ m ≤ s.1 17
    · rw [ite_not_t h2, if_pos ⟨h0, h2⟩]; rfl
    · rw [ite_not_f h2, if_neg (fun q => h2 q.2)]; rfl
theorem m_shut (n : Nat) (m : Int32) (s : MS) : f_X8_isShut n m s = some (bo (shV s m)) := by
  unfold f_X8_isShut bo shV
  by_cases h1 : s.1 16 < 0
  · rw [if_pos h1, if_neg (fun q => absurd h1 (Int32.not_lt.mpr q.1))]; rfl
  rw [if_neg h1]
  by_cases h2 : m < s.1 16
  · rw [if_pos h2, if_neg (fun q => absurd h2 (Int32.not_lt.mpr q.2.1))]; rfl
  rw [if_neg h2]
  by_cases h3 : s.1 17 < m
  · rw [if_pos h3, if_neg (fun q => absurd h3 (Int32.not_lt.mpr q.2.2))]; rfl
  rw [if_neg h3, if_pos ⟨Int32.not_lt.mp h1, Int32.not_lt.mp h2, Int32.not_lt.mp h3⟩]; rfl
theorem RCars_n {C s : MS} (hr : RCars C s) : s.1 6 = nI (s.1 6).toNatClampNeg ∧ (s.1 6).toNatClampNeg ≤ 4 := by
  obtain ⟨a, b, -⟩ := IR_nat (hi := 4) hr.2.1 (by omega)
  exact ⟨a, b⟩
theorem RHill_e {h s : MS} (hr : RHill h s) : s.1 15 = nI (s.1 15).toNatClampNeg ∧ (s.1 15).toNatClampNeg ≤ 120 ∧ 1 ≤ (s.1 15).toNatClampNeg := by
  obtain ⟨-, -, -, -, -, -, b6, -⟩ := hr
  obtain ⟨a, b, c⟩ := IR_nat (x := s.1 15) (hi := 120) ⟨by have := b6.1; omega, b6.2⟩ (by omega)
  exact ⟨a, b, by have := b6.1; omega⟩
theorem c_room (n c i : Nat) (m : Int32) (C s : MS) (hr : RCars C s) (hm : IR m 0 119) (hi : i < (s.1 6).toNatClampNeg) (hc : (c < (s.1 6).toNatClampNeg ∧ i = c) ∨ ((s.1 6).toNatClampNeg ≤ c ∧ i = 0)) (h24 : c < 100) : f_X0_roomOf n (nI c) m C = some (if goP (s.2 9 i) (s.2 8 i) m then s.2 7 i else 0) := by
  have z0 : (0 : Int32).toInt = 0 := by decide
  have z1 : (1 : Int32).toInt = 1 := by decide
  obtain ⟨n1, n2⟩ := RCars_n hr
  obtain ⟨e0, -, ec⟩ := hr
  obtain ⟨q1, q2, q3, b1, b2, b3⟩ := ec i (by have := nn_eq (x := s.1 6) (by rw [n1, nI_toInt (by omega)]; omega); omega)
  have main : ∀ x : Int32, x = nI i → (ck (ib x 4) (bn (C.2 3 (Int32.toNatClampNeg x)) fun x3 =>
    bn (m - x3) fun x4 =>
    if x4 < 0 then (
      some 0)
    else (
      ck (ib x 4) <| bn (C.2 2 (Int32.toNatClampNeg x)) fun x6 =>
      if x6 < 1 then (
        some 0)
      else (
        ck (ib x 4) <| bn (C.2 2 (Int32.toNatClampNeg x)) fun x8 =>
        ck (nz x8) <|
        if (x4 - x4 / x8 * x8) = 0 then (
          ck (ib x 4) <| bn (C.2 1 (Int32.toNatClampNeg x)) fun x10 =>
          some x10)
        else (
          some 0))))) = some (if goP (s.2 9 i) (s.2 8 i) m then s.2 7 i else 0) := by
    rintro x rfl
    rw [ib_j (by omega) (by omega), nI_clamp (by omega), ck_t, bn_def, bn_def, ck_t, bn_def, ck_t, bn_def, ck_t, bn_def, q1, q2, q3]
    have hs : (m - s.2 9 i).toInt = m.toInt - (s.2 9 i).toInt := sub_i _ _ (by have := hm.1; have := hm.2; have := b3.1; have := b3.2; omega)
    unfold goP
    by_cases h1 : m - s.2 9 i < 0
    · rw [if_pos h1, if_neg]
      rintro ⟨h2, -⟩
      rw [lt_i, hs, z0] at h1
      rw [le_i] at h2
      omega
    · rw [if_neg h1, if_neg (by rw [lt_i, z1]; have := b2.1; omega), nz_lit _ (by rw [eq_i, z0]; have := b2.1; omega), ck_t]
      have h2 : s.2 9 i ≤ m := by
        rw [lt_i, hs, z0] at h1
        rw [le_i]
        omega
      by_cases h3 : (m - s.2 9 i) - (m - s.2 9 i) / s.2 8 i * s.2 8 i = 0
      · rw [if_pos h3, if_pos ⟨h2, h3⟩]
      · rw [if_neg h3, if_neg (fun q => h3 q.2)]
  unfold f_X0_roomOf
  rw [jn_def, e0]
  rcases hc with ⟨h1, h2⟩ | ⟨h1, h2⟩
  · rw [if_neg (by rw [n1]; exact nI_ge h1 (by omega))]
    exact main (nI c) (by rw [h2])
  · rw [if_pos (by rw [n1, le_i, nI_toInt (by omega), nI_toInt (by omega)]; omega)]
    exact main 0 (by rw [h2]; rfl)
theorem c_roomIn (n : Nat) (hn : 5 ≤ n) (m : Int32) (C s : MS) (hr : RCars C s) (hm : IR m 0 119) : f_X0_roomIn n m C = some (sumI (fun i => if goP (s.2 9 i) (s.2 8 i) m then s.2 7 i else 0) (s.1 6).toNatClampNeg) := by
  obtain ⟨n1, n2⟩ := RCars_n hr
  have e0 := hr.1
  unfold f_X0_roomIn
  refine lp_fn (s.1 6).toNatClampNeg (fun j => (sumI (fun i => if goP (s.2 9 i) (s.2 8 i) m then s.2 7 i else 0) j, nI j)) _ (fun j hj self => ?_) (fun self => ?_) n (by omega)
  · show (if C.1 0 ≤ nI j then _ else cl (f_X0_roomOf n (nI j) m C) fun q4 => bn (sumI (fun i => if goP (s.2 9 i) (s.2 8 i) m then s.2 7 i else 0) j + q4) fun x5 => self (x5, nI j + 1)) = _
    rw [if_neg (by rw [e0, n1]; exact nI_ge hj (by omega)), c_room n j j m C s hr hm hj (Or.inl ⟨hj, rfl⟩) (by omega), cl_some, bn_def, nI_succ]
    rfl
  · show (if C.1 0 ≤ nI (s.1 6).toNatClampNeg then _ else _) = _
    rw [if_pos (by rw [e0, n1, nI_clamp (by omega)]; exact Int32.le_refl _)]
theorem m_goes (n c : Nat) (m : Int32) (s : MS) (hc : c < 24) (he : IR (s.2 8 c) 1 30) : f_X8_goes n (nI c) m s = some (bo (goP (s.2 9 c) (s.2 8 c) m ∧ ¬ shV s m)) := by
  have z0 : (0 : Int32).toInt = 0 := by decide
  unfold f_X8_goes
  rw [ib_j hc (by omega), ck_t, bn_def, ck_t, bn_def, ck_t, bn_def, nI_clamp (by omega), nz_lit _ (by rw [eq_i, z0]; have := he.1; omega), ck_t, m_shut, cl_some]
  simp only [bo_0]
  unfold bo
  by_cases h1 : m < s.2 9 c
  · rw [if_pos h1, if_neg (fun q => absurd h1 (Int32.not_lt.mpr q.1.1))]; rfl
  rw [if_neg h1]
  by_cases h2 : (m - s.2 9 c) - (m - s.2 9 c) / s.2 8 c * s.2 8 c = 0
  case neg => rw [if_neg h2, if_neg (fun q => h2 q.1.2)]; rfl
  rw [if_pos h2]
  by_cases h3 : shV s m
  · rw [ite_not_t h3, if_neg (fun q => q.2 h3)]; rfl
  · rw [ite_not_f h3, if_pos ⟨⟨Int32.not_lt.mp h1, h2⟩, h3⟩]; rfl
theorem sub_add_s (a b c : Int32) : a - b - c = a - (b + c) := Int32.sub_sub a b c
theorem op_must (t0 : MS) (nw n : Nat) (hn : 121 ≤ n) (c : CS) (s : MS) (hr : R t0 nw c s) : SIM0 (f_X7_must n nw c) (f_X8_must n s) := by
  obtain ⟨rH, rK, rC, rW, rP, rT, rX, rS, rM⟩ := hr
  obtain ⟨n1, n2⟩ := RCars_n rC
  obtain ⟨k1, k2⟩ := RHill_n rH
  obtain ⟨e1, e2, e3⟩ := RHill_e rH
  have e6 : c.2.1.1 6 = s.1 15 := rH.2.2.2.2.2.1
  have hcar : ∀ i, i < (s.1 6).toNatClampNeg → IR (s.2 8 i) 1 30 := fun i hi => (rC.2.2 i (by have := nn_eq rC.2.1.1; omega)).2.2.2.2.1
  have hc : f_X7_must n nw c = some (sumI (fun j => if shV s (nI j) then 0 else sumI (fun i => if goP (s.2 9 i) (s.2 8 i) (nI j) then s.2 7 i else 0) (s.1 6).toNatClampNeg) (s.1 15).toNatClampNeg - sumI (s.2 2) (s.1 1).toNatClampNeg) := by
    unfold f_X7_must
    refine lp_fn (s.1 15).toNatClampNeg (fun j => (sumI (fun j => if shV s (nI j) then 0 else sumI (fun i => if goP (s.2 9 i) (s.2 8 i) (nI j) then s.2 7 i else 0) (s.1 6).toNatClampNeg) j, nI j)) _ (fun j hj self => ?_) (fun self => ?_) n (by omega)
    · show (if c.2.1.1 6 ≤ nI j then _ else cl (f_X2_isShutIn n (nI j) c.2.1) fun q5 => jn (fun (t6 : Int32) => self (t6, (nI j + 1))) fun K7 => if q5 = 0 then (cl (f_X0_roomIn n (nI j) c.2.2.2.1) fun q9 => bn (sumI _ j + q9) fun x10 => K7 x10) else (K7 (sumI _ j))) = _
      rw [if_neg (by rw [e6, e1]; exact nI_ge hj (by omega)), c_shut n _ _ s rH, cl_some, jn_def, c_roomIn n (by omega) _ _ s rC ⟨by rw [nI_toInt (by omega)]; omega, by rw [nI_toInt (by omega)]; omega⟩, cl_some, bn_def, nI_succ]
      simp only [bo_0]
      rw [sumI_s]
      by_cases h : shV s (nI j)
      · rw [ite_not_t h, if_pos h, Int32.add_zero]
      · rw [ite_not_f h, if_neg h]
    · show (if c.2.1.1 6 ≤ nI (s.1 15).toNatClampNeg then _ else _) = _
      rw [if_pos (by rw [e6, ← e1]; exact Int32.le_refl _), c_allUp n (by omega) _ _ rH, cl_some]
  have hm : f_X8_must n s = some (sumI (fun i => sumI (fun j => if goP (s.2 9 i) (s.2 8 i) (nI j) ∧ ¬ shV s (nI j) then s.2 7 i else 0) (s.1 15).toNatClampNeg) (s.1 6).toNatClampNeg - sumI (s.2 2) (s.1 1).toNatClampNeg) := by
    unfold f_X8_must
    refine lp_fn (s.1 6).toNatClampNeg (fun i => (sumI (fun i => sumI (fun j => if goP (s.2 9 i) (s.2 8 i) (nI j) ∧ ¬ shV s (nI j) then s.2 7 i else 0) (s.1 15).toNatClampNeg) i, nI i)) _ (fun i hi self => ?_) (fun self => ?_) n (by omega)
    · show (if s.1 6 ≤ nI i then _ else lp _ n (sumI _ i, 0)) = _
      rw [if_neg (by intro h; rw [n1] at h; exact nI_ge hi (by omega) h)]
      refine lp_st (s.1 15).toNatClampNeg (fun j => (sumI (fun i => sumI (fun j => if goP (s.2 9 i) (s.2 8 i) (nI j) ∧ ¬ shV s (nI j) then s.2 7 i else 0) (s.1 15).toNatClampNeg) i + sumI (fun j => if goP (s.2 9 i) (s.2 8 i) (nI j) ∧ ¬ shV s (nI j) then s.2 7 i else 0) j, nI j)) (fun j hj self2 => ?_) (fun self2 => ?_) n (by omega) (Prod.ext (by dsimp only; rw [sumI_0, Int32.add_zero]) rfl)
      · show (if s.1 15 ≤ nI j then _ else cl (f_X8_goes n (nI i) (nI j) s) fun q12 => jn (fun (t13 : Int32) => self2 (t13, (nI j + 1))) fun K14 => if q12 = 0 then (K14 (_ + sumI _ j)) else (ck (ib (nI i) 24) <| bn (s.2 7 (Int32.toNatClampNeg (nI i))) fun x16 => bn ((_ + sumI _ j) + x16) fun x17 => K14 x17)) = _
        rw [if_neg (by intro h; rw [e1] at h; exact nI_ge hj (by omega) h), m_goes n i _ s (by omega) (hcar i hi), cl_some, jn_def, ib_j (by omega) (by omega), ck_t, bn_def, bn_def, nI_clamp (by omega), nI_succ]
        simp only [bo_0]
        rw [sumI_s]
        by_cases h : goP (s.2 9 i) (s.2 8 i) (nI j) ∧ ¬ shV s (nI j)
        · rw [ite_not_t h, if_pos h, Int32.add_assoc]
        · rw [ite_not_f h, if_neg h, Int32.add_zero]
      · show (if s.1 15 ≤ nI (s.1 15).toNatClampNeg then self (_, nI i + 1) else _) = _
        rw [if_pos (by rw [← e1]; exact Int32.le_refl _), nI_succ]
        rfl
    · show (if s.1 6 ≤ nI (s.1 6).toNatClampNeg then lp _ n (sumI _ _, 0) else _) = _
      rw [if_pos (by rw [← n1]; exact Int32.le_refl _)]
      refine lp_st (s.1 1).toNatClampNeg (fun t => (sumI (fun i => sumI (fun j => if goP (s.2 9 i) (s.2 8 i) (nI j) ∧ ¬ shV s (nI j) then s.2 7 i else 0) (s.1 15).toNatClampNeg) (s.1 6).toNatClampNeg - sumI (s.2 2) t, nI t)) (fun t ht self2 => ?_) (fun self2 => ?_) n (by omega) (Prod.ext (by dsimp only; rw [sumI_0, Int32.sub_zero]) rfl)
      · show (if s.1 1 ≤ nI t then _ else ck (ib (nI t) 6) <| bn (s.2 2 (Int32.toNatClampNeg (nI t))) fun x7 => bn ((_ - sumI _ t) - x7) fun x8 => self2 (x8, (nI t + 1))) = _
        rw [if_neg (by intro h; rw [k1] at h; exact nI_ge ht (by omega) h), ib_j (by omega) (by omega), ck_t, bn_def, bn_def, nI_clamp (by omega), nI_succ, sub_add_s]
        rfl
      · show (if s.1 1 ≤ nI (s.1 1).toNatClampNeg then _ else _) = _
        rw [if_pos (by rw [← k1]; exact Int32.le_refl _)]
  refine ⟨_, hc, hm.trans ?_⟩
  rw [sumI_swap]
  congr 2
  refine sumI_congr _ (fun j _ => ?_)
  rw [sumI_if]
  refine sumI_congr _ (fun i _ => ?_)
  by_cases h : shV s (nI j)
  · rw [if_pos h, if_neg (fun q => q.2 h)]
  · rw [if_neg h]
    by_cases h2 : goP (s.2 9 i) (s.2 8 i) (nI j)
    · rw [if_pos h2, if_pos ⟨h2, h⟩]
    · rw [if_neg h2, if_neg (fun q => h2 q.1)]
