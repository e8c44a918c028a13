theorem lp_cnt {X ρ : Type} {F : (X → Option ρ) → X → Option ρ} (cnt : X → Int32) (k : Nat) (hk : k < 2 ^ 30) (I : Nat → X → Prop) (hc : ∀ j x, I j x → cnt x = nI j) (Post : ρ → Prop) (step : ∀ j x, j < k → I j x → (∃ x', I (j + 1) x' ∧ ∀ self, F self x = self x') ∨ (∃ r, Post r ∧ ∀ self, F self x = some r)) (stop : ∀ x, I k x → ∃ r, Post r ∧ ∀ self, F self x = some r) (n : Nat) (hn : k < n) (x0 : X) (h0 : I 0 x0) : ∃ r, Post r ∧ lp F n x0 = some r := by
  refine lp_inv (fun x => ∃ j, j ≤ k ∧ I j x) (fun x => k - (cnt x).toNatClampNeg) Post ?_ n x0 ⟨0, Nat.zero_le _, h0⟩ ?_
  · rintro x ⟨j, hj, hI⟩
    by_cases e : j = k
    · subst e; exact Or.inr (stop x hI)
    · rcases step j x (by omega) hI with ⟨x', h1, h2⟩ | h
      · refine Or.inl ⟨x', ⟨j + 1, by omega, h1⟩, ?_, h2⟩
        show k - (cnt x').toNatClampNeg < k - (cnt x).toNatClampNeg
        rw [hc _ _ h1, hc _ _ hI, nI_clamp (by omega), nI_clamp (by omega)]
        omega
      · exact Or.inr h
  · show k - (cnt x0).toNatClampNeg < n
    omega
/-- a sum over places, wrapping -/
def sumI (f : Nat → Int32) : Nat → Int32
  | 0 => 0
  | k + 1 => sumI f k + f k
theorem sumI_congr {f g : Nat → Int32} : ∀ k, (∀ i, i < k → f i = g i) → sumI f k = sumI g k
  | 0, _ => rfl
  | k + 1, h => by show sumI f k + f k = sumI g k + g k; rw [sumI_congr k (fun i hi => h i (by omega)), h k (by omega)]
/-- the shape of a sum's loop -/
theorem sum_loop (n k : Nat) (hn : k < n) (hk : k ≤ 6) (b : Int32) (hb : b = nI k) (f : Nat → Int32) : lp (fun K2 (t1 : Int32 × Int32) =>
    if b ≤ t1.2 then (
      some t1.1)
    else (
      ck (ib t1.2 6) <| bn (f (Int32.toNatClampNeg t1.2)) fun x4 =>
      bn (t1.1 + x4) fun x5 =>
      K2 (x5, (t1.2 + 1)))) n (0, 0) = some (sumI f k) := by
  subst hb
  obtain ⟨r, hr, he⟩ := lp_cnt (F := fun K2 (t1 : Int32 × Int32) =>
    if nI k ≤ t1.2 then (
      some t1.1)
    else (
      ck (ib t1.2 6) <| bn (f (Int32.toNatClampNeg t1.2)) fun x4 =>
      bn (t1.1 + x4) fun x5 =>
      K2 (x5, (t1.2 + 1)))) (fun t => t.2) k (by omega) (fun j t => t = (sumI f j, nI j)) (fun j t h => by rw [h]) (fun r => r = sumI f k) (fun j t hj h => by
      subst h
      refine Or.inl ⟨(sumI f (j + 1), nI (j + 1)), rfl, fun self => ?_⟩
      show (if nI k ≤ nI j then _ else ck (ib (nI j) 6) (bn (f (nI j).toNatClampNeg) fun x4 => bn (sumI f j + x4) fun x5 => self (x5, nI j + 1))) = _
      rw [if_neg (nI_ge hj (by omega)), show ib (nI j) 6 = true from decide_eq_true (nI_in (by omega) (by omega)), ck_t, nI_clamp (by omega), bn_def, bn_def, nI_succ]
      rfl) (fun t h => by
      subst h
      refine ⟨sumI f k, rfl, fun self => ?_⟩
      show (if nI k ≤ nI k then _ else _) = _
      rw [if_pos (Int32.le_refl _)]) n hn (0, 0) rfl
  rw [he, hr]
theorem RHill_n {h s : MS} (hr : RHill h s) : s.1 1 = nI (s.1 1).toNatClampNeg ∧ (s.1 1).toNatClampNeg ≤ 6 := by
  obtain ⟨a, b, -⟩ := IR_nat (hi := 6) hr.2.1 (by omega)
  exact ⟨a, b⟩
theorem m_allUp (n : Nat) (hn : 7 ≤ n) (h s : MS) (hr : RHill h s) : f_X8_allUp n s = some (sumI (s.2 2) (s.1 1).toNatClampNeg) := by
  obtain ⟨a, b⟩ := RHill_n hr
  unfold f_X8_allUp
  exact sum_loop n _ (by omega) b _ a _
theorem c_allUp (n : Nat) (hn : 7 ≤ n) (h s : MS) (hr : RHill h s) : f_X2_allUp n h = some (sumI (s.2 2) (s.1 1).toNatClampNeg) := by
  obtain ⟨a, b⟩ := RHill_n hr
  unfold f_X2_allUp
  rw [sumI_congr (f := s.2 2) (g := h.2 1) _ (fun i hi => (hr.2.2.1 i (by omega)).1.symm)]
  exact sum_loop n _ (by omega) b _ (by rw [hr.1]; exact a) _
theorem op_count (t0 : MS) (nw n : Nat) (hn : 7 ≤ n) (k : Int32) (c : CS) (s : MS) (hr : R t0 nw c s) : SIM0 (f_X7_count n nw k c) (f_X8_count n k s) := by
  obtain ⟨rH, rK, rC, rW, rP, rT, rX, rS, rM⟩ := hr
  unfold f_X7_count f_X8_count
  rw [c_allUp n hn _ _ rH, m_allUp n hn _ _ rH, cl_some, rH.1, rC.1, rW.1, rW.2.1, rM.1, rT.1, rH.2.2.2.2.2.1, rH.2.2.2.2.2.2.2.2.2.2.1]
  (repeat' split) <;> exact ⟨_, rfl, rfl⟩
