-- THE PURE PART: what follows speaks of numbers and functions alone
theorem cl_some {X ρ : Type} (x : X) (K : X → Option ρ) : cl (some x) K = K x := rfl
theorem bn_def {X ρ : Type} (x : X) (K : X → Option ρ) : bn x K = K x := rfl
theorem jn_def {X ρ : Type} (K : X → Option ρ) (b : (X → Option ρ) → Option ρ) : jn K b = b K := rfl
theorem ck_t {ρ : Type} (K : Option ρ) : ck true K = K := rfl
theorem oc_none {X ρ : Type} (A : Option ρ) (B : X → Option ρ) : oc none A B = A := rfl
theorem oc_some {X ρ : Type} (w : X) (A : Option ρ) (B : X → Option ρ) : oc (some w) A B = B w := rfl
theorem sp1 (s : MS) (k j : Nat) (x : Int32) : (sp s k x).1 j = if j = k then x else s.1 j := rfl
theorem sp2 (s : MS) (k : Nat) (x : Int32) : (sp s k x).2 = s.2 := rfl
theorem ap1 (s : MS) (k i : Nat) (x : Int32) : (ap s k i x).1 = s.1 := rfl
theorem ap2 (s : MS) (k i j t : Nat) (x : Int32) : (ap s k i x).2 j t = if j = k then (if t = i then x else s.2 k t) else s.2 j t := by
  unfold ap
  show va_up s.2 k (upd (s.2 k) i x) j t = _
  unfold va_up upd
  by_cases h : j = k <;> simp [h]
theorem ar1 (s : MS) (k : Nat) (h : Nat → Int32) : (ar s k h).1 = s.1 := rfl
theorem ar2 (s : MS) (k j : Nat) (h : Nat → Int32) : (ar s k h).2 j = if j = k then h else s.2 j := rfl
theorem vu (α : Type) (f : Nat → α) (k j : Nat) (x : α) : va_up f k x j = if j = k then x else f j := rfl
def bo (c : Prop) [Decidable c] : Int32 := if c then 1 else 0
theorem bo_0 (c : Prop) [Decidable c] : (bo c = 0) = ¬ c := by
  unfold bo
  by_cases h : c
  · rw [if_pos h]; simp [h]
  · rw [if_neg h]; simp [h]
theorem isz_bo (c : Prop) [Decidable c] : isz (bo c) = true := by
  unfold bo
  by_cases h : c
  · rw [if_pos h]; rfl
  · rw [if_neg h]; rfl
theorem btw (n : Nat) (v lo hi : Int32) : f_X7_between n v lo hi = some (bo (lo ≤ v ∧ v ≤ hi)) := by
  unfold f_X7_between bo
  by_cases h1 : v < lo
  · rw [if_pos h1, if_neg (fun h => absurd h1 (Int32.not_lt.mpr h.1))]; rfl
  · rw [if_neg h1]
    by_cases h2 : hi < v
    · rw [if_pos h2, if_neg (fun h => absurd h2 (Int32.not_lt.mpr h.2))]; rfl
    · rw [if_neg h2, if_pos ⟨Int32.not_lt.mp h1, Int32.not_lt.mp h2⟩]; rfl
theorem m_in (n : Nat) (v lo hi : Int32) : f_X8_in n v lo hi = some (bo (lo ≤ v ∧ v ≤ hi)) := by
  unfold f_X8_in bo
  by_cases h1 : v < lo
  · rw [if_pos h1, if_neg (fun h => absurd h1 (Int32.not_lt.mpr h.1))]; rfl
  · rw [if_neg h1]
    by_cases h2 : hi < v
    · rw [if_pos h2, if_neg (fun h => absurd h2 (Int32.not_lt.mpr h.2))]; rfl
    · rw [if_neg h2, if_pos ⟨Int32.not_lt.mp h1, Int32.not_lt.mp h2⟩]; rfl
theorem nz_lit (y : Int32) (h : ¬ y = 0) : nz y = true := decide_eq_true h
/-- a number between two bounds -/
def IR (x : Int32) (lo hi : Int) : Prop := lo ≤ x.toInt ∧ x.toInt ≤ hi
theorem IR_nat {x : Int32} {hi : Nat} (h : IR x 0 hi) (hh : hi < 2 ^ 31) : x = nI x.toNatClampNeg ∧ x.toNatClampNeg ≤ hi ∧ x.toInt = (x.toNatClampNeg : Int) := by
  obtain ⟨h1, h2⟩ := h
  have e : x.toInt = (x.toNatClampNeg : Int) := by
    rw [← Int32.toNat_toInt]; omega
  refine ⟨?_, by omega, e⟩
  apply Int32.toInt_inj.mp
  rw [nI_toInt (by omega), e]
theorem ib_of {i : Int32} {n : Nat} (h0 : 0 ≤ i.toInt) (h1 : i.toInt < (n : Int)) : ib i n = true := by
  have e : i.toInt = (i.toNatClampNeg : Int) := by rw [← Int32.toNat_toInt]; omega
  refine decide_eq_true ?_
  intro h
  rcases h with h | h
  · have := Int32.lt_iff_toInt_lt.mp h
    have z : (0 : Int32).toInt = 0 := by decide
    omega
  · omega
theorem le_i (a b : Int32) : (a ≤ b) = (a.toInt ≤ b.toInt) := propext Int32.le_iff_toInt_le
theorem lt_i (a b : Int32) : (a < b) = (a.toInt < b.toInt) := propext Int32.lt_iff_toInt_lt
theorem eq_i (a b : Int32) : (a = b) = (a.toInt = b.toInt) := propext Int32.toInt_inj.symm
theorem add_i (a b : Int32) (h : -2 ^ 31 ≤ a.toInt + b.toInt ∧ a.toInt + b.toInt < 2 ^ 31) : (a + b).toInt = a.toInt + b.toInt := by
  rw [Int32.toInt_add]
  unfold Int.bmod
  simp only [Int.reducePow] at h ⊢
  split <;> omega
theorem sub_i (a b : Int32) (h : -2 ^ 31 ≤ a.toInt - b.toInt ∧ a.toInt - b.toInt < 2 ^ 31) : (a - b).toInt = a.toInt - b.toInt := by
  rw [Int32.toInt_sub]
  unfold Int.bmod
  simp only [Int.reducePow] at h ⊢
  split <;> omega
theorem mul_i (a b : Int32) (h : -2 ^ 31 ≤ a.toInt * b.toInt ∧ a.toInt * b.toInt < 2 ^ 31) : (a * b).toInt = a.toInt * b.toInt := by
  rw [Int32.toInt_mul]
  unfold Int.bmod
  simp only [Int.reducePow] at h ⊢
  generalize a.toInt * b.toInt = z at h ⊢
  split <;> omega
theorem div_i (a b : Int32) (h : 0 < b.toInt) : (a / b).toInt = a.toInt.tdiv b.toInt := by
  rw [Int32.toInt_div_of_ne_right]
  intro e
  rw [e] at h
  exact absurd h (by decide)
theorem rng (a : Int32) : -2 ^ 31 ≤ a.toInt ∧ a.toInt < 2 ^ 31 := ⟨Int32.le_toInt a, Int32.toInt_lt a⟩
/-- loops by an invariant and a measure: F goes on, or ends with an answer that is as it should be -/
theorem lp_inv {X ρ : Type} {F : (X → Option ρ) → X → Option ρ} (P : X → Prop) (μ : X → Nat) (Post : ρ → Prop) (h : ∀ x, P x → (∃ x', P x' ∧ μ x' < μ x ∧ ∀ self, F self x = self x') ∨ (∃ r, Post r ∧ ∀ self, F self x = some r)) : ∀ (n : Nat) (x : X), P x → μ x < n → ∃ r, Post r ∧ lp F n x = some r := by
  intro n
  induction n with
  | zero => intro x _ h; omega
  | succ n ih =>
    intro x hx hm
    rcases h x hx with ⟨x', hx', hlt, he⟩ | ⟨r, hr, he⟩
    · obtain ⟨r, hr, e⟩ := ih x' hx' (by omega)
      exact ⟨r, hr, by show F (lp F n) x = some r; rw [he]; exact e⟩
    · exact ⟨r, hr, by show F (lp F n) x = some r; exact he _⟩
theorem m_people_test (n : Nat) (v : Int32) (h : IR v 0 400) : (v + 1).toInt = v.toInt + 1 := by
  have o : (1 : Int32).toInt = 1 := by decide
  obtain ⟨h1, h2⟩ := h
  rw [add_i _ _ (by omega), o]
