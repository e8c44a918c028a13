-- loops that count
theorem lp_for {S ρ : Type} {F : ((Int32 × S) → Option ρ) → (Int32 × S) → Option ρ} (k : Nat) (hk : k < 2 ^ 30) (I : Nat → S → Prop) (Post : ρ → Prop) (step : ∀ j s, j < k → I j s → (∃ s', I (j + 1) s' ∧ ∀ self, F self (nI j, s) = self (nI (j + 1), s')) ∨ (∃ r, Post r ∧ ∀ self, F self (nI j, s) = some r)) (stop : ∀ s, I k s → ∃ r, Post r ∧ ∀ self, F self (nI k, s) = some r) (n : Nat) (hn : k < n) (s0 : S) (h0 : I 0 s0) : ∃ r, Post r ∧ lp F n (nI 0, s0) = some r := by
  refine lp_inv (fun x => ∃ j, j ≤ k ∧ x.1 = nI j ∧ I j x.2) (fun x => k - x.1.toNatClampNeg) Post ?_ n (nI 0, s0) ⟨0, Nat.zero_le _, rfl, h0⟩ ?_
  · rintro ⟨t, s⟩ ⟨j, hj, ht, hI⟩
    have ht : t = nI j := ht
    subst ht
    by_cases e : j = k
    · subst e
      obtain ⟨r, h1, h2⟩ := stop s hI
      exact Or.inr ⟨r, h1, h2⟩
    · rcases step j s (by omega) hI with ⟨s', h1, h2⟩ | ⟨r, h1, h2⟩
      · refine Or.inl ⟨(nI (j + 1), s'), ⟨j + 1, by omega, rfl, h1⟩, ?_, h2⟩
        show k - (nI (j + 1)).toNatClampNeg < k - (nI j).toNatClampNeg
        rw [nI_clamp (by omega), nI_clamp (by omega)]
        omega
      · exact Or.inr ⟨r, h1, h2⟩
  · show k - (nI 0).toNatClampNeg < n
    omega
theorem RSheets_set {S : Nat → MS} {s s' : MS} {i : Nat} {T : MS} (hr : RSheets S s) (hi : i < 4) (h57 : ∀ k, k ≠ i → s'.2 57 k = s.2 57 k) (h58 : ∀ k, k ≠ i → s'.2 58 k = s.2 58 k) (h59 : ∀ k, k ≠ i → ∀ j, j < 40 → s'.2 59 (40 * k + j) = s.2 59 (40 * k + j)) (hT : T.1 0 = s'.2 57 i ∧ IR (s'.2 57 i) (-1) 2 ∧ (s'.2 57 i = -1 ∨ (T.1 1 = s'.2 58 i ∧ IR (s'.2 58 i) 0 40 ∧ ∀ j : Nat, (j : Int) < (s'.2 58 i).toInt → T.2 2 j = s'.2 59 (40 * i + j)))) : RSheets (va_up S i T) s' := by
  intro k hk
  by_cases e : k = i
  · subst e; rw [vu, if_pos rfl]; exact hT
  · rw [vu, if_neg e, h57 k e, h58 k e]
    obtain ⟨a1, a2, a3⟩ := hr k hk
    refine ⟨a1, a2, ?_⟩
    rcases a3 with a3 | ⟨b1, b2, b3⟩
    · exact Or.inl a3
    · exact Or.inr ⟨b1, b2, fun j hj => by rw [h59 k e j (by have := b2.2; omega)]; exact b3 j hj⟩
/-- the reference lays out a sheet -/
theorem m_lay (n : Nat) (hn : 41 ≤ n) (a d : Int32) (i k : Nat) (hi : a.toInt = (i : Int)) (h4 : i < 4) (hd : d = nI k) (hk : k ≤ 40) (z : MS) : ∃ r : Int32 × MS, (r.1 = 1 ∧ r.2.1 = z.1 ∧ (∀ q, q ≠ 59 → r.2.2 q = z.2 q) ∧ ∀ u, r.2.2 59 u = if 40 * i ≤ u ∧ u < 40 * i + k then 0 else z.2 59 u) ∧ lp (fun K11 (t10 : Int32 × MS) =>
              if d ≤ t10.1 then (
                some (1, t10.2))
              else (
                ck (ib ((40 * a) + t10.1) 160) <| bn (ap t10.2 59 (Int32.toNatClampNeg ((40 * a) + t10.1)) 0) fun z13 =>
                K11 ((t10.1 + 1), z13))) n (0, z) = some r := by
  subst hd
  refine lp_for k (by omega) (fun j s => s.1 = z.1 ∧ (∀ q, q ≠ 59 → s.2 q = z.2 q) ∧ ∀ u, s.2 59 u = if 40 * i ≤ u ∧ u < 40 * i + j then 0 else z.2 59 u) _ ?_ ?_ n (by omega) z ⟨rfl, fun _ _ => rfl, fun u => by rw [if_neg (by omega)]⟩
  · intro j s hj ⟨i1, i2, i3⟩
    have hjt : (nI j).toInt = (j : Int) := nI_toInt (by omega)
    obtain ⟨p1, p2⟩ := at40 (a := a) (b := nI j) hi h4 (by rw [hjt]; omega) (by rw [hjt]; omega)
    rw [nI_clamp (by omega)] at p2
    refine Or.inl ⟨ap s 59 (40 * i + j) 0, ⟨by rw [ap1]; exact i1, fun q hq => by funext u; rw [ap2, if_neg hq, i2 q hq], fun u => ?_⟩, fun self => ?_⟩
    · rw [ap2, if_pos rfl]
      by_cases e : u = 40 * i + j
      · rw [if_pos e, if_pos (by omega)]
      · rw [if_neg e, i3 u]
        by_cases e2 : 40 * i ≤ u ∧ u < 40 * i + j
        · rw [if_pos e2, if_pos (by omega)]
        · rw [if_neg e2, if_neg (by omega)]
    · show (if nI k ≤ nI j then _ else _) = _
      rw [if_neg (nI_ge hj (by omega))]
      show ck (ib ((40 * a) + nI j) 160) (bn (ap s 59 (Int32.toNatClampNeg ((40 * a) + nI j)) 0) fun z13 => self ((nI j + 1), z13)) = _
      rw [p1, ck_t, p2, bn_def, nI_succ]
  · intro s ⟨i1, i2, i3⟩
    refine ⟨(1, s), ⟨rfl, i1, i2, i3⟩, fun self => ?_⟩
    show (if nI k ≤ nI k then _ else _) = _
    rw [if_pos (Int32.le_refl _)]
theorem op_sheet (t0 : MS) (nw n : Nat) (hn : 41 ≤ n) (a b d : Int32) (c : CS) (s : MS) (hr : R t0 nw c s) : SIM t0 nw (f_X7_sheet n nw a b d c) (f_X8_sheet n a b d s) := by
  have hr0 := hr
  obtain ⟨rH, rK, rC, rW, rP, rT, rX, rS, rM⟩ := hr
  have z0 : (0 : Int32).toInt = 0 := by decide
  have z2 : (2 : Int32).toInt = 2 := by decide
  have zm : (-1 : Int32).toInt = -1 := by decide
  have z40 : (40 : Int32).toInt = 40 := by decide
  unfold f_X7_sheet f_X8_sheet f_X3_become
  rw [c_she, m_she, cl_some, cl_some]
  simp only [bo_0, btw, m_in, cl_some, jn_def, bn_def]
  by_cases h1 : 0 ≤ a ∧ a ≤ 3
  case neg => simp only [ite_not_f h1]; exact ⟨_, _, _, rfl, rfl, hr0⟩
  obtain ⟨i4, hi, hai⟩ := she_i h1
  by_cases h2 : (-1) ≤ b ∧ b ≤ 2
  case neg => simp only [ite_not_t h1, ite_not_f h2]; exact ⟨_, _, _, rfl, rfl, hr0⟩
  simp only [ite_not_t h1, ite_not_t h2, i4, ck_t]
  have hb : IR b (-1) 2 := by rw [le_i, le_i, zm, z2] at h2; exact h2
  by_cases h3 : b = -1
  · simp only [if_pos h3]
    refine ⟨1, _, ap s 57 a.toNatClampNeg (-1), rfl, rfl, R_sheets hr0 (RSheets_set rS hi ?_ ?_ ?_ ?_) (fun ks as h _ _ => AG_ap h)⟩
    · intro k hk; rw [ap2, if_pos rfl, if_neg hk]
    · intro k hk; rw [ap2, if_neg (by decide)]
    · intro k hk j _; rw [ap2, if_neg (by decide)]
    · have e : (ap s 57 a.toNatClampNeg (-1)).2 57 a.toNatClampNeg = -1 := by rw [ap2, if_pos rfl, if_pos rfl]
      rw [e]
      exact ⟨by rw [h3]; rfl, ⟨by decide, by decide⟩, Or.inl rfl⟩
  simp only [if_neg h3]
  by_cases h4 : d ≤ 40
  case neg => simp only [if_neg h4]; exact ⟨_, _, _, rfl, rfl, hr0⟩
  by_cases h5 : 0 ≤ d
  case neg => simp only [if_pos h4, if_neg h5]; exact ⟨_, _, _, rfl, rfl, hr0⟩
  simp only [if_pos h4, if_pos h5]
  rw [le_i, z40] at h4
  rw [le_i, z0] at h5
  obtain ⟨d1, d2, d3⟩ := IR_nat (hi := 40) ⟨h5, h4⟩ (by omega)
  obtain ⟨r, ⟨r1, r2, r3, r4⟩, he⟩ := m_lay n hn a d a.toNatClampNeg d.toNatClampNeg hai hi d1 d2 (ap (ap s 57 a.toNatClampNeg b) 58 a.toNatClampNeg d)
  have e57 : ∀ k, r.2.2 57 k = if k = a.toNatClampNeg then b else s.2 57 k := fun k => by rw [r3 57 (by decide), ap2, if_neg (by decide), ap2, if_pos rfl]
  have e58 : ∀ k, r.2.2 58 k = if k = a.toNatClampNeg then d else s.2 58 k := fun k => by rw [r3 58 (by decide)]; simp only [ap2, show (58 : Nat) ≠ 57 by decide, if_false, if_true]
  have e59 : ∀ u, r.2.2 59 u = if 40 * a.toNatClampNeg ≤ u ∧ u < 40 * a.toNatClampNeg + d.toNatClampNeg then 0 else s.2 59 u := fun u => by rw [r4 u]; simp only [ap2, show (59 : Nat) ≠ 58 by decide, show (59 : Nat) ≠ 57 by decide, if_false]
  refine ⟨1, _, r.2, rfl, he.trans (by rw [← r1]), R_sheets hr0 (RSheets_set rS hi ?_ ?_ ?_ ?_) (fun ks as h7 h8 h9 => ?_)⟩
  · intro k hk; rw [e57, if_neg hk]
  · intro k hk; rw [e58, if_neg hk]
  · intro k hk j hj; rw [e59, if_neg (by omega)]
  · rw [e57, e58, if_pos rfl, if_pos rfl]
    refine ⟨rfl, hb, Or.inr ⟨rfl, ⟨h5, h4⟩, fun j hj => ?_⟩⟩
    rw [e59, if_pos (by omega)]
    show filln 40 0 _ j = 0
    unfold filln
    rw [if_pos (by omega)]
  · refine ⟨fun k _ => by rw [r2, ap1, ap1], fun k hk => ?_⟩
    rw [r3 k (fun e => h9 (e ▸ hk))]
    funext u
    rw [ap2, if_neg (fun (e : k = 58) => h8 (e ▸ hk)), ap2, if_neg (fun (e : k = 57) => h7 (e ▸ hk))]
