-- VALUES of texts
theorem nI_ad (a b : Nat) : nI a + nI b = nI (a + b) := (Int32.ofNat_add a b).symm
theorem nI_mu (a b : Nat) : nI a * nI b = nI (a * b) := (Int32.ofNat_mul a b).symm
theorem nI_pd (d : Nat) (h : 1 ≤ d) : nI d - 1 = nI (d - 1) := by
  obtain ⟨e, rfl⟩ : ∃ e, d = e + 1 := ⟨d - 1, by omega⟩
  rw [nI_succ, Int32.add_sub_cancel, Nat.add_sub_cancel]
theorem nI_dc (d : Nat) (h : 1 ≤ d) : nI d + (-1) = nI (d - 1) := by
  rw [← Int32.sub_eq_add_neg, nI_pd d h]
theorem nI_pd2 (d : Nat) (h : 2 ≤ d) : nI d - 2 = nI (d - 2) := by
  obtain ⟨e, rfl⟩ : ∃ e, d = e + 2 := ⟨d - 2, by omega⟩
  rw [← nI_ad e 2, show nI 2 = 2 from rfl, Int32.add_sub_cancel, Nat.add_sub_cancel]
theorem nI_eqI {x : Int32} {k : Nat} (h : x.toInt = (k : Int)) : x = nI k := by
  have := rng x
  apply Int32.toInt_inj.mp
  rw [nI_toInt (by omega), h]
theorem dp_s {f : Nat → Int32} {lo j d : Nat} (h : dp f lo j = some d) : dp f lo (j + 1) = (if 300 ≤ f (lo + j) then some (d + 1) else if f (lo + j) = 258 ∨ f (lo + j) = 259 then (if 1 ≤ d then some d else none) else (if 2 ≤ d then some (d - 1) else none)) := by
  simp only [dp, h]
theorem dp_pre {f : Nat → Int32} {lo : Nat} : ∀ {k d : Nat}, dp f lo k = some d → ∀ j, j ≤ k → ∃ e, dp f lo j = some e ∧ e ≤ j := by
  intro k
  induction k with
  | zero =>
    intro d _ j hj
    have e : j = 0 := by omega
    subst e
    exact ⟨0, rfl, Nat.le_refl _⟩
  | succ k ih =>
    intro d h j hj
    cases hq : dp f lo k with
    | none => simp only [dp, hq] at h; cases h
    | some d' =>
      by_cases e : j = k + 1
      · subst e
        obtain ⟨e2, h2, h3⟩ := ih hq k (Nat.le_refl _)
        rw [hq] at h2
        have h2 := Option.some.inj h2
        refine ⟨d, h, ?_⟩
        rw [dp_s hq] at h
        split at h
        · have := Option.some.inj h; omega
        · split at h
          · split at h
            · have := Option.some.inj h; omega
            · cases h
          · split at h
            · have := Option.some.inj h; omega
            · cases h
      · exact ih hq j (by omega)
theorem TXT_part {T s : MS} {t p : Nat} (h : TXT T s t) (hp : p < 3) : ∃ lo hi : Nat, lo ≤ hi ∧ hi ≤ 160 ∧ T.2 1 p = nI lo ∧ T.2 1 (p + 1) = nI hi ∧ s.2 25 (3 * t + p) = nI hi ∧ (p = 0 ∧ lo = 0 ∨ 1 ≤ p ∧ s.2 25 (3 * t + p - 1) = nI lo) ∧ dp (T.2 0) lo (hi - lo) = some 1 ∧ ∀ k, k < hi → stepR (T.2 0 k) (s.2 23 (170 * t + k)) (s.2 24 (170 * t + k)) := by
  obtain ⟨e0, e1, e2, h01, h12, h2, a0, a1, a2, a3, b0, b1, b2, d0, d1, d2, hs⟩ := h
  have hp' : p = 0 ∨ p = 1 ∨ p = 2 := by omega
  rcases hp' with rfl | rfl | rfl
  · exact ⟨0, e0, by omega, by omega, a0, a1, b0, Or.inl ⟨rfl, rfl⟩, d0, fun k hk => hs k (by omega)⟩
  · exact ⟨e0, e1, by omega, by omega, a1, a2, b1, Or.inr ⟨by omega, b0⟩, d1, fun k hk => hs k (by omega)⟩
  · exact ⟨e1, e2, by omega, by omega, a2, a3, b2, Or.inr ⟨by omega, b1⟩, d2, fun k hk => hs k (by omega)⟩
def TOK (t0 T s : MS) : Prop := (s.1 22 = 0 ∧ T.2 0 = t0.2 0 ∧ T.2 1 = t0.2 1) ∨ ∃ t : Nat, 1 ≤ t ∧ t ≤ 5 ∧ s.1 22 = nI t ∧ TXT T s t
def T0OK (t : MS) : Prop := t.2 1 0 = 0 ∧ t.2 1 1 = 5 ∧ t.2 1 2 = 6 ∧ t.2 1 3 = 7 ∧ t.2 0 0 = 304 ∧ t.2 0 1 = 1003 ∧ t.2 0 2 = 42 ∧ t.2 0 3 = 305 ∧ t.2 0 4 = 45 ∧ t.2 0 5 = 1000 ∧ t.2 0 6 = 1001
/-- two of the stack become one -/
theorem join_both (n : Nat) (x a u v : Int32) (h : (x = 256 ∧ a = 5) ∨ (x = 257 ∧ a = 6) ∨ ((x = 43 ∨ x = 45 ∨ x = 42 ∨ x = 60 ∨ x = 61) ∧ a = x)) : ∃ r, f_X5_joined n x u v = some r ∧ f_X8_twoOf n a u v = some r := by
  unfold f_X5_joined f_X8_twoOf
  rcases h with ⟨rfl, rfl⟩ | ⟨rfl, rfl⟩ | ⟨rfl | rfl | rfl | rfl | rfl, rfl⟩
  · simp only [show ((256 : Int32) = 42) = False by decide, show ((256 : Int32) = 43) = False by decide, show ((256 : Int32) = 45) = False by decide, show ((256 : Int32) = 60) = False by decide, show ((256 : Int32) = 61) = False by decide, show ((256 : Int32) = 257) = False by decide, if_false, if_true]
    by_cases h1 : u = 0 <;> by_cases h2 : v = 0 <;> simp only [h1, h2, if_true, if_false] <;> exact ⟨_, rfl, rfl⟩
  · simp only [show ((257 : Int32) = 42) = False by decide, show ((257 : Int32) = 43) = False by decide, show ((257 : Int32) = 45) = False by decide, show ((257 : Int32) = 60) = False by decide, show ((257 : Int32) = 61) = False by decide, show ((6 : Int32) = 5) = False by decide, if_false, if_true]
    by_cases h1 : u = 0 <;> by_cases h2 : v = 0 <;> simp only [h1, h2, if_true, if_false] <;> exact ⟨_, rfl, rfl⟩
  · exact ⟨_, rfl, rfl⟩
  · exact ⟨_, rfl, rfl⟩
  · exact ⟨_, rfl, rfl⟩
  · by_cases h1 : v ≤ u
    · exact ⟨0, if_pos h1, if_pos h1⟩
    · exact ⟨1, if_neg h1, if_neg h1⟩
  · by_cases h1 : u = v
    · exact ⟨1, if_pos h1, if_pos h1⟩
    · exact ⟨0, if_neg h1, if_neg h1⟩
/-- what a value leaves -/
def VK (T T' s s' : MS) : Prop := T'.1 = T.1 ∧ T'.2 0 = T.2 0 ∧ T'.2 1 = T.2 1 ∧ s'.1 = s.1 ∧ ∀ q, q ≠ 33 → s'.2 q = s.2 q
def vF (n : Nat) (a1 : Int32) (s1 : MS) : ((Int32 × Int32 × MS) → Option (Int32 × MS)) → (Int32 × Int32 × MS) → Option (Int32 × MS) := fun K3 (t2 : Int32 × Int32 × MS) =>
  ck (ib (a1 + 1) 4) <| bn (t2.2.2.2 1 (Int32.toNatClampNeg (a1 + 1))) fun x4 =>
  if x4 ≤ t2.2.1 then (
    if 1 ≤ t2.1 then (
      ck (ib (t2.1 - 1) 160) <| bn (t2.2.2.2 2 (Int32.toNatClampNeg (t2.1 - 1))) fun x7 =>
      some (x7, t2.2.2))
    else (
      some (0, t2.2.2)))
  else (
    ck (ib t2.2.1 160) <| bn (t2.2.2.2 0 (Int32.toNatClampNeg t2.2.1)) fun x8 =>
    jn (fun (t9 : Int32 × MS) =>
      K3 (t9.1, (t2.2.1 + 1), t9.2)) fun K10 =>
    if x8 < 300 then (
      jn (fun (t12 : Unit) =>
        if 1 ≤ t2.1 then (
          ck (ib (t2.1 - 1) 160) <| bn (t2.2.2.2 2 (Int32.toNatClampNeg (t2.1 - 1))) fun x15 =>
          jn (fun (t16 : Int32) =>
            ck (ib (t2.1 - 1) 160) <| bn (ap t2.2.2 2 (Int32.toNatClampNeg (t2.1 - 1)) t16) fun z18 =>
            K10 (t2.1, z18)) fun K17 =>
          if x8 = 259 then (
            K17 (-x15))
          else (
            if x15 = 0 then (
              K17 1)
            else (
              K17 0)))
        else (
          some (0, t2.2.2))) fun K13 =>
      if x8 = 258 then (
        K13 ())
      else (
        if x8 = 259 then (
          K13 ())
        else (
          if 2 ≤ t2.1 then (
            ck (ib ((t2.1 + (-1)) - 1) 160) <| bn (t2.2.2.2 2 (Int32.toNatClampNeg ((t2.1 + (-1)) - 1))) fun x24 =>
            ck (ib (t2.1 + (-1)) 160) <| bn (t2.2.2.2 2 (Int32.toNatClampNeg (t2.1 + (-1)))) fun x25 =>
            cl (f_X5_joined n x8 x24 x25) fun q26 =>
            ck (ib ((t2.1 + (-1)) - 1) 160) <| bn (ap t2.2.2 2 (Int32.toNatClampNeg ((t2.1 + (-1)) - 1)) q26) fun z27 =>
            K10 ((t2.1 + (-1)), z27))
          else (
            some (0, t2.2.2)))))
    else (
      if t2.1 < 160 then (
        jn (fun (t29 : Int32) =>
          ck (ib t2.1 160) <| bn (ap t2.2.2 2 (Int32.toNatClampNeg t2.1) t29) fun z31 =>
          K10 ((t2.1 + 1), z31)) fun K30 =>
        if x8 < 1000 then (
          ck (ib (x8 - 300) 6) <| bn (s1.2 0 (Int32.toNatClampNeg (x8 - 300))) fun x33 =>
          K30 x33)
        else (
          K30 (x8 - 1000)))
      else (
        some (0, t2.2.2))))
def gF (n : Nat) (a1 : Int32) : ((Int32 × Int32 × MS) → Option (Int32 × MS)) → (Int32 × Int32 × MS) → Option (Int32 × MS) := fun K6 (t5 : Int32 × Int32 × MS) =>
  ck (ib ((3 * (t5.2.2.1 22)) + a1) 21) <| bn (t5.2.2.2 25 (Int32.toNatClampNeg ((3 * (t5.2.2.1 22)) + a1))) fun x7 =>
  if ((170 * (t5.2.2.1 22)) + x7) ≤ t5.2.1 then (
    ck (ib 0 170) <| bn (t5.2.2.2 33 (Int32.toNatClampNeg 0)) fun x9 =>
    some (x9, t5.2.2))
  else (
    ck (ib t5.2.1 1190) <| bn (t5.2.2.2 23 (Int32.toNatClampNeg t5.2.1)) fun x10 =>
    jn (fun (t11 : Int32 × MS) =>
      K6 (t11.1, (t5.2.1 + 1), t11.2)) fun K12 =>
    if x10 = 1 then (
      ck (ib t5.2.1 1190) <| bn (t5.2.2.2 24 (Int32.toNatClampNeg t5.2.1)) fun x14 =>
      ck (ib t5.1 170) <| bn (ap t5.2.2 33 (Int32.toNatClampNeg t5.1) x14) fun z15 =>
      K12 ((t5.1 + 1), z15))
    else (
      if x10 = 2 then (
        ck (ib t5.2.1 1190) <| bn (t5.2.2.2 24 (Int32.toNatClampNeg t5.2.1)) fun x16 =>
        ck (ib x16 6) <| bn (t5.2.2.2 34 (Int32.toNatClampNeg x16)) fun x17 =>
        ck (ib t5.1 170) <| bn (ap t5.2.2 33 (Int32.toNatClampNeg t5.1) x17) fun z18 =>
        K12 ((t5.1 + 1), z18))
      else (
        if x10 = 3 then (
          ck (ib (t5.1 - 1) 170) <| bn (t5.2.2.2 33 (Int32.toNatClampNeg (t5.1 - 1))) fun x19 =>
          jn (fun (t20 : Int32) =>
            ck (ib (t5.1 - 1) 170) <| bn (ap t5.2.2 33 (Int32.toNatClampNeg (t5.1 - 1)) t20) fun z22 =>
            K12 (t5.1, z22)) fun K21 =>
          if x19 = 0 then (
            K21 1)
          else (
            K21 0))
        else (
          if x10 = 4 then (
            ck (ib (t5.1 - 1) 170) <| bn (t5.2.2.2 33 (Int32.toNatClampNeg (t5.1 - 1))) fun x24 =>
            ck (ib (t5.1 - 1) 170) <| bn (ap t5.2.2 33 (Int32.toNatClampNeg (t5.1 - 1)) (-x24)) fun z25 =>
            K12 (t5.1, z25))
          else (
            ck (ib t5.2.1 1190) <| bn (t5.2.2.2 23 (Int32.toNatClampNeg t5.2.1)) fun x26 =>
            ck (ib (t5.1 - 2) 170) <| bn (t5.2.2.2 33 (Int32.toNatClampNeg (t5.1 - 2))) fun x27 =>
            ck (ib (t5.1 - 1) 170) <| bn (t5.2.2.2 33 (Int32.toNatClampNeg (t5.1 - 1))) fun x28 =>
            cl (f_X8_twoOf n x26 x27 x28) fun q29 =>
            ck (ib (t5.1 - 2) 170) <| bn (ap t5.2.2 33 (Int32.toNatClampNeg (t5.1 - 2)) q29) fun z30 =>
            K12 ((t5.1 + (-1)), z30))))))
theorem value_lp (n : Nat) (a : Int32) (T N : MS) : f_X5_value n a T N = ck (ib a 4) (bn (T.2 1 a.toNatClampNeg) fun x1 => lp (vF n a N) n (0, x1, T)) := rfl
theorem gives_lp (n : Nat) (a : Int32) (s : MS) (h : ¬ s.1 22 = 0) : f_X8_gives n a s = (if a = 0 then lp (gF n a) n (0, (170 * (s.1 22)) + 0, s) else ck (ib (((3 * (s.1 22)) + a) - 1) 21) (bn (s.2 25 (Int32.toNatClampNeg (((3 * (s.1 22)) + a) - 1))) fun x32 => lp (gF n a) n (0, (170 * (s.1 22)) + x32, s))) := by
  unfold f_X8_gives
  rw [if_neg h]
  rfl
theorem val_text (n : Nat) (hn : 170 ≤ n) (T N s : MS) (t p : Nat) (ht : t ≤ 5) (ht1 : 1 ≤ t) (e22 : s.1 22 = nI t) (hp : p < 3) (hT : TXT T s t) (hf : ∀ i, i < 6 → N.2 0 i = s.2 34 i) : ∃ (v : Int32) (T' s' : MS), f_X5_value n (nI p) T N = some (v, T') ∧ f_X8_gives n (nI p) s = some (v, s') ∧ VK T T' s s' := by
  obtain ⟨lo, hi, hlh, h160, a1, a2, b1, b2, hd, hs⟩ := TXT_part hT hp
  have i1 : ib (nI p) 4 = true := ib_j (by omega) (by omega)
  have i2 : nI p + 1 = nI (p + 1) := (nI_succ p).symm
  have i3 : ib (nI (p + 1)) 4 = true := ib_j (by omega) (by omega)
  have c1 : (nI p).toNatClampNeg = p := nI_clamp (by omega)
  have c2 : (nI (p + 1)).toNatClampNeg = p + 1 := nI_clamp (by omega)
  have j1 : (3 : Int32) * nI t + nI p = nI (3 * t + p) := by rw [show (3 : Int32) = nI 3 from rfl, nI_mu, nI_ad]
  have j2 : (170 : Int32) * nI t + nI hi = nI (170 * t + hi) := by rw [show (170 : Int32) = nI 170 from rfl, nI_mu, nI_ad]
  have j3 : (170 : Int32) * nI t + nI lo = nI (170 * t + lo) := by rw [show (170 : Int32) = nI 170 from rfl, nI_mu, nI_ad]
  have j4 : ib (nI (3 * t + p)) 21 = true := ib_j (by omega) (by omega)
  have j5 : (nI (3 * t + p)).toNatClampNeg = 3 * t + p := nI_clamp (by omega)
  have z0 : (0 : Int32).toInt = 0 := by decide
  have z2 : (2 : Int32).toInt = 2 := by decide
  have z1 : (1 : Int32).toInt = 1 := by decide
  have z300 : (300 : Int32).toInt = 300 := by decide
  have z1000 : (1000 : Int32).toInt = 1000 := by decide
  have z160 : (160 : Int32).toInt = 160 := by decide
  have nz22 : ¬ s.1 22 = 0 := by rw [e22, eq_i, nI_toInt (by omega), z0]; omega
  have hv : f_X5_value n (nI p) T N = lp (vF n (nI p) N) n (0, nI lo, T) := by
    rw [value_lp, i1, ck_t, bn_def, c1, a1]
  have hg : f_X8_gives n (nI p) s = lp (gF n (nI p)) n (0, nI (170 * t + lo), s) := by
    rw [gives_lp n _ s nz22, e22]
    rcases b2 with ⟨q1, q2⟩ | ⟨q1, q2⟩
    · subst q1; subst q2
      rw [if_pos (show nI 0 = 0 from rfl), ← j3]
      rfl
    · have e : (3 : Int32) * nI t + nI p - 1 = nI (3 * t + p - 1) := by rw [j1, nI_pd _ (by omega)]
      rw [if_neg (by rw [eq_i, nI_toInt (by omega), z0]; omega), e, ib_j (by omega) (by omega), ck_t, bn_def, nI_clamp (by omega), q2, j3]
  rw [hv, hg]
  obtain ⟨r, q, ⟨h1, h2⟩, h3, h4⟩ := lp_two (F := vF n (nI p) N) (G := gF n (nI p)) (fun x y => ∃ j d, j ≤ hi - lo ∧ dp (T.2 0) lo j = some d ∧ x.1 = nI d ∧ x.2.1 = nI (lo + j) ∧ y.1 = nI d ∧ y.2.1 = nI (170 * t + (lo + j)) ∧ VK T x.2.2 s y.2.2 ∧ ∀ u, u < d → x.2.2.2 2 u = y.2.2.2 33 u) (fun x => 161 - x.2.1.toNatClampNeg) (fun r q => r.1 = q.1 ∧ VK T r.2 s q.2) (by
    rintro ⟨a, b, T'⟩ ⟨a', b', s'⟩ ⟨j, d, hj, hdp, rfl, rfl, rfl, rfl, ⟨k1, k2, k3, k4, k5⟩, hst⟩
    have k1 : T'.1 = T.1 := k1
    have k2 : T'.2 0 = T.2 0 := k2
    have k3 : T'.2 1 = T.2 1 := k3
    have k4 : s'.1 = s.1 := k4
    have k5 : ∀ q, q ≠ 33 → s'.2 q = s.2 q := k5
    have hst : ∀ u, u < d → T'.2 2 u = s'.2 33 u := hst
    have dj : d ≤ j := by
      obtain ⟨e, h1, h2⟩ := dp_pre hdp j (Nat.le_refl _)
      rw [hdp] at h1
      have := Option.some.inj h1
      omega
    have k22 : s'.1 22 = nI t := by rw [k4, e22]
    have k25 : s'.2 25 = s.2 25 := k5 25 (by decide)
    have k23 : s'.2 23 = s.2 23 := k5 23 (by decide)
    have k24 : s'.2 24 = s.2 24 := k5 24 (by decide)
    have k34 : s'.2 34 = s.2 34 := k5 34 (by decide)
    have dT : (nI d).toInt = (d : Int) := nI_toInt (by omega)
    by_cases he : j = hi - lo
    · subst he
      rw [hd] at hdp
      have hd1 := Option.some.inj hdp
      subst hd1
      have e1 : lo + (hi - lo) = hi := by omega
      refine Or.inr ⟨(T'.2 2 0, T'), (s'.2 33 0, s'), ⟨hst 0 (by omega), k1, k2, k3, k4, k5⟩, fun self => ?_, fun self => ?_⟩
      · unfold vF
        dsimp only
        rw [i2, i3, ck_t, c2, k3, bn_def, a2, e1, if_pos (Int32.le_refl _), if_pos (by decide)]
        rfl
      · unfold gF
        dsimp only
        rw [k22, j1, j4, ck_t, j5, k25, bn_def, b1, j2, e1, if_pos (Int32.le_refl _)]
        rfl
    have hjlt : lo + j < hi := by omega
    obtain ⟨d', hd', hd'j⟩ := dp_pre hd (j + 1) (by omega)
    have hst' := hs (lo + j) hjlt
    have m1 : ¬ nI hi ≤ nI (lo + j) := nI_ge hjlt (by omega)
    have m2 : ib (nI (lo + j)) 160 = true := ib_j (by omega) (by omega)
    have m3 : (nI (lo + j)).toNatClampNeg = lo + j := nI_clamp (by omega)
    have m4 : ¬ nI (170 * t + hi) ≤ nI (170 * t + (lo + j)) := nI_ge (by omega) (by omega)
    have m5 : ib (nI (170 * t + (lo + j))) 1190 = true := ib_j (by omega) (by omega)
    have m6 : (nI (170 * t + (lo + j))).toNatClampNeg = 170 * t + (lo + j) := nI_clamp (by omega)
    have m7 : nI (lo + j) + 1 = nI (lo + (j + 1)) := (nI_succ (lo + j)).symm
    have m8 : nI (170 * t + (lo + j)) + 1 = nI (170 * t + (lo + (j + 1))) := (nI_succ (170 * t + (lo + j))).symm
    have m9 : nI d + 1 = nI (d + 1) := (nI_succ d).symm
    have mm : 161 - (nI (lo + (j + 1))).toNatClampNeg < 161 - (nI (lo + j)).toNatClampNeg := by
      rw [m3, nI_clamp (by omega)]; omega
    rw [dp_s hdp] at hd'
    have fin : ∀ (r : Nat) (w : Int32), r + 1 = d' → r ≤ d → (∀ self, vF n (nI p) N self (nI d, nI (lo + j), T') = self (nI d', nI (lo + (j + 1)), ap T' 2 r w)) → (∀ self, gF n (nI p) self (nI d, nI (170 * t + (lo + j)), s') = self (nI d', nI (170 * t + (lo + (j + 1))), ap s' 33 r w)) → (∃ x' y', (∃ j d, j ≤ hi - lo ∧ dp (T.2 0) lo j = some d ∧ x'.1 = nI d ∧ x'.2.1 = nI (lo + j) ∧ y'.1 = nI d ∧ y'.2.1 = nI (170 * t + (lo + j)) ∧ VK T x'.2.2 s y'.2.2 ∧ ∀ u, u < d → x'.2.2.2 2 u = y'.2.2.2 33 u) ∧ 161 - x'.2.1.toNatClampNeg < 161 - (nI (lo + j)).toNatClampNeg ∧ (∀ self, vF n (nI p) N self (nI d, nI (lo + j), T') = self x') ∧ ∀ self, gF n (nI p) self (nI d, nI (170 * t + (lo + j)), s') = self y') := by
      intro r w hr hrd h1 h2
      refine ⟨(nI d', nI (lo + (j + 1)), ap T' 2 r w), (nI d', nI (170 * t + (lo + (j + 1))), ap s' 33 r w), ⟨j + 1, d', by omega, by rw [dp_s hdp]; exact hd', rfl, rfl, rfl, rfl, ⟨k1, ?_, ?_, k4, fun q hq => ?_⟩, fun u hu => ?_⟩, mm, h1, h2⟩
      · show (ap T' 2 r w).2 0 = _
        funext v; rw [ap2, if_neg (by decide), k2]
      · show (ap T' 2 r w).2 1 = _
        funext v; rw [ap2, if_neg (by decide), k3]
      · show (ap s' 33 r w).2 q = _
        funext v; rw [ap2, if_neg hq, k5 q hq]
      · show (ap T' 2 r w).2 2 u = (ap s' 33 r w).2 33 u
        rw [ap2, if_pos rfl, ap2, if_pos rfl]
        by_cases e : u = r
        · rw [if_pos e, if_pos e]
        · rw [if_neg e, if_neg e]; exact hst u (by omega)
    refine Or.inl ?_
    have pre1 : ∀ self, vF n (nI p) N self (nI d, nI (lo + j), T') = vF n (nI p) N self (nI d, nI (lo + j), T') := fun _ => rfl
    rcases hst' with ⟨g1, g2, g3, g4⟩ | ⟨g1, g2, g3, g4⟩ | ⟨g1, g3⟩ | ⟨g1, g3⟩ | hj5
    · -- a number
      have w1 : ¬ T.2 0 (lo + j) < 300 := by rw [lt_i, z300]; omega
      have w2 : ¬ T.2 0 (lo + j) < 1000 := by rw [lt_i, z1000]; omega
      have w3 : nI d < 160 := by rw [lt_i, dT, z160]; omega
      have w4 : ib (nI d) 160 = true := ib_j (by omega) (by omega)
      have w5 : ib (nI d) 170 = true := ib_j (by omega) (by omega)
      have w6 : (nI d).toNatClampNeg = d := nI_clamp (by omega)
      rw [if_pos (Int32.not_lt.mp w1)] at hd'
      have e := Option.some.inj hd'
      subst e
      refine fin d (T.2 0 (lo + j) - 1000) rfl (Nat.le_refl _) (fun self => ?_) (fun self => ?_)
      · unfold vF
        dsimp only
        rw [i2, i3, ck_t, c2, k3, bn_def, a2, if_neg m1, m2, ck_t, m3, k2, bn_def]
        simp only [jn_def]
        rw [if_neg w1, if_pos w3, if_neg w2, w4, ck_t, bn_def, w6, m9, m7]
      · unfold gF
        dsimp only
        rw [k22, j1, j4, ck_t, j5, k25, bn_def, b1, j2, if_neg m4, m5, ck_t, m6, k23, bn_def]
        simp only [jn_def]
        rw [g3, if_pos rfl, ck_t, bn_def, k24, g4, w5, ck_t, bn_def, w6, m9, m8]
    · -- a name
      have w1 : ¬ T.2 0 (lo + j) < 300 := by rw [lt_i, z300]; omega
      have w2 : T.2 0 (lo + j) < 1000 := by rw [lt_i, z1000]; omega
      have w3 : nI d < 160 := by rw [lt_i, dT, z160]; omega
      have w4 : ib (nI d) 160 = true := ib_j (by omega) (by omega)
      have w5 : ib (nI d) 170 = true := ib_j (by omega) (by omega)
      have w6 : (nI d).toNatClampNeg = d := nI_clamp (by omega)
      have hsub : (T.2 0 (lo + j) - 300).toInt = (T.2 0 (lo + j)).toInt - 300 := by rw [sub_i _ _ (by rw [z300]; omega), z300]
      have w7 : ib (T.2 0 (lo + j) - 300) 6 = true := ib_of (by omega) (by omega)
      have w8 : N.2 0 (T.2 0 (lo + j) - 300).toNatClampNeg = s.2 34 (T.2 0 (lo + j) - 300).toNatClampNeg := hf _ (nn_lt (by omega) (by omega))
      rw [if_pos (Int32.not_lt.mp w1)] at hd'
      have e := Option.some.inj hd'
      subst e
      refine fin d (s.2 34 (T.2 0 (lo + j) - 300).toNatClampNeg) rfl (Nat.le_refl _) (fun self => ?_) (fun self => ?_)
      · unfold vF
        dsimp only
        rw [i2, i3, ck_t, c2, k3, bn_def, a2, if_neg m1, m2, ck_t, m3, k2, bn_def]
        simp only [jn_def]
        rw [if_neg w1, if_pos w3, if_pos w2, w7, ck_t, bn_def, w8, w4, ck_t, bn_def, w6, m9, m7]
      · unfold gF
        dsimp only
        rw [k22, j1, j4, ck_t, j5, k25, bn_def, b1, j2, if_neg m4, m5, ck_t, m6, k23, bn_def]
        simp only [jn_def]
        rw [g3, if_neg (by decide), if_pos rfl, ck_t, bn_def, k24, g4, w7, ck_t, bn_def, w5, ck_t, bn_def, w6, m9, m8, k34]
    · -- not
      rw [g1, if_neg (by decide), if_pos (Or.inl rfl)] at hd'
      by_cases hd1 : 1 ≤ d
      case neg => rw [if_neg hd1] at hd'; cases hd'
      rw [if_pos hd1] at hd'
      have e := Option.some.inj hd'
      subst e
      have w3 : 1 ≤ nI d := by rw [le_i, dT, z1]; omega
      have w4 : ib (nI (d - 1)) 160 = true := ib_j (by omega) (by omega)
      have w5 : ib (nI (d - 1)) 170 = true := ib_j (by omega) (by omega)
      have w6 : (nI (d - 1)).toNatClampNeg = d - 1 := nI_clamp (by omega)
      have w7 := hst (d - 1) (by omega)
      refine fin (d - 1) (if T'.2 2 (d - 1) = 0 then 1 else 0) (by omega) (by omega) (fun self => ?_) (fun self => ?_)
      · unfold vF
        dsimp only
        rw [i2, i3, ck_t, c2, k3, bn_def, a2, if_neg m1, m2, ck_t, m3, k2, bn_def]
        simp only [jn_def]
        rw [if_pos (show T.2 0 (lo + j) < 300 by rw [g1]; decide), if_pos g1, if_pos w3, nI_pd d hd1, w4, ck_t, bn_def, w6, if_neg (show ¬ T.2 0 (lo + j) = 259 by rw [g1]; decide)]
        by_cases hq : T'.2 2 (d - 1) = 0
        · rw [if_pos hq, if_pos hq, ck_t, bn_def, m7]
        · rw [if_neg hq, if_neg hq, ck_t, bn_def, m7]
      · unfold gF
        dsimp only
        rw [k22, j1, j4, ck_t, j5, k25, bn_def, b1, j2, if_neg m4, m5, ck_t, m6, k23, bn_def]
        simp only [jn_def]
        rw [g3, if_neg (by decide), if_neg (by decide), if_pos rfl, nI_pd d hd1, w5, ck_t, bn_def, w6, ← w7]
        by_cases hq : T'.2 2 (d - 1) = 0
        · rw [if_pos hq, if_pos hq, ck_t, bn_def, m8]
        · rw [if_neg hq, if_neg hq, ck_t, bn_def, m8]
    · -- minus ahead of one
      rw [g1, if_neg (by decide), if_pos (Or.inr rfl)] at hd'
      by_cases hd1 : 1 ≤ d
      case neg => rw [if_neg hd1] at hd'; cases hd'
      rw [if_pos hd1] at hd'
      have e := Option.some.inj hd'
      subst e
      have w3 : 1 ≤ nI d := by rw [le_i, dT, z1]; omega
      have w4 : ib (nI (d - 1)) 160 = true := ib_j (by omega) (by omega)
      have w5 : ib (nI (d - 1)) 170 = true := ib_j (by omega) (by omega)
      have w6 : (nI (d - 1)).toNatClampNeg = d - 1 := nI_clamp (by omega)
      have w7 := hst (d - 1) (by omega)
      refine fin (d - 1) (-(T'.2 2 (d - 1))) (by omega) (by omega) (fun self => ?_) (fun self => ?_)
      · unfold vF
        dsimp only
        rw [i2, i3, ck_t, c2, k3, bn_def, a2, if_neg m1, m2, ck_t, m3, k2, bn_def]
        simp only [jn_def]
        rw [if_pos (show T.2 0 (lo + j) < 300 by rw [g1]; decide), if_neg (show ¬ T.2 0 (lo + j) = 258 by rw [g1]; decide), if_pos g1, if_pos w3, nI_pd d hd1, w4, ck_t, bn_def, w6, if_pos g1, ck_t, bn_def, m7]
      · unfold gF
        dsimp only
        rw [k22, j1, j4, ck_t, j5, k25, bn_def, b1, j2, if_neg m4, m5, ck_t, m6, k23, bn_def]
        simp only [jn_def]
        rw [g3, if_neg (by decide), if_neg (by decide), if_neg (by decide), if_pos rfl, nI_pd d hd1, w5, ck_t, bn_def, w6, ← w7, ck_t, bn_def, m8]
    · -- two are joined
      have hx : ∀ x a : Int32, (x = 256 ∧ a = 5) ∨ (x = 257 ∧ a = 6) ∨ ((x = 43 ∨ x = 45 ∨ x = 42 ∨ x = 60 ∨ x = 61) ∧ a = x) → x < 300 ∧ ¬ 300 ≤ x ∧ ¬ x = 258 ∧ ¬ x = 259 ∧ ¬ a = 1 ∧ ¬ a = 2 ∧ ¬ a = 3 ∧ ¬ a = 4 := by
        rintro x a (⟨rfl, rfl⟩ | ⟨rfl, rfl⟩ | ⟨rfl | rfl | rfl | rfl | rfl, rfl⟩) <;> decide
      obtain ⟨x1, x2, x3, x4, x5, x6, x7, x8⟩ := hx _ _ hj5
      rw [if_neg x2, if_neg (by rintro (q | q); exact x3 q; exact x4 q)] at hd'
      by_cases hd1 : 2 ≤ d
      case neg => rw [if_neg hd1] at hd'; cases hd'
      rw [if_pos hd1] at hd'
      have e := Option.some.inj hd'
      subst e
      have w3 : 2 ≤ nI d := by rw [le_i, dT, z2]; omega
      have w4 : ib (nI (d - 1)) 160 = true := ib_j (by omega) (by omega)
      have w5 : ib (nI (d - 1)) 170 = true := ib_j (by omega) (by omega)
      have w6 : (nI (d - 1)).toNatClampNeg = d - 1 := nI_clamp (by omega)
      have w7 := hst (d - 1) (by omega)
      have v3 : nI (d - 1) - 1 = nI (d - 2) := nI_pd (d - 1) (by omega)
      have v4 : ib (nI (d - 2)) 160 = true := ib_j (by omega) (by omega)
      have v5 : ib (nI (d - 2)) 170 = true := ib_j (by omega) (by omega)
      have v6 : (nI (d - 2)).toNatClampNeg = d - 2 := nI_clamp (by omega)
      have v7 := hst (d - 2) (by omega)
      obtain ⟨w, y1, y2⟩ := join_both n _ _ (T'.2 2 (d - 2)) (T'.2 2 (d - 1)) hj5
      refine fin (d - 2) w (by omega) (by omega) (fun self => ?_) (fun self => ?_)
      · unfold vF
        dsimp only
        rw [i2, i3, ck_t, c2, k3, bn_def, a2, if_neg m1, m2, ck_t, m3, k2, bn_def]
        simp only [jn_def]
        rw [if_pos x1, if_neg x3, if_neg x4, if_pos w3, nI_dc d (by omega), v3, v4, ck_t, bn_def, v6, w4, ck_t, bn_def, w6, y1, cl_some, ck_t, bn_def, m7]
      · unfold gF
        dsimp only
        rw [k22, j1, j4, ck_t, j5, k25, bn_def, b1, j2, if_neg m4, m5, ck_t, m6, k23, bn_def]
        simp only [jn_def]
        rw [if_neg x5, if_neg x6, if_neg x7, if_neg x8, ck_t, bn_def, nI_pd2 d hd1, v5, ck_t, bn_def, v6, nI_pd d (by omega), w5, ck_t, bn_def, w6, ← v7, ← w7, y2, cl_some, ck_t, bn_def, nI_dc d (by omega), m8]) n n (0, nI lo, T) (0, nI (170 * t + lo), s) ⟨0, 0, by omega, rfl, rfl, rfl, rfl, rfl, ⟨rfl, rfl, rfl, rfl, fun _ _ => rfl⟩, fun u hu => absurd hu (Nat.not_lt_zero _)⟩ (by show 161 - (nI lo).toNatClampNeg < n; omega) (by show 161 - (nI lo).toNatClampNeg < n; omega)
  exact ⟨r.1, r.2, q.2, h3, by rw [h4, h1], h2⟩
