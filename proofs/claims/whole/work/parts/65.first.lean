-- THE DAY: who is first
theorem neg_i (x : Int32) (h : -2 ^ 31 < x.toInt) : (-x).toInt = -x.toInt := by
  have := rng x
  rw [Int32.toInt_neg]
  unfold Int.bmod
  simp only [Int.reducePow] at h this ⊢
  split <;> omega
def AH (rk : Nat → Int32) (a ta b tb : Nat) : Prop := (rk a).toInt < (rk b).toInt ∨ ((rk a).toInt = (rk b).toInt ∧ (ta < tb ∨ (ta = tb ∧ a < b)))
/-- the order of those who ride, as the reference says it -/
def ORD (B : MS) (K : Nat) (rk : Nat → Int32) (o : Int32) : Prop := (o = 1 ∧ ∀ i, i < K → rk i = -(B.2 3 i)) ∨ (o = 2 ∧ ∀ i, i < K → rk i = nI i) ∨ (o = 0 ∧ ∀ i, i < K → rk i = 0)
theorem le_nI {a b : Nat} (ha : a < 1000) (hb : b < 1000) : (nI a ≤ nI b) = (a ≤ b) := by
  rw [le_i, nI_toInt (by omega), nI_toInt (by omega)]
  exact propext ⟨fun h => by omega, fun h => by omega⟩
theorem eq_nI {a b : Nat} (ha : a < 1000) (hb : b < 1000) : (nI a = nI b) = (a = b) := by
  rw [eq_i, nI_toInt (by omega), nI_toInt (by omega)]
  exact propext ⟨fun h => by omega, fun h => by omega⟩
theorem m_ahead (n : Nat) (B s : MS) (K : Nat) (rk : Nat → Int32) (o : Int32) (hK : K ≤ 6) (ho : ORD B K rk o) (hf : ∀ i, i < K → IR (B.2 3 i) 0 40) (h3 : s.2 3 = B.2 3) (a ta b tb : Nat) (ha : a < K) (hb : b < K) (hta : ta < 120) (htb : tb < 120) : ∃ r, f_X8_isAhead n o (nI a) (nI ta) (nI b) (nI tb) s = some r ∧ ((r = 1 ∧ AH rk a ta b tb) ∨ (r = 0 ∧ ¬ AH rk a ta b tb)) := by
  have z0 : (0 : Int32).toInt = 0 := by decide
  have aT : (nI a).toInt = (a : Int) := nI_toInt (by omega)
  have bT : (nI b).toInt = (b : Int) := nI_toInt (by omega)
  have K4 : (rk a).toInt = (rk b).toInt → ∃ r, (if nI ta = nI tb then (if nI b ≤ nI a then ck (isz 0) <| some (0 : Int32) else ck (isz 1) <| some 1) else (if nI tb ≤ nI ta then ck (isz 0) <| some 0 else ck (isz 1) <| some 1)) = some r ∧ ((r = 1 ∧ AH rk a ta b tb) ∨ (r = 0 ∧ ¬ AH rk a ta b tb)) := by
    intro hr
    unfold AH
    simp only [eq_nI (show ta < 1000 by omega) (show tb < 1000 by omega), le_nI (show b < 1000 by omega) (show a < 1000 by omega), le_nI (show tb < 1000 by omega) (show ta < 1000 by omega)]
    by_cases h1 : ta = tb
    · rw [if_pos h1]
      by_cases h2 : b ≤ a
      · rw [if_pos h2]; exact ⟨0, rfl, Or.inr ⟨rfl, by omega⟩⟩
      · rw [if_neg h2]; exact ⟨1, rfl, Or.inl ⟨rfl, by omega⟩⟩
    · rw [if_neg h1]
      by_cases h2 : tb ≤ ta
      · rw [if_pos h2]; exact ⟨0, rfl, Or.inr ⟨rfl, by omega⟩⟩
      · rw [if_neg h2]; exact ⟨1, rfl, Or.inl ⟨rfl, by omega⟩⟩
  unfold f_X8_isAhead
  simp only [jn_def]
  rcases ho with ⟨rfl, hk⟩ | ⟨rfl, hk⟩ | ⟨rfl, hk⟩
  · have ra := hk a ha
    have rb := hk b hb
    have fa := hf a ha
    have fb := hf b hb
    have na := neg_i (B.2 3 a) (by have := fa.1; omega)
    have nb := neg_i (B.2 3 b) (by have := fb.1; omega)
    rw [if_pos rfl, ib_j (by omega) (by omega), ck_t, bn_def, ib_j (by omega) (by omega), ck_t, bn_def, nI_clamp (by omega), nI_clamp (by omega), ck_t, bn_def, ck_t, bn_def, h3]
    by_cases h1 : B.2 3 a = B.2 3 b
    · rw [if_pos h1, if_neg (by decide)]
      exact K4 (by rw [ra, rb, h1])
    · rw [if_neg h1]
      rw [eq_i] at h1
      by_cases h2 : B.2 3 a ≤ B.2 3 b
      · rw [if_pos h2]
        rw [le_i] at h2
        refine ⟨0, rfl, Or.inr ⟨rfl, ?_⟩⟩
        unfold AH
        rw [ra, rb, na, nb]
        omega
      · rw [if_neg h2]
        rw [le_i] at h2
        refine ⟨1, rfl, Or.inl ⟨rfl, ?_⟩⟩
        unfold AH
        rw [ra, rb, na, nb]
        omega
  · have ra := hk a ha
    have rb := hk b hb
    rw [if_neg (by decide), if_pos rfl]
    simp only [eq_nI (show a < 1000 by omega) (show b < 1000 by omega)]
    by_cases h1 : a = b
    · rw [if_pos h1]
      exact K4 (by rw [ra, rb, h1])
    · rw [if_neg h1]
      have e := le_nI (show b < 1000 by omega) (show a < 1000 by omega)
      by_cases h2 : b ≤ a
      · rw [if_pos (by rw [e]; exact h2)]
        refine ⟨0, rfl, Or.inr ⟨rfl, ?_⟩⟩
        unfold AH
        rw [ra, rb, aT, bT]
        omega
      · rw [if_neg (by rw [e]; exact h2)]
        refine ⟨1, rfl, Or.inl ⟨rfl, ?_⟩⟩
        unfold AH
        rw [ra, rb, aT, bT]
        omega
  · rw [if_neg (by decide), if_neg (by decide)]
    exact K4 (by rw [hk a ha, hk b hb])
theorem c_ahead (n : Nat) (D : MS) (rk : Nat → Int32) (h2 : D.2 2 = rk) (a b oa ob : Nat) (ha : a < 6) (hb : b < 6) (h6a : D.2 6 a = nI oa) (h6b : D.2 6 b = nI ob) (hoa : oa < 1000) (hob : ob < 1000) : ∃ r, f_X1_isAhead n (nI a) (nI b) D = some r ∧ ((r = 1 ∧ ((rk a).toInt < (rk b).toInt ∨ ((rk a).toInt = (rk b).toInt ∧ oa < ob))) ∨ (r = 0 ∧ ¬ ((rk a).toInt < (rk b).toInt ∨ ((rk a).toInt = (rk b).toInt ∧ oa < ob)))) := by
  unfold f_X1_isAhead
  rw [ib_j ha (by omega), ck_t, bn_def, ib_j hb (by omega), ck_t, bn_def, nI_clamp (by omega), nI_clamp (by omega), ck_t, bn_def, ck_t, bn_def, ck_t, bn_def, ck_t, bn_def, h2, h6a, h6b]
  by_cases h1 : rk a = rk b
  · rw [if_pos h1]
    have e := le_nI (show ob < 1000 by omega) (show oa < 1000 by omega)
    rw [h1]
    by_cases h3 : ob ≤ oa
    · rw [if_pos (by rw [e]; exact h3)]; exact ⟨0, rfl, Or.inr ⟨rfl, by omega⟩⟩
    · rw [if_neg (by rw [e]; exact h3)]; exact ⟨1, rfl, Or.inl ⟨rfl, by omega⟩⟩
  · rw [if_neg h1]
    rw [eq_i] at h1
    by_cases h3 : rk b ≤ rk a
    · rw [if_pos h3]
      rw [le_i] at h3
      exact ⟨0, rfl, Or.inr ⟨rfl, by omega⟩⟩
    · rw [if_neg h3]
      rw [le_i] at h3
      exact ⟨1, rfl, Or.inl ⟨rfl, by omega⟩⟩
theorem find_o (c : Nat → Int32) (M : Nat) : ∀ d o, o + d = M → ∃ q, o ≤ q ∧ q ≤ M ∧ (∀ t, o ≤ t → t < q → c t = 0) ∧ (q = M ∨ ¬ c q = 0) := by
  intro d
  induction d with
  | zero => intro o h; exact ⟨o, Nat.le_refl _, by omega, fun t h1 h2 => by omega, Or.inl (by omega)⟩
  | succ d ih =>
    intro o h
    by_cases h0 : c o = 0
    · obtain ⟨q, h1, h2, h3, h4⟩ := ih (o + 1) (by omega)
      refine ⟨q, by omega, h2, fun t g1 g2 => ?_, h4⟩
      by_cases e : t = o
      · rw [e]; exact h0
      · exact h3 t (by omega) g2
    · exact ⟨o, Nat.le_refl _, by omega, fun t h1 h2 => by omega, Or.inr h0⟩
def foE (n : Nat) (a2 : Int32) (K2 : (Int32 × Int32 × MS) → Option (Int32 × MS)) (best idx : Int32) (x : MS) : Option (Int32 × MS) :=
  ck (ib idx 6) (bn (x.2 6 (Int32.toNatClampNeg idx)) fun x9 => if a2 < x9 then K2 (best, idx + 1, x) else if best = (-1) then K2 (idx, idx + 1, x) else cl (f_X1_isAhead n idx best x) fun q16 => if q16 = 0 then K2 (best, idx + 1, x) else K2 (idx, idx + 1, x))
theorem foI_eq (n : Nat) (a2 : Int32) (K2 : (Int32 × Int32 × MS) → Option (Int32 × MS)) (best idx : Int32) (x0 : MS) (K5 : MS → Option (Int32 × MS)) (x : MS) : foI n a2 K2 (best, idx, x0) K5 x = ck (ib idx 6) (bn (x.2 6 (Int32.toNatClampNeg idx)) fun x6 => if a2 < x6 then foE n a2 K2 best idx x else ck (ib idx 6) (ck (ib idx 6) (bn (x.2 6 (Int32.toNatClampNeg idx)) fun x20 => ck (ib x20 120) (bn (x.2 (20 + Int32.toNatClampNeg idx) (Int32.toNatClampNeg x20)) fun x21 => if x21 = 0 then ck (ib idx 6) (bn (x.2 6 (Int32.toNatClampNeg idx)) fun x23 => ck (ib idx 6) (bn (ap x 6 (Int32.toNatClampNeg idx) (x23 + 1)) fun z24 => K5 z24)) else foE n a2 K2 best idx x)))) := rfl
theorem foF_eq (n : Nat) (a1 a2 : Int32) (self : (Int32 × Int32 × MS) → Option (Int32 × MS)) (best idx : Int32) (x : MS) : foF n a1 a2 self (best, idx, x) = (if a1 ≤ idx then some (best, x) else lp (foI n a2 self (best, idx, x)) n x) := rfl
theorem fo_inner (n : Nat) (hn : 200 ≤ n) (best : Int32) (j m o q : Nat) (hj : j < 6) (hm : m < 120) (x0 : MS) (h6 : x0.2 6 j = nI o) (hoq : o ≤ q) (hq : q ≤ m + 1) (hz : ∀ t, o ≤ t → t < q → x0.2 (20 + j) t = 0) (he : q = m + 1 ∨ ¬ x0.2 (20 + j) q = 0) : ∃ x, (x.1 = x0.1 ∧ (∀ k, k ≠ 6 → x.2 k = x0.2 k) ∧ ∀ i, x.2 6 i = if i = j then nI q else x0.2 6 i) ∧ ∀ K2, lp (foI n (nI m) K2 (best, nI j, x0)) n x0 = foE n (nI m) K2 best (nI j) x := by
  obtain ⟨x, ⟨hI1, hI2, hI3⟩, hx⟩ := lp_to (F := fun K2 => foI n (nI m) K2 (best, nI j, x0)) (q - o) (fun d x => x.1 = x0.1 ∧ (∀ k, k ≠ 6 → x.2 k = x0.2 k) ∧ ∀ i, x.2 6 i = if i = j then nI (o + d) else x0.2 6 i) (fun K2 x => foE n (nI m) K2 best (nI j) x) (by
    rintro d x hd ⟨y1, y2, y3⟩
    have hlt : ¬ nI m < nI (o + d) := by rw [lt_i, nI_toInt (by omega), nI_toInt (by omega)]; omega
    refine ⟨ap x 6 j (nI (o + d) + 1), ⟨y1, fun k hk => ?_, fun i => ?_⟩, fun K2 self => ?_⟩
    · funext u; rw [ap2, if_neg hk, y2 k hk]
    · rw [ap2, if_pos rfl, ← nI_succ]
      by_cases e : i = j
      · rw [if_pos e, if_pos e]; rfl
      · rw [if_neg e, if_neg e, y3, if_neg e]
    · rw [foI_eq, ib_j hj (by omega), ck_t, bn_def, nI_clamp (by omega), y3, if_pos rfl, if_neg hlt, ck_t, ck_t, bn_def, ib_j (by omega) (by omega), ck_t, bn_def, nI_clamp (by omega), y2 _ (by omega), hz (o + d) (by omega) (by omega), if_pos rfl, ck_t, bn_def, ck_t, bn_def]) (by
    rintro x ⟨y1, y2, y3⟩ K2 self
    rw [show o + (q - o) = q by omega] at y3
    rw [foI_eq, ib_j hj (by omega), ck_t, bn_def, nI_clamp (by omega), y3, if_pos rfl]
    by_cases hqm : q = m + 1
    · rw [if_pos (by rw [lt_i, nI_toInt (by omega), nI_toInt (by omega)]; omega)]
    · have hlt : ¬ nI m < nI q := by rw [lt_i, nI_toInt (by omega), nI_toInt (by omega)]; omega
      rw [if_neg hlt, ck_t, ck_t, bn_def, ib_j (by omega) (by omega), ck_t, bn_def, nI_clamp (by omega), y2 _ (by omega), if_neg (he.resolve_left hqm)]) n (by omega) x0 ⟨rfl, fun _ _ => rfl, fun i => by
      by_cases e : i = j
      · rw [if_pos e, e, h6]; rfl
      · rw [if_neg e]⟩
  rw [show o + (q - o) = q by omega] at hI3
  exact ⟨x, ⟨hI1, hI2, hI3⟩, hx⟩
/-- the class's first ones -/
theorem c_first (n : Nat) (hn : 200 ≤ n) (K m : Nat) (hK : K ≤ 6) (hm : m < 120) (rk : Nat → Int32) (D : MS) (h2 : D.2 2 = rk) (ho : ∀ i, i < K → ∃ o : Nat, D.2 6 i = nI o ∧ o ≤ m + 1 ∧ ∀ t, t < o → t < 120 → D.2 (20 + i) t = 0) : ∃ (b : Int32) (D' : MS) (o : Nat → Nat), f_X1_firstOnes n (nI K) (nI m) D = some (b, D') ∧ D'.1 = D.1 ∧ (∀ k, k ≠ 6 → D'.2 k = D.2 k) ∧ (∀ i, i < K → D'.2 6 i = nI (o i) ∧ o i ≤ m + 1 ∧ (∀ t, t < o i → t < 120 → D.2 (20 + i) t = 0) ∧ (o i = m + 1 ∨ ¬ D.2 (20 + i) (o i) = 0)) ∧ ((b = -1 ∧ ∀ i, i < K → o i = m + 1) ∨ ∃ bi, bi < K ∧ b = nI bi ∧ o bi ≤ m ∧ ∀ i, i < K → o i ≤ m → i ≠ bi → ¬ AH rk i (o i) bi (o bi)) := by
  obtain ⟨x, ⟨-, o, q1, q2, q3, q4, q5⟩, hx⟩ := lp_to (F := fun (_ : Unit) => foF n (nI K) (nI m)) K (fun j x => x.2.1 = nI j ∧ ∃ o : Nat → Nat, x.2.2.1 = D.1 ∧ (∀ k, k ≠ 6 → x.2.2.2 k = D.2 k) ∧ (∀ i, i < K → x.2.2.2 6 i = nI (o i) ∧ o i ≤ m + 1 ∧ (∀ t, t < o i → t < 120 → D.2 (20 + i) t = 0)) ∧ (∀ i, i < j → (o i = m + 1 ∨ ¬ D.2 (20 + i) (o i) = 0)) ∧ ((x.1 = -1 ∧ ∀ i, i < j → o i = m + 1) ∨ ∃ bi, bi < j ∧ x.1 = nI bi ∧ o bi ≤ m ∧ ∀ i, i < j → o i ≤ m → i ≠ bi → ¬ AH rk i (o i) bi (o bi))) (fun _ x => some (x.1, x.2.2)) (by
    rintro j ⟨b, c, x⟩ hj ⟨rfl, o, y1, y2, y3, y4, y5⟩
    have y1 : x.1 = D.1 := y1
    have y2 : ∀ k, k ≠ 6 → x.2 k = D.2 k := y2
    have y3 : ∀ i, i < K → x.2 6 i = nI (o i) ∧ o i ≤ m + 1 ∧ (∀ t, t < o i → t < 120 → D.2 (20 + i) t = 0) := y3
    have y5 : (b = -1 ∧ ∀ i, i < j → o i = m + 1) ∨ ∃ bi, bi < j ∧ b = nI bi ∧ o bi ≤ m ∧ ∀ i, i < j → o i ≤ m → i ≠ bi → ¬ AH rk i (o i) bi (o bi) := y5
    obtain ⟨z1, z2, z3⟩ := y3 j hj
    obtain ⟨q, w1, w2, w3, w4⟩ := find_o (D.2 (20 + j)) (m + 1) (m + 1 - o j) (o j) (by omega)
    obtain ⟨x', ⟨u1, u2, u3⟩, hi⟩ := fo_inner n hn b j m (o j) q (by omega) hm x z1 w1 w2 (fun t g1 g2 => by rw [y2 _ (by omega)]; exact w3 t g1 g2) (by rw [y2 _ (by omega)]; exact w4)
    have st : ∀ self, foF n (nI K) (nI m) self (b, nI j, x) = foE n (nI m) self b (nI j) x' := fun self => by
      rw [foF_eq, if_neg (nI_ge hj (by omega)), hi]
    have e6 : x'.2 6 j = nI q := by rw [u3, if_pos rfl]
    have hE : ∀ self, foE n (nI m) self b (nI j) x' = (if nI m < nI q then self (b, nI (j + 1), x') else if b = (-1) then self (nI j, nI (j + 1), x') else cl (f_X1_isAhead n (nI j) b x') fun q16 => if q16 = 0 then self (b, nI (j + 1), x') else self (nI j, nI (j + 1), x')) := fun self => by
      unfold foE
      rw [ib_j (by omega) (by omega), ck_t, bn_def, nI_clamp (by omega), e6, ← nI_succ]
    have pk : ∀ b' : Int32, ((b' = -1 ∧ ∀ i, i < j + 1 → (if i = j then q else o i) = m + 1) ∨ ∃ bi, bi < j + 1 ∧ b' = nI bi ∧ (if bi = j then q else o bi) ≤ m ∧ ∀ i, i < j + 1 → (if i = j then q else o i) ≤ m → i ≠ bi → ¬ AH rk i (if i = j then q else o i) bi (if bi = j then q else o bi)) → (nI (j + 1) = nI (j + 1) ∧ ∃ o : Nat → Nat, x'.1 = D.1 ∧ (∀ k, k ≠ 6 → x'.2 k = D.2 k) ∧ (∀ i, i < K → x'.2 6 i = nI (o i) ∧ o i ≤ m + 1 ∧ (∀ t, t < o i → t < 120 → D.2 (20 + i) t = 0)) ∧ (∀ i, i < j + 1 → (o i = m + 1 ∨ ¬ D.2 (20 + i) (o i) = 0)) ∧ ((b' = -1 ∧ ∀ i, i < j + 1 → o i = m + 1) ∨ ∃ bi, bi < j + 1 ∧ b' = nI bi ∧ o bi ≤ m ∧ ∀ i, i < j + 1 → o i ≤ m → i ≠ bi → ¬ AH rk i (o i) bi (o bi))) := by
      intro b' hb'
      refine ⟨rfl, fun i => if i = j then q else o i, u1.trans y1, fun k hk => (u2 k hk).trans (y2 k hk), fun i hi => ?_, fun i hi => ?_, hb'⟩
      · dsimp only
        rw [u3]
        by_cases e : i = j
        · subst e
          rw [if_pos rfl, if_pos rfl]
          refine ⟨rfl, w2, fun t h1 h2 => ?_⟩
          by_cases h3 : t < o i
          · exact z3 t h3 h2
          · exact w3 t (by omega) h1
        · rw [if_neg e, if_neg e]; exact y3 i hi
      · by_cases e : i = j
        · subst e
          dsimp only
          rw [if_pos rfl]; exact w4
        · dsimp only
          rw [if_neg e]; exact y4 i (by omega)
    by_cases hqm : q = m + 1
    · have hlt : nI m < nI q := by rw [lt_i, nI_toInt (by omega), nI_toInt (by omega)]; omega
      refine ⟨(b, nI (j + 1), x'), pk b ?_, fun _ self => by rw [st, hE, if_pos hlt]⟩
      rcases y5 with ⟨g1, g2⟩ | ⟨bi, g1, g2, g3, g4⟩
      · refine Or.inl ⟨g1, fun i hi => ?_⟩
        by_cases e : i = j
        · rw [if_pos e]; exact hqm
        · rw [if_neg e]; exact g2 i (by omega)
      · refine Or.inr ⟨bi, by omega, g2, by rw [if_neg (by omega)]; exact g3, fun i hi h1 h2 => ?_⟩
        by_cases e : i = j
        · rw [if_pos e] at h1; omega
        · rw [if_neg e] at h1
          rw [if_neg e, if_neg (by omega)]
          exact g4 i (by omega) h1 h2
    · have hlt : ¬ nI m < nI q := by rw [lt_i, nI_toInt (by omega), nI_toInt (by omega)]; omega
      rcases y5 with ⟨g1, g2⟩ | ⟨bi, g1, g2, g3, g4⟩
      · refine ⟨(nI j, nI (j + 1), x'), pk (nI j) (Or.inr ⟨j, by omega, rfl, by rw [if_pos rfl]; omega, fun i hi h1 h2 => ?_⟩), fun _ self => by rw [st, hE, if_neg hlt, if_pos g1]⟩
        rw [if_neg h2] at h1
        have := g2 i (by omega)
        omega
      · have hne : ¬ b = -1 := by rw [g2, eq_i, nI_toInt (by omega), show (-1 : Int32).toInt = -1 by decide]; omega
        obtain ⟨r, r1, r2⟩ := c_ahead n x' rk (by rw [u2 2 (by decide), y2 2 (by decide), h2]) j bi q (o bi) (by omega) (by omega) e6 (by rw [u3, if_neg (by omega)]; exact (y3 bi (by omega)).1) (by omega) (by omega)
        rw [← g2] at r1
        rcases r2 with ⟨rfl, r3⟩ | ⟨rfl, r3⟩
        · refine ⟨(nI j, nI (j + 1), x'), pk (nI j) (Or.inr ⟨j, by omega, rfl, by rw [if_pos rfl]; omega, fun i hi h1 h2 => ?_⟩), fun _ self => by rw [st, hE, if_neg hlt, if_neg hne, r1, cl_some, if_neg (by decide)]⟩
          rw [if_neg h2] at h1
          rw [if_neg h2, if_pos rfl]
          by_cases e : i = bi
          · subst e
            unfold AH
            omega
          · have := g4 i (by omega) h1 e
            unfold AH at this ⊢
            omega
        · refine ⟨(b, nI (j + 1), x'), pk b (Or.inr ⟨bi, by omega, g2, by rw [if_neg (by omega)]; exact g3, fun i hi h1 h2 => ?_⟩), fun _ self => by rw [st, hE, if_neg hlt, if_neg hne, r1, cl_some, if_pos rfl]⟩
          by_cases e : i = j
          · subst e
            rw [if_pos rfl, if_neg (by omega)]
            unfold AH
            omega
          · rw [if_neg e] at h1
            rw [if_neg e, if_neg (by omega)]
            exact g4 i (by omega) h1 h2) (by
    rintro ⟨b, c, x⟩ ⟨rfl, -⟩ _ self
    rw [foF_eq, if_pos (Int32.le_refl _)]) n (by omega) (-1, 0, D) ⟨rfl, by
      obtain ⟨o, hoo⟩ : ∃ o : Nat → Nat, ∀ i, i < K → D.2 6 i = nI (o i) ∧ o i ≤ m + 1 ∧ ∀ t, t < o i → t < 120 → D.2 (20 + i) t = 0 := by
        refine ⟨fun i => (D.2 6 i).toNatClampNeg, fun i hi => ?_⟩
        obtain ⟨p, p1, p2, p3⟩ := ho i hi
        have : (D.2 6 i).toNatClampNeg = p := by rw [p1, nI_clamp (by omega)]
        dsimp only
        rw [this]
        exact ⟨p1, p2, p3⟩
      exact ⟨o, rfl, fun _ _ => rfl, hoo, fun i hi => absurd hi (Nat.not_lt_zero _), Or.inl ⟨rfl, fun i hi => absurd hi (Nat.not_lt_zero _)⟩⟩⟩
  exact ⟨x.1, x.2.2, o, hx (), q1, q2, fun i hi => ⟨(q3 i hi).1, (q3 i hi).2.1, (q3 i hi).2.2, q4 i hi⟩, q5⟩
