-- THE DAY: who goes
/-- the text in force, its steps as they were -/
def TEQ (T0 T : MS) : Prop := T.1 = T0.1 ∧ T.2 0 = T0.2 0 ∧ T.2 1 = T0.2 1
theorem TXT_eq {T0 T s s' : MS} {t : Nat} (h : TXT T0 s t) (ht : TEQ T0 T) (h23 : s'.2 23 = s.2 23) (h24 : s'.2 24 = s.2 24) (h25 : s'.2 25 = s.2 25) : TXT T s' t := by
  unfold TXT at *
  rw [ht.2.1, ht.2.2, h23, h24, h25]
  exact h
theorem TOK_eq {t0 T0 T s s' : MS} (h : TOK t0 T0 s) (ht : TEQ T0 T) (h22 : s'.1 22 = s.1 22) (h23 : s'.2 23 = s.2 23) (h24 : s'.2 24 = s.2 24) (h25 : s'.2 25 = s.2 25) : TOK t0 T s' := by
  rcases h with ⟨a1, a2, a3⟩ | ⟨t, a1, a2, a3, a4⟩
  · exact Or.inl ⟨by rw [h22, a1], by rw [ht.2.1, a2], by rw [ht.2.2, a3]⟩
  · exact Or.inr ⟨t, a1, a2, by rw [h22, a3], TXT_eq a4 ht h23 h24 h25⟩
theorem TOK_da {t0 T0 T s s' : MS} (h : TOK t0 T0 s) (ht : TEQ T0 T) (g : DA s s') : TOK t0 T s' := TOK_eq h ht (g.1 22 (by decide) (by decide)) (g.2 23 (by omega)) (g.2 24 (by omega)) (g.2 25 (by omega))
/-- what stands fast over a day: B is the reference's state as the day begins -/
def DCX (n : Nat) (t0 T0 h B : MS) (w : Int32) (K E : Nat) (ca as : Nat → Int32) : Prop :=
  RHill h B ∧ B.1 1 = nI K ∧ K ≤ 6 ∧ B.1 15 = nI E ∧ E ≤ 120 ∧ T0OK t0 ∧ TOK t0 T0 B ∧ ∀ m, m < E → f_X8_calls n w (nI m) B = some (ca m) ∧ f_X8_asks n w (nI m) B = some (as m)
def SPI (A DS T0 : MS) (K m j : Nat) (D T s : MS) : Prop :=
  TEQ T0 T ∧ (∀ k, k ≠ 9 → D.1 k = DS.1 k) ∧ (∀ k, k ≠ 4 → ¬ (20 ≤ k ∧ k < 26) → D.2 k = DS.2 k) ∧
  s.1 = A.1 ∧ (∀ q, q ≠ 33 → q ≠ 34 → q ≠ 37 → q ≠ 38 → s.2 q = A.2 q) ∧
  (∀ i, i < K → D.2 4 i = s.2 37 i ∧ IR (s.2 37 i) 0 400) ∧
  (∀ i, i < K → ∀ t, t < m → D.2 (20 + i) t = DS.2 (20 + i) t) ∧
  (∀ i, i < K → ∀ t, m ≤ t → t < 120 → D.2 (20 + i) t = s.2 38 (160 * i + t)) ∧
  (∀ i, i < K → ∀ t, m + (A.2 3 i).toNatClampNeg + (if i < j then 1 else 0) ≤ t → t < 160 → s.2 38 (160 * i + t) = 0) ∧
  (∀ i, i < K → ∀ t, t < 160 → IR (s.2 38 (160 * i + t)) 0 400) ∧
  D.1 9 = DS.1 9 + sumI (fun i => s.2 38 (160 * i + m)) j
theorem spF_eq (n : Nat) (a3 : Int32) (s0 s2 : MS) (K2 : (Int32 × MS × MS × MS) → Option (MS × MS × MS)) (t1 : Int32 × MS × MS × MS) : spF n a3 s0 s2 K2 t1 = (if (s2.1 0) ≤ t1.1 then some (t1.2.1, t1.2.2.1, t1.2.2.2) else ck (ib t1.1 6) (bn (t1.2.1.2 4 (Int32.toNatClampNeg t1.1)) fun x4 => if x4 = 0 then spK n a3 s2 K2 t1 (0, t1.2.1, t1.2.2.1, t1.2.2.2) else cl (f_X1_goingOf n t1.1 a3 (s0.1 9) t1.2.1 t1.2.2.1 s2 t1.2.2.2) fun q20 => spK n a3 s2 K2 t1 (q20.1, t1.2.1, q20.2.1, q20.2.2))) := rfl
/-- where those who go come to the platform -/
theorem spK_eq (n m j fr : Nat) (h D : MS) (g : Int32) (hj : j < 6) (hm : m < 120) (hf : h.2 2 j = nI fr) (hfr : fr ≤ 40) : ∃ D', (∀ (N T D1 N1 T1 : MS) (K2 : (Int32 × MS × MS × MS) → Option (MS × MS × MS)), spK n (nI m) h K2 (nI j, D1, N1, T1) (g, D, N, T) = K2 (nI (j + 1), D', N, T)) ∧ (∀ k, k ≠ 9 → D'.1 k = D.1 k) ∧ (∀ k, k ≠ 4 → k ≠ 20 + j → D'.2 k = D.2 k) ∧ (∀ i, D'.2 4 i = if i = j then D.2 4 j - g else D.2 4 i) ∧ (∀ t, t < 120 → D'.2 (20 + j) t = if t = m + fr then g else D.2 (20 + j) t) ∧ D'.1 9 = D.1 9 + D'.2 (20 + j) m := by
  by_cases hc : m + fr < 120
  · refine ⟨sp (ap (ap D 4 j (D.2 4 j - g)) (20 + j) (m + fr) g) 9 (D.1 9 + (ap (ap D 4 j (D.2 4 j - g)) (20 + j) (m + fr) g).2 (20 + j) m), fun N T D1 N1 T1 K2 => ?_, fun k hk => ?_, fun k h1 h2 => ?_, fun i => ?_, fun t ht => ?_, ?_⟩
    · unfold spK
      dsimp only
      rw [ib_j hj (by omega), ib_j hm (by omega), ck_t, nI_clamp (by omega), nI_clamp (by omega), bn_def, hf, bn_def, ck_t, bn_def, ck_t, bn_def, nI_ad]
      simp only [jn_def, ck_t, bn_def]
      rw [if_neg (lge 120 120 rfl hc (by omega)), ib_j hc (by omega), ck_t, nI_clamp (by omega), nI_succ]
      rfl
    · rw [sp1, if_neg hk, ap1, ap1]
    · funext u; rw [sp2, ap2, if_neg h2, ap2, if_neg h1]
    · rw [sp2, ap2, if_neg (by omega), ap2, if_pos rfl]
    · rw [sp2, ap2, if_pos rfl]
      by_cases e : t = m + fr
      · rw [if_pos e, if_pos e]
      · rw [if_neg e, if_neg e, ap2, if_neg (by omega)]
    · rw [sp1, if_pos rfl, sp2]
  · have hc' : (120 : Int32) ≤ nI (m + fr) := by rw [le_i, nI_toInt (by omega), show (120 : Int32).toInt = 120 by decide]; omega
    refine ⟨sp (ap D 4 j (D.2 4 j - g)) 9 (D.1 9 + (ap D 4 j (D.2 4 j - g)).2 (20 + j) m), fun N T D1 N1 T1 K2 => ?_, fun k hk => ?_, fun k h1 h2 => ?_, fun i => ?_, fun t ht => ?_, ?_⟩
    · unfold spK
      dsimp only
      rw [ib_j hj (by omega), ib_j hm (by omega), ck_t, nI_clamp (by omega), nI_clamp (by omega), bn_def, hf, bn_def, ck_t, bn_def, ck_t, bn_def, nI_ad]
      simp only [jn_def, ck_t, bn_def]
      rw [if_pos hc', nI_succ]
      rfl
    · rw [sp1, if_neg hk, ap1]
    · funext u; rw [sp2, ap2, if_neg h1]
    · rw [sp2, ap2, if_pos rfl]
    · rw [sp2, ap2, if_neg (by omega), if_neg (by omega)]
    · rw [sp1, if_pos rfl, sp2]
theorem people_step (n : Nat) (hn : 800 ≤ n) {t0 T0 h B : MS} {w : Int32} {K E : Nat} {ca as : Nat → Int32} (X : DCX n t0 T0 h B w K E ca as) (A DS : MS) (hA : DA B A) (hDc : DS.2 0 = ca) (hDa : DS.2 1 = as) (m j : Nat) (hm : m < E) (hj : j < K) (D N T s : MS) (H : SPI A DS T0 K m j D T s) : ∃ D' N' T' s', SPI A DS T0 K m (j + 1) D' T' s' ∧ (∀ self, spF n (nI m) DS h self (nI j, D, N, T) = self (nI (j + 1), D', N', T')) ∧ ∀ self, gP n w (nI m) (DS.1 9) self (nI j, s) = self (nI (j + 1), s') := by
  obtain ⟨rH, b1, hK, b15, hE, hT0, hTk, hear⟩ := X
  obtain ⟨i1, i2, i3, i4, i5, i6, i7, i8, i9, i10, i11⟩ := H
  have rH0 := rH
  obtain ⟨e0, i0, ea, ba, es, e6, -⟩ := rH
  obtain ⟨q1, q2, q3, q4⟩ := ea j (by omega)
  obtain ⟨p1, p2, p3, p4⟩ := ba j (by omega)
  have p4 := p4 (by rw [b1, nI_toInt (by omega)]; omega)
  have z0 : (0 : Int32).toInt = 0 := by decide
  have z1 : (1 : Int32).toInt = 1 := by decide
  have hAs : DA A s := ⟨fun k _ _ => by rw [i4], fun k hk => i5 k (by omega) (by omega) (by omega) (by omega)⟩
  have hBs : DA B s := DA_tr hA hAs
  obtain ⟨f1, f2, f3⟩ := IR_nat (x := B.2 3 j) (hi := 40) p2 (by omega)
  have sfar : s.2 3 j = nI (B.2 3 j).toNatClampNeg := by rw [hBs.2 3 (by omega)]; exact f1
  have afar : A.2 3 j = B.2 3 j := by rw [hA.2 3 (by omega)]
  generalize hfr : (B.2 3 j).toNatClampNeg = fr at f1 f2 f3 sfar
  have sslow : s.2 4 j = B.2 4 j := by rw [hBs.2 4 (by omega)]
  have nz4 : nz (B.2 4 j) = true := nz_lit _ (by rw [eq_i, z0]; have := p4.1; omega)
  -- the reference's facts and its text
  obtain ⟨k1, k2⟩ := hear m hm
  obtain ⟨s1, g1, g2, g3, g4, g5, g6, g7, g8⟩ := m_facts n j m w (DS.1 9) (s.1 15 - nI m) s (ca m) (as m) (by omega) (by omega) (by rw [calls_da hBs]; exact k1) (by rw [asks_da hBs]; exact k2)
  have hs1 : s.1 1 = nI K := by rw [hBs.1 1 (by decide) (by decide), b1]
  have hne : ¬ s.1 1 = 0 := by rw [hs1, eq_i, nI_toInt (by omega), z0]; omega
  obtain ⟨g9, g10⟩ := g4.resolve_left hne
  have hs15 : s.1 15 = h.1 6 := by rw [hBs.1 15 (by decide) (by decide), e6]
  -- the class's names
  obtain ⟨N1, c0, c1, c2, c3, c4, c5, c6⟩ := c_names n j m (DS.1 9) D N h (by omega) (by omega)
  have hD0 : D.2 0 m = ca m := by rw [i3 0 (by decide) (by omega), hDc]
  have hD1 : D.2 1 m = as m := by rw [i3 1 (by decide) (by omega), hDa]
  have hnames : ∀ i, i < 6 → N1.2 0 i = s1.2 34 i := by
    intro i hi
    have hc : i = 0 ∨ i = 1 ∨ i = 2 ∨ i = 3 ∨ i = 4 ∨ i = 5 := by omega
    rcases hc with rfl | rfl | rfl | rfl | rfl | rfl
    · rw [c1, g9]; exact (i6 j hj).1
    · rw [c2, g5]
    · rw [c3, g6, hs15]
    · rw [c4, g7, hD1]
    · rw [c5, g10, hD0, q4, hBs.2 5 (by omega)]
    · rw [c6, g8, hBs.2 14 (by omega)]; exact (es m (by omega)).1
  have hs1B : DA B s1 := DA_tr hBs ⟨fun k _ _ => by rw [g2], fun k hk => g3 k (by omega)⟩
  obtain ⟨v, T1, s2, v1, v2, v3⟩ := val_eq n (by omega) t0 T N1 s1 0 hT0 (TOK_da hTk i1 hs1B) (by omega) hnames
  obtain ⟨w1, w2, w3, w4, w5⟩ := v3
  obtain ⟨u1, u2⟩ := i6 j hj
  have hup1 : s1.2 37 j = s.2 37 j := by rw [g3 37 (by decide)]
  have hup2 : s2.2 37 j = s.2 37 j := by rw [w5 37 (by decide), hup1]
  -- how many go
  obtain ⟨g, hg⟩ : ∃ g, g = hd 0 (s.2 37 j) (s.2 37 j / B.2 4 j + hd (-99) 400 v) := ⟨_, rfl⟩
  have v1' : f_X5_value n 0 T N1 = some (v, T1) := v1
  have v2' : f_X8_gives n 0 s1 = some (v, s2) := v2
  have gIR : IR g 0 (s.2 37 j).toInt := by rw [hg]; exact hd_IR 0 _ _ (by rw [z0]; exact u2.1)
  have rfar : s2.2 3 j = nI fr := by rw [w5 3 (by decide), g3 3 (by decide), sfar]
  have cIdx : (160 : Int32) * nI j + nI m + nI fr = nI (160 * j + m + fr) := by rw [show (160 : Int32) = nI 160 from rfl, nI_mu, nI_ad, nI_ad]
  have old0 : s.2 38 (160 * j + m + fr) = 0 := by
    have := i9 j hj (m + fr) (by rw [afar, hfr, if_neg (Nat.lt_irrefl _)]; omega) (by omega)
    rw [show 160 * j + m + fr = 160 * j + (m + fr) by omega]
    exact this
  -- the reference's step
  have mstep : ∀ self, gP n w (nI m) (DS.1 9) self (nI j, s) = self (nI (j + 1), ap (ap s2 37 j (s.2 37 j - g)) 38 (160 * j + m + fr) (0 + g)) := by
    intro self
    unfold gP
    dsimp only
    rw [hs1, if_neg (nI_ge hj (by omega)), g1, cl_some, ib_j (by omega) (by omega), ck_t, bn_def, ck_t, bn_def, nI_clamp (by omega), hup1, g3 4 (by decide), sslow, nz4, ck_t, v2', cl_some, m_held n v (-99) 400 (by decide), cl_some, ck_t, bn_def]
    dsimp only
    rw [hup2, m_held n _ 0 _ (by rw [z0]; exact u2.1), cl_some, ck_t, bn_def, ck_t, bn_def, ck_t, bn_def]
    have e3 : (ap s2 37 j (s.2 37 j - g)).2 3 j = nI fr := by rw [ap2, if_neg (by decide), rfar]
    have e38 : (ap s2 37 j (s.2 37 j - g)).2 38 (160 * j + m + fr) = 0 := by rw [ap2, if_neg (by decide), w5 38 (by decide), g3 38 (by decide), old0]
    rw [← hg, e3, cIdx, ib_j (by omega) (by omega), ck_t, bn_def, ck_t, bn_def, nI_clamp (by omega), e38, nI_succ]
  -- the class's step
  obtain ⟨q2', -⟩ : h.2 2 j = nI fr ∧ True := ⟨by rw [q2]; exact f1, trivial⟩
  obtain ⟨D', d1, d2, d3, d4, d5, d6⟩ := spK_eq n m j fr h D g (by omega) (by omega) q2' (by omega)
  have pre : ∀ self, spF n (nI m) DS h self (nI j, D, N, T) = (if D.2 4 j = 0 then spK n (nI m) h self (nI j, D, N, T) (0, D, N, T) else cl (f_X1_goingOf n (nI j) (nI m) (DS.1 9) D N h T) fun q20 => spK n (nI m) h self (nI j, D, N, T) (q20.1, D, q20.2.1, q20.2.2)) := by
    intro self
    rw [spF_eq]
    dsimp only
    rw [e0, b1, if_neg (nI_ge hj (by omega)), ib_j (by omega) (by omega), ck_t, bn_def, nI_clamp (by omega)]
  have hstep : ∃ N' T', TEQ T0 T' ∧ ∀ self, spF n (nI m) DS h self (nI j, D, N, T) = self (nI (j + 1), D', N', T') := by
    by_cases hz : D.2 4 j = 0
    · have g0 : g = 0 := by
        apply Int32.toInt_inj.mp
        rw [hg, hd_i, ← u1, hz, z0]
        omega
      refine ⟨N, T, i1, fun self => ?_⟩
      rw [pre, if_pos hz, ← g0, d1]
    · refine ⟨N1, T1, ⟨w1.trans i1.1, w2.trans i1.2.1, w3.trans i1.2.2⟩, fun self => ?_⟩
      have hgo : f_X1_goingOf n (nI j) (nI m) (DS.1 9) D N h T = some (g, N1, T1) := by
        have hmx : mmax 1 (h.2 3 j) = B.2 4 j := by rw [q3]; exact mmax_r (by rw [z1]; exact p4.1)
        unfold f_X1_goingOf
        rw [c0, cl_some, v1', cl_some]
        dsimp only
        rw [c_bd, cl_some, ib_j (by omega) (by omega), ck_t, bn_def, nI_clamp (by omega), bn_def, ck_t, bn_def, hmx, nz4, ck_t, ck_t, bn_def, c_bd, cl_some, u1, ← hg]
      rw [pre, if_neg hz, hgo, cl_some, d1]
  obtain ⟨N', T', hTE, hsf⟩ := hstep
  have v37 : ∀ i, (ap (ap s2 37 j (s.2 37 j - g)) 38 (160 * j + m + fr) (0 + g)).2 37 i = if i = j then s.2 37 j - g else s.2 37 i := fun i => by
    rw [ap2, if_neg (by decide), ap2, if_pos rfl, w5 37 (by decide), g3 37 (by decide)]
  have v38 : ∀ u, (ap (ap s2 37 j (s.2 37 j - g)) 38 (160 * j + m + fr) (0 + g)).2 38 u = if u = 160 * j + m + fr then g else s.2 38 u := fun u => by
    have : (ap s2 37 j (s.2 37 j - g)).2 38 u = s.2 38 u := by rw [ap2, if_neg (by decide), w5 38 (by decide), g3 38 (by decide)]
    rw [ap2, if_pos rfl, Int32.zero_add]
    split
    · rfl
    · exact this
  refine ⟨D', N', T', ap (ap s2 37 j (s.2 37 j - g)) 38 (160 * j + m + fr) (0 + g), ⟨hTE, fun k hk => (d2 k hk).trans (i2 k hk), fun k h1 h2 => (d3 k h1 (by omega)).trans (i3 k h1 h2), by rw [ap1, ap1, w4, g2, i4], fun q h1 h2 h3 h4 => ?_, fun i hi => ?_, fun i hi t ht => ?_, fun i hi t h1 h2 => ?_, fun i hi t h1 h2 => ?_, fun i hi t ht => ?_, ?_⟩, hsf, mstep⟩
  · funext u; rw [ap2, if_neg h4, ap2, if_neg h3, w5 q h1, g3 q h2, i5 q h1 h2 h3 h4]
  · rw [d4, v37]
    by_cases e : i = j
    · subst e
      rw [if_pos rfl, if_pos rfl, u1]
      refine ⟨rfl, ?_⟩
      have := sub_i (s.2 37 i) g (by have := gIR.1; have := gIR.2; have := u2.1; have := u2.2; omega)
      exact ⟨by rw [this]; have := gIR.2; omega, by rw [this]; have := gIR.1; have := u2.2; omega⟩
    · rw [if_neg e, if_neg e]; exact i6 i hi
  · by_cases e : i = j
    · subst e
      rw [d5 t (by omega), if_neg (by omega)]
      exact i7 i hi t ht
    · rw [d3 (20 + i) (by omega) (by omega)]
      exact i7 i hi t ht
  · rw [v38]
    by_cases e : i = j
    · subst e
      rw [d5 t h2]
      by_cases e2 : t = m + fr
      · rw [if_pos e2, if_pos (by omega)]
      · rw [if_neg e2, if_neg (by omega)]; exact i8 i hi t h1 h2
    · rw [d3 (20 + i) (by omega) (by omega), if_neg (by omega)]
      exact i8 i hi t h1 h2
  · rw [v38]
    by_cases e : i = j
    · subst e
      rw [afar, hfr, if_pos (Nat.lt_succ_self _)] at h1
      rw [if_neg (by omega)]
      exact i9 i hi t (by rw [afar, hfr, if_neg (Nat.lt_irrefl _)]; omega) h2
    · have e2 : (if i < j + 1 then 1 else 0) = (if i < j then 1 else 0) := by
        by_cases h3 : i < j
        · rw [if_pos h3, if_pos (by omega)]
        · rw [if_neg h3, if_neg (by omega)]
      rw [e2] at h1
      rw [if_neg (by omega)]
      exact i9 i hi t h1 h2
  · rw [v38]
    split
    · exact ⟨gIR.1, by have := gIR.2; have := u2.2; omega⟩
    · exact i10 i hi t ht
  · have e8 : D'.2 (20 + j) m = (ap (ap s2 37 j (s.2 37 j - g)) 38 (160 * j + m + fr) (0 + g)).2 38 (160 * j + m) := by
      rw [v38, d5 m (by omega)]
      by_cases e2 : m = m + fr
      · rw [if_pos e2, if_pos (by omega)]
      · rw [if_neg e2, if_neg (by omega)]; exact i8 j hj m (Nat.le_refl _) (by omega)
    rw [d6, e8, i11, sumI_s, Int32.add_assoc]
    congr 2
    refine sumI_congr _ (fun i hi => ?_)
    rw [v38, if_neg (by omega)]
/-- the class's day D and the reference's s at minute m; the cells of m1 minutes have come to the platform -/
def RDY (B T0 : MS) (K cN m m1 : Nat) (ca as rk : Nat → Int32) (D T s : MS) : Prop :=
  (TEQ T0 T ∧ DA B s ∧ D.2 0 = ca ∧ D.2 1 = as ∧ D.2 2 = rk) ∧
  (∀ i, i < K → D.2 4 i = s.2 37 i ∧ IR (s.2 37 i) 0 400) ∧
  ((∀ i, i < K → ∀ t, t < m1 → t < 120 → D.2 (20 + i) t = s.2 39 (120 * i + t)) ∧
   (∀ i, i < K → ∀ t, m1 ≤ t → t < 120 → s.2 39 (120 * i + t) = 0) ∧
   (∀ i, i < K → ∀ t, m1 ≤ t → t < 120 → D.2 (20 + i) t = s.2 38 (160 * i + t)) ∧
   (∀ i, i < K → ∀ t, m1 + (B.2 3 i).toNatClampNeg ≤ t → t < 160 → s.2 38 (160 * i + t) = 0)) ∧
  ((∀ i, i < K → ∀ t, t < 120 → IR (s.2 39 (120 * i + t)) 0 400) ∧ (∀ i, i < K → ∀ t, t < 160 → IR (s.2 38 (160 * i + t)) 0 400)) ∧
  (∀ i, i < K → ∃ o : Nat, D.2 6 i = nI o ∧ o ≤ m1 ∧ ∀ t, t < o → t < 120 → D.2 (20 + i) t = 0) ∧
  D.1 9 = sumI (s.2 39) (120 * K) ∧
  ((∀ i, i < K → D.2 7 i = s.2 42 i) ∧ (∀ c, c < 24 → D.2 10 c = s.2 40 c) ∧ sumI (s.2 42) K = sumI (s.2 40) cN) ∧
  (D.1 11 = s.1 43 ∧ D.1 12 = s.1 44) ∧
  ∀ i, i < K → ∀ t, t < m → D.2 (30 + i) t = s.2 41 (120 * i + t)
theorem m_arrive (n : Nat) (hn : 800 ≤ n) (w : Int32) (K m : Nat) (hK : K ≤ 6) (hm : m < 120) (s : MS) (h1 : s.1 1 = nI K) (h0 : ∀ i, i < K → s.2 39 (120 * i + m) = 0) : ∃ s', lp (gC n w (nI m)) n (0, s) = lp (gK n w (nI m)) n (0, s') ∧ s'.1 = s.1 ∧ (∀ q, q ≠ 38 → q ≠ 39 → s'.2 q = s.2 q) ∧ (∀ i, i < K → ∀ t, t < 120 → s'.2 39 (120 * i + t) = if t = m then s.2 38 (160 * i + m) else s.2 39 (120 * i + t)) ∧ (∀ i, i < K → ∀ t, t < 160 → s'.2 38 (160 * i + t) = if t = m then 0 else s.2 38 (160 * i + t)) ∧ sumI (s'.2 39) (120 * K) = sumI (s.2 39) (120 * K) + sumI (fun i => s.2 38 (160 * i + m)) K := by
  obtain ⟨x, ⟨x1, x2, x3, x4, x5, x6⟩, hx⟩ := lp_to (F := fun (_ : Unit) => gC n w (nI m)) K (fun j x => x.1 = nI j ∧ x.2.1 = s.1 ∧ (∀ q, q ≠ 38 → q ≠ 39 → x.2.2 q = s.2 q) ∧ (∀ i, i < K → ∀ t, t < 120 → x.2.2 39 (120 * i + t) = if t = m ∧ i < j then s.2 38 (160 * i + m) else s.2 39 (120 * i + t)) ∧ (∀ i, i < K → ∀ t, t < 160 → x.2.2 38 (160 * i + t) = if t = m ∧ i < j then 0 else s.2 38 (160 * i + t)) ∧ sumI (x.2.2 39) (120 * K) = sumI (s.2 39) (120 * K) + sumI (fun i => s.2 38 (160 * i + m)) j) (fun _ x => lp (gK n w (nI m)) n (0, x.2)) (by
    rintro j ⟨c, x⟩ hj ⟨rfl, y1, y2, y3, y4, y5⟩
    have y1 : x.1 = s.1 := y1
    have y2 : ∀ q, q ≠ 38 → q ≠ 39 → x.2 q = s.2 q := y2
    have y3 : ∀ i, i < K → ∀ t, t < 120 → x.2 39 (120 * i + t) = if t = m ∧ i < j then s.2 38 (160 * i + m) else s.2 39 (120 * i + t) := y3
    have y4 : ∀ i, i < K → ∀ t, t < 160 → x.2 38 (160 * i + t) = if t = m ∧ i < j then 0 else s.2 38 (160 * i + t) := y4
    have y5 : sumI (x.2 39) (120 * K) = sumI (s.2 39) (120 * K) + sumI (fun i => s.2 38 (160 * i + m)) j := y5
    have e1 : (120 : Int32) * nI j + nI m = nI (120 * j + m) := by rw [show (120 : Int32) = nI 120 from rfl, nI_mu, nI_ad]
    have e2 : (160 : Int32) * nI j + nI m = nI (160 * j + m) := by rw [show (160 : Int32) = nI 160 from rfl, nI_mu, nI_ad]
    have o1 : x.2 39 (120 * j + m) = 0 := by rw [y3 j hj m hm, if_neg (by omega), h0 j hj]
    have o2 : x.2 38 (160 * j + m) = s.2 38 (160 * j + m) := by rw [y4 j hj m (by omega), if_neg (by omega)]
    have v39 : ∀ u, (ap (ap x 39 (120 * j + m) (0 + s.2 38 (160 * j + m))) 38 (160 * j + m) 0).2 39 u = if u = 120 * j + m then s.2 38 (160 * j + m) else x.2 39 u := fun u => by
      rw [ap2, if_neg (by decide), ap2, if_pos rfl, Int32.zero_add]
    have v38 : ∀ u, (ap (ap x 39 (120 * j + m) (0 + s.2 38 (160 * j + m))) 38 (160 * j + m) 0).2 38 u = if u = 160 * j + m then 0 else x.2 38 u := fun u => by
      have : (ap x 39 (120 * j + m) (0 + s.2 38 (160 * j + m))).2 38 u = x.2 38 u := by rw [ap2, if_neg (by decide)]
      rw [ap2, if_pos rfl, this]
    refine ⟨(nI (j + 1), ap (ap x 39 (120 * j + m) (0 + s.2 38 (160 * j + m))) 38 (160 * j + m) 0), ⟨rfl, y1, fun q h1 h2 => ?_, fun i hi t ht => ?_, fun i hi t ht => ?_, ?_⟩, fun _ self => ?_⟩
    · show (ap (ap x 39 _ _) 38 _ _).2 q = _
      funext u; rw [ap2, if_neg h1, ap2, if_neg h2, y2 q h1 h2]
    · show (ap (ap x 39 _ _) 38 _ _).2 39 (120 * i + t) = _
      rw [v39]
      by_cases e : t = m ∧ i = j
      · obtain ⟨rfl, rfl⟩ := e
        rw [if_pos rfl, if_pos ⟨rfl, Nat.lt_succ_self _⟩]
      · rw [if_neg (by omega), y3 i hi t ht]
        by_cases e2 : t = m ∧ i < j
        · rw [if_pos e2, if_pos ⟨e2.1, by omega⟩]
        · rw [if_neg e2, if_neg (by omega)]
    · show (ap (ap x 39 _ _) 38 _ _).2 38 (160 * i + t) = _
      rw [v38]
      by_cases e : t = m ∧ i = j
      · obtain ⟨rfl, rfl⟩ := e
        rw [if_pos rfl, if_pos ⟨rfl, Nat.lt_succ_self _⟩]
      · rw [if_neg (by omega), y4 i hi t ht]
        by_cases e2 : t = m ∧ i < j
        · rw [if_pos e2, if_pos ⟨e2.1, by omega⟩]
        · rw [if_neg e2, if_neg (by omega)]
    · show sumI ((ap (ap x 39 _ _) 38 _ _).2 39) (120 * K) = _
      rw [sumI_congr (g := fun u => if u = 120 * j + m then s.2 38 (160 * j + m) else x.2 39 u) _ (fun u _ => v39 u), sumI_upd _ _ _ _ (by omega), o1, Int32.sub_zero, y5, sumI_s, Int32.add_assoc]
    · unfold gC
      dsimp only
      rw [y1, h1, if_neg (nI_ge hj (by omega)), e1, e2, ib_j (by omega) (by omega), ck_t, bn_def, ib_j (by omega) (by omega), ck_t, bn_def, ck_t, bn_def, ck_t, bn_def, nI_clamp (by omega), nI_clamp (by omega), o1, o2, nI_succ]) (by
    rintro ⟨c, x⟩ ⟨rfl, y1, -⟩ _ self
    have y1 : x.1 = s.1 := y1
    unfold gC
    dsimp only
    rw [y1, h1, if_pos (Int32.le_refl _)]
    rfl) n (by omega) (0, s) ⟨rfl, rfl, fun _ _ _ => rfl, fun i hi t ht => by rw [if_neg (by omega)], fun i hi t ht => by rw [if_neg (by omega)], by rw [sumI_0, Int32.add_zero]⟩
  refine ⟨x.2, hx (), x2, x3, fun i hi t ht => ?_, fun i hi t ht => ?_, x6⟩
  · rw [x4 i hi t ht]
    by_cases e : t = m
    · rw [if_pos ⟨e, hi⟩, if_pos e]
    · rw [if_neg (fun q => e q.1), if_neg e]
  · rw [x5 i hi t ht]
    by_cases e : t = m
    · rw [if_pos ⟨e, hi⟩, if_pos e]
    · rw [if_neg (fun q => e q.1), if_neg e]
theorem people_both (n : Nat) (hn : 800 ≤ n) {t0 T0 h B : MS} {w : Int32} {K E cN : Nat} {ca as rk : Nat → Int32} (X : DCX n t0 T0 h B w K E ca as) (m : Nat) (hm : m < E) (D N T s : MS) (H : RDY B T0 K cN m m ca as rk D T s) : ∃ D' N' T' s', f_X1_sendPeople n (nI m) D N h T = some (D', N', T') ∧ f_X8_goMinute n w (nI m) s = lp (gK n w (nI m)) n (0, s') ∧ RDY B T0 K cN m (m + 1) ca as rk D' T' s' := by
  obtain ⟨⟨a1, a2, a3, a4, a5⟩, b1, ⟨c1, c2, c3, c4⟩, ⟨d1, d2⟩, e1, f1, ⟨g1, g2, g3⟩, ⟨h1, h2⟩, k1⟩ := H
  have X0 := X
  obtain ⟨rH, x1, hK, x15, hE, -⟩ := X
  have hs1 : s.1 1 = nI K := by rw [a2.1 1 (by decide) (by decide), x1]
  have e0 := rH.1
  have far : ∀ i, s.2 3 i = B.2 3 i := fun i => by rw [a2.2 3 (by omega)]
  obtain ⟨x, y, hI, hF, hG⟩ := lp_two_to (F := spF n (nI m) D h) (G := gP n w (nI m) (D.1 9)) K (fun j x y => x.1 = nI j ∧ y.1 = nI j ∧ SPI s D T0 K m j x.2.1 x.2.2.2 y.2) (fun x => some (x.2.1, x.2.2.1, x.2.2.2)) (fun y => lp (gC n w (nI m)) n (0, y.2)) (by
    rintro j ⟨c, D1, N1, T1⟩ ⟨c', s1⟩ hj ⟨rfl, rfl, hS⟩
    obtain ⟨D', N', T', s', p1, p2, p3⟩ := people_step n hn X0 s D a2 a3 a4 m j hm hj D1 N1 T1 s1 hS
    exact ⟨(nI (j + 1), D', N', T'), (nI (j + 1), s'), ⟨rfl, rfl, p1⟩, p2, p3⟩) (by
    rintro ⟨c, D1, N1, T1⟩ ⟨c', s1⟩ ⟨rfl, rfl, hS⟩
    have hS1 : s1.1 = s.1 := hS.2.2.2.1
    refine ⟨fun self => ?_, fun self => ?_⟩
    · rw [spF_eq]
      dsimp only
      rw [e0, x1, if_pos (Int32.le_refl _)]
    · unfold gP
      dsimp only
      rw [hS1, hs1, if_pos (Int32.le_refl _)]
      rfl) n (by omega) (0, D, N, T) (0, s) ⟨rfl, rfl, a1, fun _ _ => rfl, fun _ _ _ => rfl, rfl, fun _ _ _ _ _ => rfl, b1, fun _ _ _ _ => rfl, c3, fun i hi t h1 h2 => c4 i hi t (by rw [far, if_neg (Nat.not_lt_zero _)] at h1; omega) h2, d2, by rw [sumI_0, Int32.add_zero]⟩
  obtain ⟨c, D1, N1, T1⟩ := x
  obtain ⟨c', s1⟩ := y
  obtain ⟨-, -, i1, i2, i3, i4, i5, i6, i7, i8, i9, i10, i11⟩ := hI
  have i1 : TEQ T0 T1 := i1
  have i2 : ∀ k, k ≠ 9 → D1.1 k = D.1 k := i2
  have i3 : ∀ k, k ≠ 4 → ¬ (20 ≤ k ∧ k < 26) → D1.2 k = D.2 k := i3
  have i4 : s1.1 = s.1 := i4
  have i5 : ∀ q, q ≠ 33 → q ≠ 34 → q ≠ 37 → q ≠ 38 → s1.2 q = s.2 q := i5
  have i6 : ∀ i, i < K → D1.2 4 i = s1.2 37 i ∧ IR (s1.2 37 i) 0 400 := i6
  have i7 : ∀ i, i < K → ∀ t, t < m → D1.2 (20 + i) t = D.2 (20 + i) t := i7
  have i8 : ∀ i, i < K → ∀ t, m ≤ t → t < 120 → D1.2 (20 + i) t = s1.2 38 (160 * i + t) := i8
  have i9 : ∀ i, i < K → ∀ t, m + (s.2 3 i).toNatClampNeg + (if i < K then 1 else 0) ≤ t → t < 160 → s1.2 38 (160 * i + t) = 0 := i9
  have i10 : ∀ i, i < K → ∀ t, t < 160 → IR (s1.2 38 (160 * i + t)) 0 400 := i10
  have i11 : D1.1 9 = D.1 9 + sumI (fun i => s1.2 38 (160 * i + m)) K := i11
  have r39 : s1.2 39 = s.2 39 := i5 39 (by decide) (by decide) (by decide) (by decide)
  obtain ⟨s2, q1, q2, q3, q4, q5, q6⟩ := m_arrive n hn w K m hK (by omega) s1 (by rw [i4, hs1]) (fun i hi => by rw [r39]; exact c2 i hi m (Nat.le_refl _) (by omega))
  have hw := m_wait n (by omega) s K hs1 hK
  refine ⟨D1, N1, T1, s2, hF, ?_, ⟨i1, DA_tr a2 ⟨fun k _ _ => by rw [q2, i4], fun k hk => by rw [q3 k (by omega) (by omega), i5 k (by omega) (by omega) (by omega) (by omega)]⟩, by rw [i3 0 (by decide) (by omega), a3], by rw [i3 1 (by decide) (by omega), a4], by rw [i3 2 (by decide) (by omega), a5]⟩, ?_, ⟨?_, ?_, ?_, ?_⟩, ⟨?_, ?_⟩, ?_, ?_, ⟨?_, ?_, ?_⟩, ⟨?_, ?_⟩, ?_⟩
  · have : f_X8_goMinute n w (nI m) s = cl (f_X8_waitingNow n s) fun q1 => lp (gP n w (nI m) q1) n (0, s) := rfl
    rw [this, hw, cl_some, ← f1, hG]
    exact q1
  · intro i hi; rw [q3 37 (by decide) (by decide)]; exact i6 i hi
  · intro i hi t h3 h4
    rw [q4 i hi t h4]
    by_cases e : t = m
    · rw [if_pos e, e]; exact i8 i hi m (Nat.le_refl _) (by omega)
    · rw [if_neg e, r39, i7 i hi t (by omega)]; exact c1 i hi t (by omega) h4
  · intro i hi t h3 h4
    rw [q4 i hi t h4, if_neg (by omega), r39]
    exact c2 i hi t (by omega) h4
  · intro i hi t h3 h4
    rw [q5 i hi t (by omega), if_neg (by omega)]
    exact i8 i hi t (by omega) h4
  · intro i hi t h3 h4
    rw [q5 i hi t h4]
    split
    · rfl
    · exact i9 i hi t (by rw [far, if_pos hi]; omega) h4
  · intro i hi t ht
    rw [q4 i hi t ht]
    split
    · exact i10 i hi m (by omega)
    · rw [r39]; exact d1 i hi t ht
  · intro i hi t ht
    rw [q5 i hi t ht]
    split
    · exact ⟨by decide, by decide⟩
    · exact i10 i hi t ht
  · intro i hi
    obtain ⟨o, o1, o2, o3⟩ := e1 i hi
    refine ⟨o, by rw [i3 6 (by decide) (by omega), o1], by omega, fun t ht h120 => ?_⟩
    rw [i7 i hi t (by omega)]; exact o3 t ht h120
  · rw [q6, r39, i11, f1]
  · intro i hi; rw [i3 7 (by decide) (by omega), q3 42 (by decide) (by decide), i5 42 (by decide) (by decide) (by decide) (by decide)]; exact g1 i hi
  · intro c hc; rw [i3 10 (by decide) (by omega), q3 40 (by decide) (by decide), i5 40 (by decide) (by decide) (by decide) (by decide)]; exact g2 c hc
  · rw [q3 42 (by decide) (by decide), i5 42 (by decide) (by decide) (by decide) (by decide), q3 40 (by decide) (by decide), i5 40 (by decide) (by decide) (by decide) (by decide)]; exact g3
  · rw [i2 11 (by decide), q2, i4]; exact h1
  · rw [i2 12 (by decide), q2, i4]; exact h2
  · intro i hi t ht
    rw [i3 (30 + i) (by omega) (by omega), q3 41 (by decide) (by decide), i5 41 (by decide) (by decide) (by decide) (by decide)]; exact k1 i hi t ht
