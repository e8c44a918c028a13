-- THE DAY: the cars of a minute, and its end
theorem RDY_scr {B T0 : MS} {K cN m m1 : Nat} {ca as rk : Nat → Int32} {D T T' s s' : MS} (H : RDY B T0 K cN m m1 ca as rk D T s) (ht : TEQ T0 T') (h1 : s'.1 = s.1) (h2 : ∀ q, q ≠ 33 → q ≠ 34 → s'.2 q = s.2 q) : RDY B T0 K cN m m1 ca as rk D T' s' := by
  obtain ⟨⟨a1, a2, a3, a4, a5⟩, b1, c1, d1, f1, g1, j1, k1, l1⟩ := H
  have e37 := h2 37 (by decide) (by decide)
  have e38 := h2 38 (by decide) (by decide)
  have e39 := h2 39 (by decide) (by decide)
  have e40 := h2 40 (by decide) (by decide)
  have e41 := h2 41 (by decide) (by decide)
  have e42 := h2 42 (by decide) (by decide)
  refine ⟨⟨ht, DA_tr a2 ⟨fun k _ _ => by rw [h1], fun k hk => h2 k (by omega) (by omega)⟩, a3, a4, a5⟩, ?_⟩
  rw [e37, e38, e39, e40, e41, e42, h1]
  exact ⟨b1, c1, d1, f1, g1, j1, k1, l1⟩
def gKend (n : Nat) (a2 : Int32) (s : MS) : Option MS := cl (f_X8_waitingNow n s) fun q11 => if q11 ≤ s.1 43 then gE n a2 s else gE n a2 (sp (sp s 43 q11) 44 a2)
theorem gK_eq (n : Nat) (w a2 : Int32) (self : (Int32 × MS) → Option MS) (c : Int32) (s : MS) : gK n w a2 self (c, s) = (if (s.1 45) ≤ c then gKend n a2 s else cl (f_X8_goes n c a2 s) fun q22 => if q22 = 0 then self (c + 1, s) else cl (f_X8_waitingNow n s) fun q26 => cl (f_X8_findFacts n w 0 a2 q26 ((s.1 15) - a2) s) fun q27 => ck (ib c 24) (bn (q27.2 7 (Int32.toNatClampNeg c)) fun x28 => cl (f_X8_gives n 1 q27) fun q29 => cl (f_X8_held n q29.1 0 60) fun q30 => bn (x28 - q30) fun x31 => if x31 ≤ 0 then self (c + 1, q29.2) else cl (f_X8_orderOf n w q29.2) fun q33 => cl (f_X8_load n c x31 q33 a2 q29.2) fun q34 => self (c + 1, q34))) := rfl
theorem scF_eq (n : Nat) (a3 a5 : Int32) (h C : MS) (self : (Int32 × MS × MS × MS) → Option (MS × MS × MS)) (c : Int32) (D N T : MS) : scF n a3 a5 h C self (c, D, N, T) = (if a3 ≤ c then some (D, N, T) else if (D.1 9) ≤ 0 then some (D, N, T) else cl (f_X0_roomOf n c a5 C) fun q5 => if q5 = 0 then self (c + 1, D, N, T) else cl (f_X1_setNames n 0 a5 (D.1 9) D N h) fun q9 => cl (f_X5_value n 1 T q9) fun q10 => cl (f_X7_bounded n q10.1 0 60) fun q11 => cl (f_X1_board n c (mmin (q5 - q11) (D.1 9)) (h.1 0) a5 D) fun q12 => self (c + 1, q12, q9, q10.2)) := rfl
/-- the cars as both sides know them -/
def CARS (n : Nat) (C B : MS) (cN : Nat) : Prop := B.1 45 = nI cN ∧ cN ≤ 24 ∧ ∀ c, c < cN → IR (B.2 7 c) 1 60 ∧ IR (B.2 8 c) 1 30 ∧ ∀ m, m < 120 → f_X0_roomOf n (nI c) (nI m) C = some (if goP (B.2 9 c) (B.2 8 c) (nI m) then B.2 7 c else 0)
theorem m_rush (n : Nat) (hn : 800 ≤ n) {t0 T0 h B : MS} {w : Int32} {K E cN : Nat} {ca as rk : Nat → Int32} (X : DCX n t0 T0 h B w K E ca as) (m : Nat) (hm : m < E) (wait : Int32) (D N T s : MS) (H : RDY B T0 K cN m (m + 1) ca as rk D T s) : ∃ s1, f_X8_findFacts n w 0 (nI m) wait ((s.1 15) - nI m) s = some s1 ∧ s1.1 = s.1 ∧ (∀ q, q ≠ 34 → s1.2 q = s.2 q) ∧ (0 < K → ∃ N1, f_X1_setNames n 0 (nI m) wait D N h = some N1 ∧ ∀ i, i < 6 → N1.2 0 i = s1.2 34 i) := by
  obtain ⟨rH, b1, hK, b15, hE, hT0, hTk, hear⟩ := X
  obtain ⟨⟨a1, a2, a3, a4, a5⟩, hup, -⟩ := H
  obtain ⟨e0, i0, ea, ba, es, e6, -⟩ := rH
  have z0 : (0 : Int32).toInt = 0 := by decide
  obtain ⟨k1, k2⟩ := hear m hm
  obtain ⟨s1, g1, g2, g3, g4, g5, g6, g7, g8⟩ := m_facts n 0 m w wait (s.1 15 - nI m) s (ca m) (as m) (by omega) (by omega) (by rw [calls_da a2]; exact k1) (by rw [asks_da a2]; exact k2)
  refine ⟨s1, g1, g2, g3, fun hKp => ?_⟩
  obtain ⟨N1, c0, c1, c2, c3, c4, c5, c6⟩ := c_names n 0 m wait D N h (by omega) (by omega)
  have hs1 : s.1 1 = nI K := by rw [a2.1 1 (by decide) (by decide), b1]
  have hne : ¬ s.1 1 = 0 := by rw [hs1, eq_i, nI_toInt (by omega), z0]; omega
  obtain ⟨g9, g10⟩ := g4.resolve_left hne
  refine ⟨N1, c0, fun i hi => ?_⟩
  have hc : i = 0 ∨ i = 1 ∨ i = 2 ∨ i = 3 ∨ i = 4 ∨ i = 5 := by omega
  rcases hc with rfl | rfl | rfl | rfl | rfl | rfl
  · rw [c1, g9]; exact (hup 0 hKp).1
  · rw [c2, g5]
  · rw [c3, g6, a2.1 15 (by decide) (by decide), e6]
  · rw [c4, g7, a4]
  · rw [c5, g10, a3, (ea 0 (by omega)).2.2.2, a2.2 5 (by omega)]
  · rw [c6, g8, a2.2 14 (by omega)]; exact (es m (by omega)).1
theorem RDY_wait {B T0 : MS} {K cN m m1 : Nat} {ca as rk : Nat → Int32} {D T s : MS} (hK : K ≤ 6) (H : RDY B T0 K cN m m1 ca as rk D T s) : IR (D.1 9) 0 288000 ∧ ∀ q, q < 120 * K → (s.2 39 q).toInt ≤ (D.1 9).toInt := by
  obtain ⟨-, -, -, ⟨d1, -⟩, -, f1, -⟩ := H
  have hb : ∀ q, q < 120 * K → IR (s.2 39 q) 0 400 := fun q hq => by
    obtain ⟨e1, e2, e3⟩ := cell_sp q K hq
    rw [e1]; exact d1 _ e2 _ e3
  obtain ⟨u1, u2⟩ := sumI_bd (f := s.2 39) (B := 400) (by omega) (120 * K) hb (by omega)
  rw [f1]
  exact ⟨⟨u1.1, by have := u1.2; omega⟩, u2⟩
theorem c_board0 (n : Nat) (hn : 1 ≤ n) (c fc K m : Int32) (D : MS) (h : fc ≤ 0) : f_X1_board n c fc K m D = some D := by
  obtain ⟨k, rfl⟩ : ∃ k, n = k + 1 := ⟨n - 1, by omega⟩
  have : f_X1_board (k + 1) c fc K m D = brF (k + 1) c K m (lp (brF (k + 1) c K m) k) (fc, 0, D) := rfl
  rw [this]
  unfold brF
  dsimp only
  rw [if_pos h]
  split <;> rfl
/-- nobody waits: the reference's cars go empty -/
theorem m_idle (n : Nat) (hn : 800 ≤ n) {t0 T0 h C B : MS} {w : Int32} {K E cN : Nat} {ca as rk : Nat → Int32} (X : DCX n t0 T0 h B w K E ca as) (hC : CARS n C B cN) (o : Int32) (ho : ORD B K rk o) (hoo : f_X8_orderOf n w B = some o) (m : Nat) (hm : m < E) (D T : MS) (hz : ¬ 0 < (D.1 9).toInt) : ∀ d c fuel s, c + d = cN → d < fuel → RDY B T0 K cN m (m + 1) ca as rk D T s → ∃ s', lp (gK n w (nI m)) fuel (nI c, s) = gKend n (nI m) s' ∧ RDY B T0 K cN m (m + 1) ca as rk D T s' := by
  obtain ⟨c45, c24, hcar⟩ := hC
  have X0 := X
  obtain ⟨rH, b1, hK, b15, hE, hT0, hTk, hear⟩ := X
  have z0 : (0 : Int32).toInt = 0 := by decide
  intro d
  induction d with
  | zero =>
    intro c fuel s hc hf H
    obtain ⟨k, rfl⟩ : ∃ k, fuel = k + 1 := ⟨fuel - 1, by omega⟩
    have e : c = cN := by omega
    subst e
    refine ⟨s, ?_, H⟩
    rw [lp_s, gK_eq, H.1.2.1.1 45 (by decide) (by decide), c45, if_pos (Int32.le_refl _)]
  | succ d ih =>
    intro c fuel s hc hf H
    obtain ⟨k, rfl⟩ : ∃ k, fuel = k + 1 := ⟨fuel - 1, by omega⟩
    have hda := H.1.2.1
    obtain ⟨r1, r2, r3⟩ := hcar c (by omega)
    have hs1 : s.1 1 = nI K := by rw [hda.1 1 (by decide) (by decide), b1]
    rw [lp_s, gK_eq, hda.1 45 (by decide) (by decide), c45, if_neg (nI_ge (by omega) (by omega)), goes_da hda, m_goes n c (nI m) B (by omega) r2, cl_some, ← nI_succ]
    simp only [bo_0]
    by_cases hg : goP (B.2 9 c) (B.2 8 c) (nI m) ∧ ¬ shV B (nI m)
    case neg =>
      rw [ite_not_f hg]
      exact ih (c + 1) k s (by omega) (by omega) H
    rw [ite_not_t hg, m_wait n (by omega) s K hs1 hK, cl_some]
    obtain ⟨s1, f1, f2, f3, -⟩ := m_rush n hn X0 m hm (sumI (s.2 39) (120 * K)) D D T s H
    have hda1 : DA B s1 := DA_tr hda ⟨fun k _ _ => by rw [f2], fun k hk => f3 k (by omega)⟩
    obtain ⟨v, T1, s2, v1, v2, v3⟩ := val_eq n (by omega) t0 T (s1.1, fun _ => s1.2 34) s1 1 hT0 (TOK_da hTk H.1.1 hda1) (by omega) (fun i _ => rfl)
    obtain ⟨w1, w2, w3, w4, w5⟩ := v3
    have v2' : f_X8_gives n 1 s1 = some (v, s2) := v2
    have H2 : RDY B T0 K cN m (m + 1) ca as rk D T s2 := RDY_scr H H.1.1 (by rw [w4, f2]) (fun q h1 h2 => by rw [w5 q h1, f3 q h2])
    rw [f1, cl_some, ib_j (by omega) (by omega), ck_t, bn_def, v2', cl_some, m_held n v 0 60 (by decide), cl_some, bn_def]
    by_cases hx : s1.2 7 (nI c).toNatClampNeg - hd 0 60 v ≤ 0
    · rw [if_pos hx]
      exact ih (c + 1) k s2 (by omega) (by omega) H2
    · rw [if_neg hx, order_da H2.1.2.1, hoo, cl_some]
      have hs21 : s2.1 1 = nI K := by rw [H2.1.2.1.1 1 (by decide) (by decide), b1]
      obtain ⟨b, sc1, sc2⟩ := m_scan n hn (nI c) o (s1.2 7 (nI c).toNatClampNeg - hd 0 60 v) B s2 K rk hK hs21 ho (fun i hi => (rH.2.2.2.1 i (by omega)).2.1) (H2.1.2.1.2 3 (by omega))
      have hb : b = -1 := by
        rcases sc2 with ⟨g1, -⟩ | ⟨q0, g1, g2, g3, -⟩
        · exact g1
        · have := (RDY_wait hK H2).2 q0 g1
          omega
      have hl : f_X8_load n (nI c) (s1.2 7 (nI c).toNatClampNeg - hd 0 60 v) o (nI m) s2 = some s2 := by
        obtain ⟨j, rfl⟩ : ∃ j, n = j + 1 := ⟨n - 1, by omega⟩
        have : f_X8_load (j + 1) (nI c) (s1.2 7 (nI c).toNatClampNeg - hd 0 60 v) o (nI m) s2 = ldF (j + 1) (nI c) o (lp (ldF (j + 1) (nI c) o) j) (s1.2 7 (nI c).toNatClampNeg - hd 0 60 v, s2) := rfl
        rw [this, ldF_eq, if_neg hx, sc1, hb]
        unfold ldE
        rw [if_neg (by decide)]
      rw [hl, cl_some]
      exact ih (c + 1) k s2 (by omega) (by omega) H2
theorem cars_both (n : Nat) (hn : 800 ≤ n) {t0 T0 h C B : MS} {w : Int32} {K E cN : Nat} {ca as rk : Nat → Int32} (X : DCX n t0 T0 h B w K E ca as) (hC : CARS n C B cN) (o : Int32) (ho : ORD B K rk o) (hoo : f_X8_orderOf n w B = some o) (m : Nat) (hm : m < E) (hsh : ¬ shV B (nI m)) : ∀ d c fuel D N T s, c + d = cN → d < fuel → RDY B T0 K cN m (m + 1) ca as rk D T s → ∃ D' N' T' s', lp (scF n (nI cN) (nI m) h C) fuel (nI c, D, N, T) = some (D', N', T') ∧ lp (gK n w (nI m)) fuel (nI c, s) = gKend n (nI m) s' ∧ RDY B T0 K cN m (m + 1) ca as rk D' T' s' := by
  have hC0 := hC
  obtain ⟨c45, c24, hcar⟩ := hC
  have X0 := X
  obtain ⟨rH, b1, hK, b15, hE, hT0, hTk, hear⟩ := X
  have z0 : (0 : Int32).toInt = 0 := by decide
  intro d
  induction d with
  | zero =>
    intro c fuel D N T s hc hf H
    obtain ⟨k, rfl⟩ : ∃ k, fuel = k + 1 := ⟨fuel - 1, by omega⟩
    have e : c = cN := by omega
    subst e
    refine ⟨D, N, T, s, ?_, ?_, H⟩
    · rw [lp_s, scF_eq, if_pos (Int32.le_refl _)]
    · rw [lp_s, gK_eq, H.1.2.1.1 45 (by decide) (by decide), c45, if_pos (Int32.le_refl _)]
  | succ d ih =>
    intro c fuel D N T s hc hf H
    by_cases hw : D.1 9 ≤ 0
    · have hw' := hw
      rw [le_i, z0] at hw'
      obtain ⟨s', i1, i2⟩ := m_idle n hn X0 hC0 o ho hoo m hm D T (by omega) (d + 1) c fuel s hc hf H
      refine ⟨D, N, T, s', ?_, i1, i2⟩
      obtain ⟨k, rfl⟩ : ∃ k, fuel = k + 1 := ⟨fuel - 1, by omega⟩
      rw [lp_s, scF_eq, if_neg (nI_ge (by omega) (by omega)), if_pos hw]
    obtain ⟨k, rfl⟩ : ∃ k, fuel = k + 1 := ⟨fuel - 1, by omega⟩
    have hw' := hw
    rw [le_i, z0] at hw'
    have hda := H.1.2.1
    obtain ⟨r1, r2, r3⟩ := hcar c (by omega)
    have hs1 : s.1 1 = nI K := by rw [hda.1 1 (by decide) (by decide), b1]
    have hKp : 0 < K := by
      apply Classical.byContradiction
      intro hk0
      have e : K = 0 := by omega
      have := H.2.2.2.2.2.1
      rw [e] at this
      rw [this, show sumI (s.2 39) (120 * 0) = 0 from rfl, z0] at hw'
      omega
    rw [lp_s, lp_s, scF_eq, gK_eq, hda.1 45 (by decide) (by decide), c45, if_neg (nI_ge (by omega) (by omega)), if_neg (nI_ge (by omega) (by omega)), if_neg hw, r3 m (by omega), cl_some, goes_da hda, m_goes n c (nI m) B (by omega) r2, cl_some, ← nI_succ]
    simp only [bo_0]
    by_cases hg : goP (B.2 9 c) (B.2 8 c) (nI m)
    case neg =>
      rw [if_neg hg, if_pos rfl, ite_not_f (fun q => hg q.1)]
      exact ih (c + 1) k D N T s (by omega) (by omega) H
    have hr0 : ¬ B.2 7 c = 0 := by rw [eq_i, z0]; have := r1.1; omega
    rw [if_pos hg, if_neg hr0, ite_not_t ⟨hg, hsh⟩, m_wait n (by omega) s K hs1 hK, cl_some, ← H.2.2.2.2.2.1]
    obtain ⟨s1, f1, f2, f3, f4⟩ := m_rush n hn X0 m hm (D.1 9) D N T s H
    obtain ⟨N1, n1, n2⟩ := f4 hKp
    have hda1 : DA B s1 := DA_tr hda ⟨fun k _ _ => by rw [f2], fun k hk => f3 k (by omega)⟩
    obtain ⟨v, T1, s2, v1, v2, v3⟩ := val_eq n (by omega) t0 T N1 s1 1 hT0 (TOK_da hTk H.1.1 hda1) (by omega) n2
    obtain ⟨w1, w2, w3, w4, w5⟩ := v3
    have v1' : f_X5_value n 1 T N1 = some (v, T1) := v1
    have v2' : f_X8_gives n 1 s1 = some (v, s2) := v2
    have hT1 : TEQ T0 T1 := ⟨w1.trans H.1.1.1, w2.trans H.1.1.2.1, w3.trans H.1.1.2.2⟩
    have H2 : RDY B T0 K cN m (m + 1) ca as rk D T1 s2 := RDY_scr H hT1 (by rw [w4, f2]) (fun q h1 h2 => by rw [w5 q h1, f3 q h2])
    have e7 : s1.2 7 c = B.2 7 c := by rw [f3 7 (by decide), hda.2 7 (by omega)]
    have e0 : h.1 0 = nI K := by rw [rH.1, b1]
    rw [n1, cl_some, v1', cl_some, c_bd, cl_some, f1, cl_some, ib_j (by omega) (by omega), ck_t, bn_def, nI_clamp (by omega), v2', cl_some, m_held n v 0 60 (by decide), cl_some, bn_def, e7, e0]
    dsimp only
    have hb := hd_IR 0 60 v (by decide)
    rw [show (0 : Int32).toInt = 0 by decide, show (60 : Int32).toInt = 60 by decide] at hb
    have hsub : (B.2 7 c - hd 0 60 v).toInt = (B.2 7 c).toInt - (hd 0 60 v).toInt := sub_i _ _ (by have := r1.1; have := r1.2; have := hb.1; have := hb.2; omega)
    by_cases hx : B.2 7 c - hd 0 60 v ≤ 0
    · have hx' := hx
      rw [le_i, z0] at hx'
      rw [if_pos hx, c_board0 n (by omega) _ _ _ _ _ (by rw [le_i, mmin_i, z0]; omega), cl_some]
      exact ih (c + 1) k D N1 T1 s2 (by omega) (by omega) H2
    · have hx' := hx
      rw [le_i, z0] at hx'
      obtain ⟨D3, s3, u1, u2, u3⟩ := board_both n hn X0 o ho m c hm (by omega) c24 D T1 s2 H2 (B.2 7 c - hd 0 60 v) ⟨by omega, by rw [hsub]; have := r1.2; have := hb.1; omega⟩
      rw [if_neg hx, u1, cl_some, order_da H2.1.2.1, hoo, cl_some, u2, cl_some]
      exact ih (c + 1) k D3 N1 T1 s3 (by omega) (by omega) u3
/-- the minute ends -/
theorem end_both (n : Nat) (hn : 800 ≤ n) {t0 T0 h B : MS} {w : Int32} {K E cN : Nat} {ca as rk : Nat → Int32} (X : DCX n t0 T0 h B w K E ca as) (m : Nat) (hm : m < E) (D T s : MS) (H : RDY B T0 K cN m (m + 1) ca as rk D T s) : ∃ D' s', f_X1_endMinute n (nI m) D h = some D' ∧ gKend n (nI m) s = some s' ∧ RDY B T0 K cN (m + 1) (m + 1) ca as rk D' T s' := by
  obtain ⟨rH, b1, hK, b15, hE, hT0, hTk, hear⟩ := X
  obtain ⟨⟨a1, a2, a3, a4, a5⟩, hb1, ⟨c1, c2, c3, c4⟩, ⟨d1, d2⟩, f1, g1, ⟨h1, h2, h3⟩, ⟨j1, j2⟩, k1⟩ := H
  have hs1 : s.1 1 = nI K := by rw [a2.1 1 (by decide) (by decide), b1]
  have e0 : h.1 0 = nI K := by rw [rH.1, b1]
  -- the class's rows
  obtain ⟨x, ⟨-, x2, x3, x4⟩, hx⟩ := lp_to (F := fun (_ : Unit) => emF n (nI m) h) K (fun j x => x.1 = nI j ∧ x.2.1 = D.1 ∧ (∀ k, ¬ (30 ≤ k ∧ k < 36) → x.2.2 k = D.2 k) ∧ ∀ i, i < K → ∀ t, x.2.2 (30 + i) t = if t = m ∧ i < j then D.2 7 i else D.2 (30 + i) t) (fun _ x => if x.2.1 9 ≤ x.2.1 11 then some x.2 else some (sp (sp x.2 11 (x.2.1 9)) 12 (nI m))) (by
    rintro j ⟨c, x⟩ hj ⟨rfl, y1, y2, y3⟩
    have y1 : x.1 = D.1 := y1
    have y2 : ∀ k, ¬ (30 ≤ k ∧ k < 36) → x.2 k = D.2 k := y2
    have y3 : ∀ i, i < K → ∀ t, x.2 (30 + i) t = if t = m ∧ i < j then D.2 7 i else D.2 (30 + i) t := y3
    refine ⟨(nI (j + 1), ap x (30 + j) m (D.2 7 j)), ⟨rfl, y1, fun k hk => ?_, fun i hi t => ?_⟩, fun _ self => ?_⟩
    · show (ap x _ _ _).2 k = _
      funext u; rw [ap2, if_neg (by omega), y2 k hk]
    · show (ap x (30 + j) m (D.2 7 j)).2 (30 + i) t = _
      rw [ap2]
      by_cases e : i = j
      · subst e
        rw [if_pos rfl]
        by_cases e2 : t = m
        · rw [if_pos e2, if_pos ⟨e2, by omega⟩]
        · rw [if_neg e2, if_neg (fun q => e2 q.1), y3 i hi t, if_neg (fun q => e2 q.1)]
      · rw [if_neg (by omega), y3 i hi t]
        by_cases e2 : t = m ∧ i < j
        · rw [if_pos e2, if_pos (by omega)]
        · rw [if_neg e2, if_neg (by omega)]
    · unfold emF
      dsimp only
      rw [e0, if_neg (nI_ge hj (by omega)), ib_j (by omega) (by omega), ck_t, ck_t, bn_def, ib_j (by omega) (by omega), ck_t, bn_def, nI_clamp (by omega), nI_clamp (by omega), y2 7 (by omega), nI_succ]) (by
    rintro ⟨c, x⟩ ⟨rfl, -⟩ _ self
    unfold emF
    dsimp only
    rw [e0, if_pos (Int32.le_refl _)]
    rfl) n (by omega) (0, D) ⟨rfl, rfl, fun _ _ => rfl, fun i hi t => by rw [if_neg (by omega)]⟩
  -- the reference's
  have mrow : ∀ s0 : MS, s0.1 1 = nI K → s0.2 = s.2 → ∃ s', gE n (nI m) s0 = some s' ∧ s'.1 = s0.1 ∧ (∀ k, k ≠ 41 → s'.2 k = s.2 k) ∧ ∀ i, i < K → ∀ t, t < 120 → s'.2 41 (120 * i + t) = if t = m then s.2 42 i else s.2 41 (120 * i + t) := by
    intro s0 hs0 hs02
    obtain ⟨y, ⟨-, y2, y3, y4⟩, hy⟩ := lp_to (F := fun (_ : Unit) => gD n (nI m)) K (fun j x => x.1 = nI j ∧ x.2.1 = s0.1 ∧ (∀ k, k ≠ 41 → x.2.2 k = s.2 k) ∧ ∀ i, i < K → ∀ t, t < 120 → x.2.2 41 (120 * i + t) = if t = m ∧ i < j then s.2 42 i else s.2 41 (120 * i + t)) (fun _ x => some x.2) (by
      rintro j ⟨c, x⟩ hj ⟨rfl, y1, y2, y3⟩
      have y1 : x.1 = s0.1 := y1
      have y2 : ∀ k, k ≠ 41 → x.2 k = s.2 k := y2
      have y3 : ∀ i, i < K → ∀ t, t < 120 → x.2 41 (120 * i + t) = if t = m ∧ i < j then s.2 42 i else s.2 41 (120 * i + t) := y3
      have e1 : (120 : Int32) * nI j + nI m = nI (120 * j + m) := by rw [show (120 : Int32) = nI 120 from rfl, nI_mu, nI_ad]
      refine ⟨(nI (j + 1), ap x 41 (120 * j + m) (s.2 42 j)), ⟨rfl, y1, fun k hk => ?_, fun i hi t ht => ?_⟩, fun _ self => ?_⟩
      · show (ap x _ _ _).2 k = _
        funext u; rw [ap2, if_neg hk, y2 k hk]
      · show (ap x 41 (120 * j + m) (s.2 42 j)).2 41 (120 * i + t) = _
        rw [ap2, if_pos rfl]
        by_cases e : t = m ∧ i = j
        · obtain ⟨rfl, rfl⟩ := e
          rw [if_pos rfl, if_pos ⟨rfl, by omega⟩]
        · rw [if_neg (by omega), y3 i hi t ht]
          by_cases e2 : t = m ∧ i < j
          · rw [if_pos e2, if_pos (by omega)]
          · rw [if_neg e2, if_neg (by omega)]
      · unfold gD
        dsimp only
        rw [y1, hs0, if_neg (nI_ge hj (by omega)), ib_j (by omega) (by omega), ck_t, bn_def, e1, ib_j (by omega) (by omega), ck_t, bn_def, nI_clamp (by omega), nI_clamp (by omega), y2 42 (by decide), nI_succ]) (by
      rintro ⟨c, x⟩ ⟨rfl, y1, -⟩ _ self
      have y1 : x.1 = s0.1 := y1
      unfold gD
      dsimp only
      rw [y1, hs0, if_pos (Int32.le_refl _)]) n (by omega) (0, s0) ⟨rfl, rfl, fun k _ => by rw [hs02], fun i hi t _ => by rw [if_neg (by omega), hs02]⟩
    refine ⟨y.2, hy (), y2, y3, fun i hi t ht => ?_⟩
    rw [y4 i hi t ht]
    by_cases e : t = m
    · rw [if_pos ⟨e, hi⟩, if_pos e]
    · rw [if_neg (fun q => e q.1), if_neg e]
  have hcE : f_X1_endMinute n (nI m) D h = (if x.2.1 9 ≤ x.2.1 11 then some x.2 else some (sp (sp x.2 11 (x.2.1 9)) 12 (nI m))) := hx ()
  have hmE : gKend n (nI m) s = (if D.1 9 ≤ s.1 43 then gE n (nI m) s else gE n (nI m) (sp (sp s 43 (D.1 9)) 44 (nI m))) := by
    unfold gKend
    rw [m_wait n (by omega) s K hs1 hK, cl_some, g1]
  have pack : ∀ D' s' : MS, (∀ k, k ≠ 11 → k ≠ 12 → D'.1 k = D.1 k) → D'.2 = x.2.2 → (∀ k, k ≠ 43 → k ≠ 44 → s'.1 k = s.1 k) → (∀ k, k ≠ 41 → s'.2 k = s.2 k) → (∀ i, i < K → ∀ t, t < 120 → s'.2 41 (120 * i + t) = if t = m then s.2 42 i else s.2 41 (120 * i + t)) → D'.1 11 = s'.1 43 → D'.1 12 = s'.1 44 → RDY B T0 K cN (m + 1) (m + 1) ca as rk D' T s' := by
    intro D' s' p1 p2 p3 p4 p5 p6 p7
    have q : ∀ k, ¬ (30 ≤ k ∧ k < 36) → D'.2 k = D.2 k := fun k hk => by rw [p2, x3 k hk]
    refine ⟨⟨a1, DA_tr a2 ⟨p3, fun k hk => p4 k (by omega)⟩, by rw [q 0 (by omega), a3], by rw [q 1 (by omega), a4], by rw [q 2 (by omega), a5]⟩, ?_⟩
    rw [p4 37 (by decide), p4 38 (by decide), p4 39 (by decide), p4 40 (by decide), p4 42 (by decide), q 4 (by omega), q 6 (by omega), q 7 (by omega), q 10 (by omega), p1 9 (by decide) (by decide)]
    refine ⟨hb1, ⟨fun i hi t h4 h5 => by rw [q (20 + i) (by omega)]; exact c1 i hi t h4 h5, c2, fun i hi t h4 h5 => by rw [q (20 + i) (by omega)]; exact c3 i hi t h4 h5, c4⟩, ⟨d1, d2⟩, fun i hi => ?_, g1, ⟨h1, h2, h3⟩, ⟨p6, p7⟩, fun i hi t ht => ?_⟩
    · obtain ⟨o, o1, o2, o3⟩ := f1 i hi
      exact ⟨o, o1, o2, fun t h4 h5 => by rw [q (20 + i) (by omega)]; exact o3 t h4 h5⟩
    · rw [p2, x4 i hi t, p5 i hi t (by omega)]
      by_cases e : t = m
      · rw [if_pos ⟨e, hi⟩, if_pos e]; exact h1 i hi
      · rw [if_neg (fun q => e q.1), if_neg e]; exact k1 i hi t (by omega)
  rw [hcE, hmE, x2, j1]
  by_cases hmost : D.1 9 ≤ s.1 43
  · obtain ⟨s', r1, r2, r3, r4⟩ := mrow s hs1 rfl
    rw [if_pos hmost, if_pos hmost, r1]
    exact ⟨x.2, s', rfl, rfl, pack x.2 s' (fun k _ _ => by rw [x2]) rfl (fun k _ _ => by rw [r2]) r3 r4 (by rw [x2, r2]; exact j1) (by rw [x2, r2]; exact j2)⟩
  · obtain ⟨s', r1, r2, r3, r4⟩ := mrow (sp (sp s 43 (D.1 9)) 44 (nI m)) (by rw [sp_ne _ _ _ _ (by decide), sp_ne _ _ _ _ (by decide), hs1]) rfl
    rw [if_neg hmost, if_neg hmost, r1]
    refine ⟨_, s', rfl, rfl, pack _ s' (fun k h4 h5 => by rw [sp_ne _ _ _ _ h5, sp_ne _ _ _ _ h4, x2]) rfl (fun k h4 h5 => by rw [r2, sp_ne _ _ _ _ h5, sp_ne _ _ _ _ h4]) r3 r4 (by rw [r2, sp_ne _ _ _ _ (by decide), sp_eq, sp_ne _ _ _ _ (by decide), sp_eq]) (by rw [r2, sp_eq, sp_eq])⟩
theorem minute_both (n : Nat) (hn : 800 ≤ n) {t0 T0 h C B : MS} {w : Int32} {K E cN : Nat} {ca as rk : Nat → Int32} (X : DCX n t0 T0 h B w K E ca as) (hC : CARS n C B cN) (o : Int32) (ho : ORD B K rk o) (hoo : f_X8_orderOf n w B = some o) (m : Nat) (hm : m < E) (D N T s : MS) (H : RDY B T0 K cN m m ca as rk D T s) : ∃ D' N' T' s', (∀ self : (Int32 × MS × MS × MS) → Option (MS × MS × MS), ruF n (nI cN) h C self (nI m, D, N, T) = self (nI (m + 1), D', N', T')) ∧ f_X8_goMinute n w (nI m) s = some s' ∧ RDY B T0 K cN (m + 1) (m + 1) ca as rk D' T' s' := by
  have X0 := X
  have hC0 := hC
  obtain ⟨rH, b1, hK, b15, hE, hT0, hTk, hear⟩ := X
  obtain ⟨c45, c24, hcar⟩ := hC
  have e6 : h.1 6 = nI E := by rw [rH.2.2.2.2.2.1, b15]
  obtain ⟨D1, N1, T1, s1, p1, p2, p3⟩ := people_both n hn X0 m hm D N T s H
  have un : ∀ self : (Int32 × MS × MS × MS) → Option (MS × MS × MS), ruF n (nI cN) h C self (nI m, D, N, T) = (if ¬ shV B (nI m) then cl (lp (scF n (nI cN) (nI m) h C) n (0, D1, N1, T1)) fun q11 => cl (f_X1_endMinute n (nI m) q11.1 h) fun q9 => self (nI (m + 1), q9, q11.2.1, q11.2.2) else cl (f_X1_endMinute n (nI m) D1 h) fun q9 => self (nI (m + 1), q9, N1, T1)) := by
    intro self
    unfold ruF
    dsimp only
    rw [e6, if_neg (nI_ge hm (by omega)), p1, cl_some, c_shut n (nI m) h B rH, cl_some, nI_succ]
    simp only [bo_0, jn_def]
    rfl
  by_cases hsh : shV B (nI m)
  · -- shut: no car goes
    have idle : ∀ d c fuel, c + d = cN → d < fuel → lp (gK n w (nI m)) fuel (nI c, s1) = gKend n (nI m) s1 := by
      intro d
      induction d with
      | zero =>
        intro c fuel hc hf
        obtain ⟨k, rfl⟩ : ∃ k, fuel = k + 1 := ⟨fuel - 1, by omega⟩
        have e : c = cN := by omega
        subst e
        rw [lp_s, gK_eq, p3.1.2.1.1 45 (by decide) (by decide), c45, if_pos (Int32.le_refl _)]
      | succ d ih =>
        intro c fuel hc hf
        obtain ⟨k, rfl⟩ : ∃ k, fuel = k + 1 := ⟨fuel - 1, by omega⟩
        obtain ⟨r1, r2, r3⟩ := hcar c (by omega)
        rw [lp_s, gK_eq, p3.1.2.1.1 45 (by decide) (by decide), c45, if_neg (nI_ge (by omega) (by omega)), goes_da p3.1.2.1, m_goes n c (nI m) B (by omega) r2, cl_some, ← nI_succ]
        simp only [bo_0]
        rw [ite_not_f (fun q => q.2 hsh)]
        exact ih (c + 1) k (by omega) (by omega)
    obtain ⟨D2, s2, q1, q2, q3⟩ := end_both n hn X0 m hm D1 T1 s1 p3
    refine ⟨D2, N1, T1, s2, fun self => ?_, ?_, q3⟩
    · rw [un, ite_not_t hsh, q1, cl_some]
    · rw [p2]
      exact (idle cN 0 n (by omega) (by omega)).trans q2
  · obtain ⟨D2, N2, T2, s2, q1, q2, q3⟩ := cars_both n hn X0 hC0 o ho hoo m hm hsh cN 0 n D1 N1 T1 s1 (by omega) (by omega) p3
    obtain ⟨D3, s3, r1, r2, r3⟩ := end_both n hn X0 m hm D2 T2 s2 q3
    refine ⟨D3, N2, T2, s3, fun self => ?_, ?_, r3⟩
    · have q1' : lp (scF n (nI cN) (nI m) h C) n (0, D1, N1, T1) = some (D2, N2, T2) := q1
      rw [un, ite_not_f hsh, q1', cl_some, r1, cl_some]
    · rw [p2]
      exact q2.trans r2
