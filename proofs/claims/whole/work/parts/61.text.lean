theorem tk_end {k sn is : Int32} (h : TK k sn is) : (sn = 4) = (k = 1) := by
  have z1 : (1 : Int32).toInt = 1 := by decide
  rcases h with ⟨rfl, rfl⟩ | ⟨rfl, rfl, h3⟩ | ⟨rfl, rfl⟩ | ⟨j, hj, rfl, rfl, rfl⟩ | ⟨rfl, rfl, h3⟩
  · exact propext ⟨fun _ => rfl, fun _ => rfl⟩
  · exact propext ⟨fun q => absurd q (by decide), fun q => by have := SG_rng h3; rw [eq_i, z1] at q; omega⟩
  · exact propext ⟨fun q => absurd q (by decide), fun q => absurd q (by decide)⟩
  · exact propext ⟨fun q => absurd q (by decide), fun q => by have := tkO_rng j hj; rw [eq_i, z1] at q; omega⟩
  · exact propext ⟨fun q => absurd q (by decide), fun q => by have := h3.1; rw [eq_i, num_i h3, z1] at q; omega⟩
def tfin (n : Nat) (s : MS) : Option (Int32 × MS) := if 0 ≤ s.1 27 then fi8 n s else if s.1 31 = 4 then fi8 n s else cl (f_X8_faulty n s) fun q30 => fi8 n q30
theorem tx8_eq (n : Nat) (self : (Int32 × MS) → Option (Int32 × MS)) (k : Int32) (s : MS) : tx8 n self (k, s) = (if 2 < k then tfin n s else if 0 ≤ s.1 27 then tfin n s else cl (f_X8_rule n k s) fun q33 => self (k + 1, q33)) := rfl
theorem lp_s {X ρ : Type} (F : (X → Option ρ) → X → Option ρ) (m : Nat) (x : X) : lp F (m + 1) x = F (lp F m) x := rfl
theorem m_dead (n m : Nat) (k : Int32) (s : MS) (h : 0 ≤ s.1 27) : lp (tx8 n) (m + 1) (k, s) = fi8 n s := by
  rw [lp_s, tx8_eq]
  have e : tfin n s = fi8 n s := by unfold tfin; rw [if_pos h]
  rw [e, if_pos h]
  split <;> rfl
theorem c_dead (n : Nat) (hn : 170 ≤ n) (s : MS) (Z p L : Nat) : ∀ d k m P T, k + d = 3 → d < m → DEAD P s Z p L → IR (T.1 3) 0 160 → ∃ P' T', lp (rd4 n) m (nI k, P, T) = some (s.1 27, P', T') := by
  intro d
  induction d with
  | zero =>
    intro k m P T hk hm hd hT
    obtain ⟨m, rfl⟩ : ∃ j, m = j + 1 := ⟨m - 1, by omega⟩
    have e : k = 3 := by omega
    subst e
    obtain ⟨u1, u2, u3⟩ := DEAD_refuse n hd
    rw [lp_s]
    unfold rd4
    dsimp only
    rw [if_pos (by decide)]
    have hcl : f_X5_close n T = some (ap T 1 3 (T.1 3)) := c_begin n 3 (by omega) T
    unfold f_X4_expect
    rw [hcl, cl_some, if_neg (by rw [hd.2.2.1]; decide), u1, cl_some, cl_some, u3.1]
    exact ⟨_, _, rfl⟩
  | succ d ih =>
    intro k m P T hk hm hd hT
    obtain ⟨m, rfl⟩ : ∃ j, m = j + 1 := ⟨m - 1, by omega⟩
    obtain ⟨P', T', e1, e2, e3⟩ := c_deadpart n hn k (by omega) P T s Z p L hd hT
    rw [lp_s, e1]
    exact ih (k + 1) m P' T' (by omega) (by omega) e2 e3
/-- what has been read, or where the fault is -/
def RES (s s1 : MS) (r : Int32) (T' : MS) : Prop := KP s s1 ∧ ((r = -1 ∧ s1.1 27 = -1 ∧ ∃ e : Nat → Nat, e 0 = 0 ∧ e 3 ≤ 160 ∧ s1.1 26 = nI (e 3) ∧ T'.2 1 3 = nI (e 3) ∧ (∀ k, k < e 3 → stepR (T'.2 0 k) (s1.2 23 (1020 + k)) (s1.2 24 (1020 + k))) ∧ ∀ j, j < 3 → T'.2 1 j = nI (e j) ∧ s1.2 25 (18 + j) = nI (e (j + 1)) ∧ e j ≤ e (j + 1) ∧ dp (T'.2 0) (e j) (e (j + 1) - e j) = some 1) ∨ (r = s1.1 27 ∧ 0 ≤ (s1.1 27).toInt))
theorem read_rest (n : Nat) (hn : 170 ≤ n) (Z : Nat) : ∀ d k m P T s p e, k + d = 3 → d < m → RPC P T s Z → LVK k P T s Z p e → ∃ r P' T' s1, lp (rd4 n) m (nI k, P, T) = some (r, P', T') ∧ lp (tx8 n) m (nI k, s) = fi8 n s1 ∧ RES s s1 r T' := by
  intro d
  induction d with
  | zero =>
    intro k m P T s p e hk hm hc h
    obtain ⟨m, rfl⟩ : ∃ j, m = j + 1 := ⟨m - 1, by omega⟩
    have ek : k = 3 := by omega
    subst ek
    obtain ⟨hl, he0, hparts⟩ := h
    have tk := TKL_tk hl.1.2.2.1
    have hZ := hc.1.2.2.1
    have h27 : s.1 27 = -1 := hl.1.2.1
    have hcl : f_X5_close n T = some (ap T 1 3 (T.1 3)) := c_begin n 3 (by omega) T
    rw [lp_s, lp_s, tx8_eq, if_pos (by decide)]
    have un : ∀ self : (Int32 × MS × MS) → Option (Int32 × MS × MS), rd4 n self (nI 3, P, T) = cl (f_X4_expect n 1 P) fun q9 => some (q9.1 5, q9, ap T 1 3 (T.1 3)) := by
      intro self
      unfold rd4
      dsimp only
      rw [if_pos (by decide), hcl, cl_some]
    rw [un]
    unfold f_X4_expect tfin
    rw [h27, if_neg (show ¬ (0 : Int32) ≤ -1 by decide)]
    simp only [tk_end tk]
    by_cases h1 : P.1 3 = 1
    · obtain ⟨⟨l1, l2, ⟨q, k1, k2, k3, k4, k5, k6, k7⟩, l4, l5, l7, l8⟩, l6⟩ := hl
      obtain ⟨P', s', e1, e2, b1, b2, b3, b4, -⟩ := next_both n hn P s Z q hc.1 hc.2.1 hc.2.2.1 k6 k3 k4
      rw [if_pos h1, if_pos h1, e1, cl_some, cl_some]
      refine ⟨P'.1 5, P', _, s, rfl, rfl, KP_rf s, Or.inl ⟨by rw [b3 5 (by decide) (by decide) (by decide), l1], l2, e, he0, by omega, l5, ?_, fun k hk => ?_, fun j hj => ?_⟩⟩
      · rw [ap2, if_pos rfl, if_pos rfl, l4]
      · rw [ap2, if_neg (by decide)]; exact l8 k hk
      · obtain ⟨g1, g2, g3, g4, g5⟩ := hparts j hj
        refine ⟨by rw [ap2, if_pos rfl, if_neg (by omega)]; exact g1, g2, g3, ?_⟩
        have : (ap T 1 3 (T.1 3)).2 0 = T.2 0 := by funext v; rw [ap2, if_neg (by decide)]
        rw [this]; exact g5
    · obtain ⟨P1, s1, u1, u2, u3, u4⟩ := LIVE_refuse n hc hl
      rw [if_neg h1, if_neg h1, u1, cl_some, cl_some, u2, cl_some]
      exact ⟨P1.1 5, P1, _, s1, rfl, rfl, KP_fr u4, Or.inr ⟨u3.1, u3.2.1⟩⟩
  | succ d ih =>
    intro k m P T s p e hk hm hc h
    obtain ⟨m, rfl⟩ : ∃ j, m = j + 1 := ⟨m - 1, by omega⟩
    have h27 : s.1 27 = -1 := h.1.1.2.1
    obtain ⟨P', T', s', e1, e2, e3, e4, e5⟩ := part_both n hn k (by omega) P T s Z p e hc h
    have k2 : ¬ (2 : Int32) < nI k := by rw [lt_i, nI_toInt (by omega), show (2 : Int32).toInt = 2 by decide]; omega
    rw [lp_s, e1, lp_s, tx8_eq, if_neg k2, h27, if_neg (by decide), e2, cl_some, ← nI_succ]
    rcases e5 with ⟨p', e', g1, g2⟩ | ⟨p', L', g⟩
    · obtain ⟨r, P2, T2, s2, i1, i2, i3, i4⟩ := ih (k + 1) m P' T' s' p' e' (by omega) (by omega) g2 g1
      exact ⟨r, P2, T2, s2, i1, i2, KP_tr e3 i3, i4⟩
    · obtain ⟨P2, T2, i1⟩ := c_dead n hn s' Z p' L' d (k + 1) m P' T' (by omega) (by omega) g e4
      obtain ⟨m, rfl⟩ : ∃ j, m = j + 1 := ⟨m - 1, by omega⟩
      exact ⟨s'.1 27, P2, T2, s', i1, m_dead n m _ s' (by rw [le_i, show (0 : Int32).toInt = 0 by decide]; exact g.2.1), e3, Or.inr ⟨rfl, g.2.1⟩⟩
theorem read_both (n : Nat) (hn : 170 ≤ n) (P T s : MS) (Z : Nat) (hT : TAPE P s Z) (h35 : s.2 35 = st0_X8.2 35) (h36 : s.2 36 = st0_X8.2 36) (h6 : ¬ s.1 21 = 6) : ∃ r P' T' s1, f_X4_read n P T = some (r, P', T') ∧ f_X8_text n s = fi8 n s1 ∧ RES s s1 r T' := by
  obtain ⟨t1, t2, t3, t4⟩ := hT
  have hT2 : TAPE (sp (sp P 2 0) 5 (-1)) (sp (sp (sp (sp s 30 0) 27 (-1)) 28 0) 26 0) Z := ⟨by rw [sp1, if_neg (by decide), sp1, if_neg (by decide), t1], by rw [sp1, if_neg (by decide), sp1, if_neg (by decide), sp1, if_neg (by decide), sp1, if_neg (by decide), t2], t3, t4⟩
  obtain ⟨P1, s1, e1, e2, b1, b2, b3, b4, p, q, b5, b6, b7, b8, b9, b10, b11, b12⟩ := next_both n hn (sp (sp P 2 0) 5 (-1)) (sp (sp (sp (sp s 30 0) 27 (-1)) 28 0) 26 0) Z 0 hT2 h35 h36 (by omega) (by rw [sp1, if_neg (by decide), sp1, if_pos rfl]; rfl) (by rw [sp1, if_neg (by decide), sp1, if_neg (by decide), sp1, if_neg (by decide), sp1, if_pos rfl]; rfl)
  have hc : RPC P1 (sp T 3 0) s1 Z := ⟨⟨by rw [b3 1 (by decide) (by decide) (by decide)]; exact hT2.1, by rw [b4 20 (by decide) (by decide) (by decide) (by decide)]; exact hT2.2.1, t3, by rw [b1, b2]; exact t4⟩, by rw [b2]; exact h35, by rw [b2]; exact h36, by rw [sp1, if_pos rfl]; exact ⟨by decide, by decide⟩⟩
  have kp : KP s s1 := by
    refine ⟨fun k hk => ?_, fun k _ _ _ => by rw [b2]; rfl, fun u _ => by rw [b2]; exact ⟨rfl, rfl⟩, fun u _ => by rw [b2]; rfl⟩
    rw [b4 k (by omega) (by omega) (by omega) (by omega), sp1, if_neg (by omega), sp1, if_neg (by omega), sp1, if_neg (by omega), sp1, if_neg (by omega)]
  have hl : LVK 0 P1 (sp T 3 0) s1 Z p (fun _ => 0) := by
    refine ⟨⟨⟨?_, ?_, ⟨q, b8, b9, b10, b11, b6, b7, b12⟩, by rw [sp1, if_pos rfl]; rfl, ?_, ?_, fun k hk => absurd hk (Nat.not_lt_zero _)⟩, Nat.zero_le _⟩, rfl, fun j hj => absurd hj (Nat.not_lt_zero _)⟩
    · rw [b3 5 (by decide) (by decide) (by decide), sp1, if_pos rfl]
    · rw [b4 27 (by decide) (by decide) (by decide) (by decide), sp1, if_neg (by decide), sp1, if_neg (by decide), sp1, if_pos rfl]
    · rw [b4 26 (by decide) (by decide) (by decide) (by decide), sp1, if_pos rfl]; rfl
    · rw [b4 28 (by decide) (by decide) (by decide) (by decide), sp1, if_neg (by decide), sp1, if_pos rfl]; rfl
  obtain ⟨r, P', T', s2, i1, i2, i3, i4⟩ := read_rest n hn Z 3 0 n P1 (sp T 3 0) s1 p (fun _ => 0) (by omega) (by omega) hc hl
  refine ⟨r, P', T', s2, ?_, ?_, KP_tr kp i3, i4⟩
  · have : f_X4_read n P T = cl (f_X4_next n (sp (sp P 2 0) 5 (-1))) fun q4 => lp (rd4 n) n (0, q4, sp T 3 0) := rfl
    rw [this, e1, cl_some]
    exact i1
  · have : f_X8_text n s = (if s.1 21 = 6 then some (-4, s) else cl (f_X8_next n (sp (sp (sp (sp s 30 0) 27 (-1)) 28 0) 26 0)) fun q6 => lp (tx8 n) n (0, q6)) := rfl
    rw [this, if_neg h6, e2, cl_some]
    exact i2
/-- the reference lays the text down -/
theorem m_store (n : Nat) (hn : 170 ≤ n) (s1 : MS) (t : Nat) (e : Nat → Nat) (ht : t ≤ 5) (h27 : s1.1 27 = -1) (h21 : s1.1 21 = nI t) (he : e 3 ≤ 160) (h26 : s1.1 26 = nI (e 3)) : ∃ s', fi8 n s1 = some (nI t, s') ∧ s'.1 = (fun j => if j = 21 then nI (t + 1) else if j = 20 then 0 else s1.1 j) ∧ (∀ k, k ≠ 23 → k ≠ 24 → k ≠ 25 → s'.2 k = s1.2 k) ∧ (∀ u, s'.2 23 u = if 170 * t ≤ u ∧ u < 170 * t + e 3 then s1.2 23 (1020 + (u - 170 * t)) else s1.2 23 u) ∧ (∀ u, s'.2 24 u = if 170 * t ≤ u ∧ u < 170 * t + e 3 then s1.2 24 (1020 + (u - 170 * t)) else s1.2 24 u) ∧ ∀ u, s'.2 25 u = if 3 * t ≤ u ∧ u < 3 * t + 3 then s1.2 25 (18 + (u - 3 * t)) else s1.2 25 u := by
  have z27 : (sp s1 20 0).1 27 = -1 := by rw [sp1, if_neg (by decide), h27]
  have h1 : fi8 n s1 = lp (cp8 n) n (nI 0, sp s1 20 0) := by
    have : fi8 n s1 = (if (sp s1 20 0).1 27 < 0 then lp (cp8 n) n (0, sp s1 20 0) else some (-100 - (sp s1 20 0).1 27, sp s1 20 0)) := rfl
    rw [this, z27, if_pos (by decide)]
    rfl
  obtain ⟨x, ⟨x1, x2, x3, x4, x5⟩, hx⟩ := lp_to (F := fun (_ : Unit) => cp8 n) (e 3) (fun j x => x.1 = nI j ∧ x.2.1 = (sp s1 20 0).1 ∧ (∀ k, k ≠ 23 → k ≠ 24 → x.2.2 k = s1.2 k) ∧ (∀ u, x.2.2 23 u = if 170 * t ≤ u ∧ u < 170 * t + j then s1.2 23 (1020 + (u - 170 * t)) else s1.2 23 u) ∧ (∀ u, x.2.2 24 u = if 170 * t ≤ u ∧ u < 170 * t + j then s1.2 24 (1020 + (u - 170 * t)) else s1.2 24 u)) (fun _ x => lp (ce8 n) n (nI 0, x.2)) (by
    rintro j ⟨c, x⟩ hj ⟨rfl, y1, y2, y3, y4⟩
    have y1 : x.1 = (sp s1 20 0).1 := y1
    have y2 : ∀ k, k ≠ 23 → k ≠ 24 → x.2 k = s1.2 k := y2
    have y3 : ∀ u, x.2 23 u = if 170 * t ≤ u ∧ u < 170 * t + j then s1.2 23 (1020 + (u - 170 * t)) else s1.2 23 u := y3
    have y4 : ∀ u, x.2 24 u = if 170 * t ≤ u ∧ u < 170 * t + j then s1.2 24 (1020 + (u - 170 * t)) else s1.2 24 u := y4
    have a1 : x.1 26 = nI (e 3) := by rw [y1, sp1, if_neg (by decide), h26]
    have a2 : x.1 21 = nI t := by rw [y1, sp1, if_neg (by decide), h21]
    have a3 : (1020 : Int32) + nI j = nI (1020 + j) := by rw [show (1020 : Int32) = nI 1020 from rfl, nI_ad]
    have a4 : (170 : Int32) * nI t + nI j = nI (170 * t + j) := by rw [show (170 : Int32) = nI 170 from rfl, nI_mu, nI_ad]
    refine ⟨(nI (j + 1), ap (ap x 23 (170 * t + j) (x.2 23 (1020 + j))) 24 (170 * t + j) (x.2 24 (1020 + j))), ⟨rfl, y1, fun k h1 h2 => ?_, fun u => ?_, fun u => ?_⟩, fun _ self => ?_⟩
    · show (ap (ap x 23 _ _) 24 _ _).2 k = _
      funext v; rw [ap2, if_neg h2, ap2, if_neg h1, y2 k h1 h2]
    · show (ap (ap x 23 _ _) 24 _ _).2 23 u = _
      have v : x.2 23 (1020 + j) = s1.2 23 (1020 + j) := by rw [y3, if_neg (by omega)]
      rw [ap2, if_neg (by decide), ap2, if_pos rfl, v]
      by_cases q : u = 170 * t + j
      · rw [if_pos q, if_pos (by omega), show u - 170 * t = j by omega]
      · rw [if_neg q, y3 u]
        by_cases q2 : 170 * t ≤ u ∧ u < 170 * t + j
        · rw [if_pos q2, if_pos (by omega)]
        · rw [if_neg q2, if_neg (by omega)]
    · show (ap (ap x 23 _ _) 24 _ _).2 24 u = _
      have v : x.2 24 (1020 + j) = s1.2 24 (1020 + j) := by rw [y4, if_neg (by omega)]
      have v2 : (ap x 23 (170 * t + j) (x.2 23 (1020 + j))).2 24 u = x.2 24 u := by rw [ap2, if_neg (by decide)]
      rw [ap2, if_pos rfl, v2, v]
      by_cases q : u = 170 * t + j
      · rw [if_pos q, if_pos (by omega), show u - 170 * t = j by omega]
      · rw [if_neg q, y4 u]
        by_cases q2 : 170 * t ≤ u ∧ u < 170 * t + j
        · rw [if_pos q2, if_pos (by omega)]
        · rw [if_neg q2, if_neg (by omega)]
    · unfold cp8
      dsimp only
      rw [a1, if_neg (nI_ge hj (by omega)), a3, ib_j (by omega) (by omega), ck_t, bn_def, a2, a4, ib_j (by omega) (by omega), ck_t, bn_def, ck_t, bn_def, ap1, a2, a4, ib_j (by omega) (by omega), ck_t, bn_def, nI_clamp (by omega), nI_clamp (by omega), ap2, if_neg (by decide), ← nI_succ]) (by
    rintro ⟨c, x⟩ ⟨rfl, y1, -⟩ _ self
    have y1 : x.1 = (sp s1 20 0).1 := y1
    have a1 : x.1 26 = nI (e 3) := by rw [y1, sp1, if_neg (by decide), h26]
    unfold cp8
    dsimp only
    rw [a1, if_pos (Int32.le_refl _)]
    rfl) n (by omega) (nI 0, sp s1 20 0) ⟨rfl, rfl, fun _ _ _ => rfl, fun u => by rw [if_neg (by omega)]; rfl, fun u => by rw [if_neg (by omega)]; rfl⟩
  obtain ⟨y, ⟨y1, y2, y3, y4⟩, hy⟩ := lp_to (F := fun (_ : Unit) => ce8 n) 3 (fun j y => y.1 = nI j ∧ y.2.1 = x.2.1 ∧ (∀ k, k ≠ 25 → y.2.2 k = x.2.2 k) ∧ (∀ u, y.2.2 25 u = if 3 * t ≤ u ∧ u < 3 * t + j then s1.2 25 (18 + (u - 3 * t)) else s1.2 25 u)) (fun _ y => some (nI t, sp y.2 21 (nI (t + 1)))) (by
    rintro j ⟨c, y⟩ hj ⟨rfl, y1, y2, y3⟩
    have y1 : y.1 = x.2.1 := y1
    have y2 : ∀ k, k ≠ 25 → y.2 k = x.2.2 k := y2
    have y3 : ∀ u, y.2 25 u = if 3 * t ≤ u ∧ u < 3 * t + j then s1.2 25 (18 + (u - 3 * t)) else s1.2 25 u := y3
    have a2 : y.1 21 = nI t := by rw [y1, x2, sp1, if_neg (by decide), h21]
    have a3 : (18 : Int32) + nI j = nI (18 + j) := by rw [show (18 : Int32) = nI 18 from rfl, nI_ad]
    have a4 : (3 : Int32) * nI t + nI j = nI (3 * t + j) := by rw [show (3 : Int32) = nI 3 from rfl, nI_mu, nI_ad]
    refine ⟨(nI (j + 1), ap y 25 (3 * t + j) (y.2 25 (18 + j))), ⟨rfl, y1, fun k h1 => ?_, fun u => ?_⟩, fun _ self => ?_⟩
    · show (ap y 25 _ _).2 k = _
      funext v; rw [ap2, if_neg h1, y2 k h1]
    · show (ap y 25 _ _).2 25 u = _
      have v : y.2 25 (18 + j) = s1.2 25 (18 + j) := by rw [y3, if_neg (by omega)]
      rw [ap2, if_pos rfl, v]
      by_cases q : u = 3 * t + j
      · rw [if_pos q, if_pos (by omega), show u - 3 * t = j by omega]
      · rw [if_neg q, y3 u]
        by_cases q2 : 3 * t ≤ u ∧ u < 3 * t + j
        · rw [if_pos q2, if_pos (by omega)]
        · rw [if_neg q2, if_neg (by omega)]
    · unfold ce8
      dsimp only
      rw [if_neg (lge 3 3 rfl hj (by omega)), a3, ib_j (by omega) (by omega), ck_t, bn_def, a2, a4, ib_j (by omega) (by omega), ck_t, bn_def, nI_clamp (by omega), nI_clamp (by omega), ← nI_succ]) (by
    rintro ⟨c, y⟩ ⟨rfl, y1, -⟩ _ self
    have y1 : y.1 = x.2.1 := y1
    have a2 : y.1 21 = nI t := by rw [y1, x2, sp1, if_neg (by decide), h21]
    unfold ce8
    dsimp only
    rw [if_pos (by decide), bn_def, sp1, if_pos rfl, a2, ← nI_succ, nI_pd _ (by omega)]
    rfl) n (by omega) (nI 0, x.2) ⟨rfl, rfl, fun _ _ => rfl, fun u => by
      rw [if_neg (by omega)]
      exact congrFun (x3 25 (by decide) (by decide)) u⟩
  refine ⟨sp y.2 21 (nI (t + 1)), by rw [h1]; exact (hx ()).trans (hy ()), ?_, fun k h1 h2 h3 => ?_, fun u => ?_, fun u => ?_, fun u => y4 u⟩
  · funext j
    rw [sp1, y2, x2, sp1]
  · rw [sp2, y3 k h3, x3 k h1 h2]
  · rw [sp2, y3 23 (by decide)]; exact x4 u
  · rw [sp2, y3 24 (by decide)]; exact x5 u
theorem RTape_0 (P s : MS) (h1 : P.1 1 = 0) (h2 : s.1 20 = 0) : RTape P s := ⟨by rw [h1, h2], by rw [h2]; exact ⟨by decide, by decide⟩, fun i hi => by rw [h2] at hi; exact absurd hi (by rw [show (0 : Int32).toInt = 0 by decide]; omega)⟩
theorem op_text (t0 : MS) (nw n : Nat) (hn : 170 ≤ n) (c : CS) (s : MS) (hr : R t0 nw c s) : SIM t0 nw (f_X7_text n nw c) (f_X8_text n s) := by
  have hr0 := hr
  obtain ⟨rH, rK, rC, rW, rP, rT, rX, rS, rM⟩ := hr
  obtain ⟨m1, m2, m3, m4, m5, m6⟩ := rM
  obtain ⟨t1, t2, t3⟩ := IR_nat (x := s.1 21) (hi := 6) ⟨by have := m2.1; omega, m2.2⟩ (by omega)
  have z6 : (6 : Int32).toInt = 6 := by decide
  have h1t : 1 ≤ (s.1 21).toNatClampNeg := by have := m2.1; omega
  generalize ht : (s.1 21).toNatClampNeg = t at t1 t2 t3 h1t
  unfold f_X7_text
  rw [m1]
  by_cases h6 : s.1 21 = 6
  · rw [if_neg (by rw [h6]; decide)]
    refine ⟨-4, _, s, rfl, ?_, hr0⟩
    have : f_X8_text n s = (if s.1 21 = 6 then some (-4, s) else cl (f_X8_next n (sp (sp (sp (sp s 30 0) 27 (-1)) 28 0) 26 0)) fun q6 => lp (tx8 n) n (0, q6)) := rfl
    rw [this, if_pos h6]
  have ht5 : t ≤ 5 := by
    rw [eq_i, z6] at h6
    omega
  obtain ⟨q1, q2, q3⟩ := IR_nat (x := s.1 20) (hi := 160) rT.2.1 (by omega)
  have hTape : TAPE c.2.2.2.2.2.2.1 s (s.1 20).toNatClampNeg := ⟨by rw [rT.1]; exact q1, q1, q2, fun i hi => rT.2.2 i (by omega)⟩
  obtain ⟨r, P', T', s1, e1, e2, kp, hres⟩ := read_both n hn c.2.2.2.2.2.2.1 (c.2.2.2.2.2.2.2.1 t) s _ hTape m5 m6 h6
  obtain ⟨kp1, kp2, kp3, kp4⟩ := kp
  rw [if_pos (by rw [lt_i, z6]; omega), ib_of (by omega) (by omega), ck_t, ht, e1, cl_some]
  unfold f_X4_empty
  rw [bn_def, cl_some, e2]
  have s121 : s1.1 21 = nI t := by rw [kp1 21 (by omega), t1]
  have hx0 : ∀ (u : Nat), u ≠ t → (va_up c.2.2.2.2.2.2.2.1 t T') u = c.2.2.2.2.2.2.2.1 u := fun u hu => by rw [vu, if_neg hu]
  have hP0 : (sp P' 1 0).1 1 = 0 := by rw [sp1, if_pos rfl]
  rcases hres with ⟨r1, r2, e, g0, g1, g2, g3, g4, g5⟩ | ⟨r1, r2⟩
  · obtain ⟨s', f1, f2, f3, f4, f5, f6⟩ := m_store n hn s1 t e ht5 r2 s121 g1 g2
    rw [if_pos r1, bn_def, f1, t1]
    have ag1 : ∀ k, k ≠ 21 → k ≠ 20 → (k < 26 ∨ 32 < k) → s'.1 k = s.1 k := fun k h1 h2 h3 => by
      rw [f2]; show (if k = 21 then _ else if k = 20 then _ else s1.1 k) = _; rw [if_neg h1, if_neg h2, kp1 k h3]
    have ag2 : ∀ k, k ≠ 23 → k ≠ 24 → k ≠ 25 → s'.2 k = s.2 k := fun k h1 h2 h3 => (f3 k h1 h2 h3).trans (kp2 k h1 h2 h3)
    have g : ∀ ks as, (ks.all (fun k => [1, 15, 16, 17, 22, 46, 47, 48, 49, 50, 51, 6, 10, 18].contains k)) = true → (as.all (fun k => [2, 3, 4, 5, 14, 52, 53, 54, 55, 56, 7, 8, 9, 11, 12, 13, 57, 58, 59, 35, 36].contains k)) = true → AG ks as s s' := by
      intro ks as h1 h2
      refine AG_sub (ks := [1, 15, 16, 17, 22, 46, 47, 48, 49, 50, 51, 6, 10, 18]) (as := [2, 3, 4, 5, 14, 52, 53, 54, 55, 56, 7, 8, 9, 11, 12, 13, 57, 58, 59, 35, 36]) ⟨fun k hk => ?_, fun k hk => ?_⟩ h1 h2
      · simp only [List.mem_cons, List.mem_nil_iff, or_false] at hk
        exact ag1 k (by omega) (by omega) (by omega)
      · simp only [List.mem_cons, List.mem_nil_iff, or_false] at hk
        exact ag2 k (by omega) (by omega) (by omega)
    have s'21 : s'.1 21 = nI (t + 1) := by rw [f2]; rfl
    have s'20 : s'.1 20 = 0 := by rw [f2]; rfl
    have v21 : (s'.1 21).toInt = (t : Int) + 1 := by rw [s'21, nI_toInt (by omega)]; omega
    refine ⟨nI t, _, s', rfl, rfl, RHill_ag rH (g _ _ (by decide) (by decide)), ?_, RCars_ag rC (g _ _ (by decide) (by decide)) trivial, ?_, rP, RTape_0 _ _ hP0 s'20, ?_, RSheets_ag rS (g _ _ (by decide) (by decide)), ?_⟩
    · obtain ⟨a1, a2, a3, a4, a5⟩ := rK
      have gk := g [46, 47, 48, 49, 50, 51] [52, 53, 54, 55, 56] (by decide) (by decide)
      unfold RKept
      rw [gk.1 46 (by decide), gk.1 47 (by decide), gk.1 48 (by decide), gk.1 49 (by decide), gk.1 50 (by decide), gk.1 51 (by decide), gk.2 52 (by decide), gk.2 53 (by decide), gk.2 54 (by decide), gk.2 55 (by decide), gk.2 56 (by decide), v21]
      refine ⟨by show (sp c.1 9 (nI t + 1)).1 2 = _; rw [sp1, if_neg (by decide)]; exact a1, a2, a3, a4, fun h => ?_⟩
      obtain ⟨b1, b2, b3, b4, b5, b6, b7, b8, b9, b10, b11⟩ := a5 h
      exact ⟨b1, b2, b3, b4, b5, b6, b7, b8, b9, b10, by omega⟩
    · obtain ⟨w1, w2⟩ := RWays_ag rW (g _ _ (by decide) (by decide))
      exact ⟨by show (sp c.1 9 (nI t + 1)).1 5 = _; rw [sp1, if_neg (by decide)]; exact w1, w2⟩
    · obtain ⟨x1, x2, x3⟩ := rX
      refine ⟨?_, ?_, fun u hu1 hu2 => ?_⟩
      · show ((va_up c.2.2.2.2.2.2.2.1 t T') 0).2 0 = _; rw [hx0 0 (by omega)]; exact x1
      · show ((va_up c.2.2.2.2.2.2.2.1 t T') 0).2 1 = _; rw [hx0 0 (by omega)]; exact x2
      · show TXT ((va_up c.2.2.2.2.2.2.2.1 t T') u) s' u
        rw [v21] at hu2
        by_cases eu : u = t
        · subst eu
          rw [vu, if_pos rfl]
          obtain ⟨p01, p02, p03, p04⟩ := g5 0 (by omega)
          obtain ⟨p11, p12, p13, p14⟩ := g5 1 (by omega)
          obtain ⟨p21, p22, p23, p24⟩ := g5 2 (by omega)
          have n1 : s'.2 25 (3 * u) = nI (e 1) := by rw [f6, if_pos (by omega), show 3 * u - 3 * u = 0 by omega]; exact p02
          have n2 : s'.2 25 (3 * u + 1) = nI (e 2) := by rw [f6, if_pos (by omega), show 3 * u + 1 - 3 * u = 1 by omega]; exact p12
          have n3 : s'.2 25 (3 * u + 2) = nI (e 3) := by rw [f6, if_pos (by omega), show 3 * u + 2 - 3 * u = 2 by omega]; exact p22
          refine ⟨e 1, e 2, e 3, p13, p23, g1, by rw [p01, g0]; rfl, p11, p21, g3, n1, n2, n3, ?_, p14, p24, fun k hk => ?_⟩
          · rw [g0] at p04; exact p04
          · rw [f4, f5, if_pos (by omega), if_pos (by omega), show 170 * u + k - 170 * u = k by omega]
            exact g4 k hk
        · rw [hx0 u eu]
          obtain ⟨e0, e1', e2', k1, k2, k3, k4, k5, k6, k7, k8, k9, k10, k11, k12, k13, k14⟩ := x3 u hu1 (by omega)
          refine ⟨e0, e1', e2', k1, k2, k3, k4, k5, k6, k7, ?_, ?_, ?_, k11, k12, k13, fun k hk => ?_⟩
          · rw [f6, if_neg (by omega), kp4 _ (by omega)]; exact k8
          · rw [f6, if_neg (by omega), kp4 _ (by omega)]; exact k9
          · rw [f6, if_neg (by omega), kp4 _ (by omega)]; exact k10
          · rw [f4, f5, if_neg (by omega), if_neg (by omega), (kp3 _ (by omega)).1, (kp3 _ (by omega)).2]; exact k14 k hk
    · have gm := g [18, 22] [35, 36] (by decide) (by decide)
      refine ⟨by show (sp c.1 9 (nI t + 1)).1 9 = _; rw [sp1, if_pos rfl, s'21, nI_succ], by rw [s'21]; exact ⟨by rw [nI_toInt (by omega)]; omega, by rw [nI_toInt (by omega)]; omega⟩, by rw [gm.1 18 (by decide)]; exact m3, by rw [gm.1 22 (by decide), v21]; omega, by rw [gm.2 35 (by decide)]; exact m5, by rw [gm.2 36 (by decide)]; exact m6⟩
  · have hne : ¬ r = -1 := by
      rw [r1, eq_i, show (-1 : Int32).toInt = -1 by decide]; omega
    have hf : fi8 n s1 = some (-100 - s1.1 27, sp s1 20 0) := by
      have : fi8 n s1 = (if (sp s1 20 0).1 27 < 0 then lp (cp8 n) n (0, sp s1 20 0) else some (-100 - (sp s1 20 0).1 27, sp s1 20 0)) := rfl
      have z27 : (sp s1 20 0).1 27 = s1.1 27 := by rw [sp1, if_neg (by decide)]
      rw [this, z27, if_neg (by rw [lt_i, show (0 : Int32).toInt = 0 by decide]; omega)]
    rw [if_neg hne, hf, r1]
    have ag1 : ∀ k, k ≠ 20 → (k < 26 ∨ 32 < k) → (sp s1 20 0).1 k = s.1 k := fun k h1 h3 => by rw [sp1, if_neg h1, kp1 k h3]
    have g : ∀ ks as, (ks.all (fun k => [1, 15, 16, 17, 22, 46, 47, 48, 49, 50, 51, 6, 10, 18, 21].contains k)) = true → (as.all (fun k => [2, 3, 4, 5, 14, 52, 53, 54, 55, 56, 7, 8, 9, 11, 12, 13, 57, 58, 59, 35, 36].contains k)) = true → AG ks as s (sp s1 20 0) := by
      intro ks as h1 h2
      refine AG_sub (ks := [1, 15, 16, 17, 22, 46, 47, 48, 49, 50, 51, 6, 10, 18, 21]) (as := [2, 3, 4, 5, 14, 52, 53, 54, 55, 56, 7, 8, 9, 11, 12, 13, 57, 58, 59, 35, 36]) ⟨fun k hk => ?_, fun k hk => ?_⟩ h1 h2
      · simp only [List.mem_cons, List.mem_nil_iff, or_false] at hk
        exact ag1 k (by omega) (by omega)
      · simp only [List.mem_cons, List.mem_nil_iff, or_false] at hk
        exact kp2 k (by omega) (by omega) (by omega)
    refine ⟨-100 - s1.1 27, _, sp s1 20 0, rfl, rfl, RHill_ag rH (g _ _ (by decide) (by decide)), RKept_ag rK (g _ _ (by decide) (by decide)), RCars_ag rC (g _ _ (by decide) (by decide)) trivial, RWays_ag rW (g _ _ (by decide) (by decide)), rP, RTape_0 _ _ hP0 (by rw [sp1, if_pos rfl]), ?_, RSheets_ag rS (g _ _ (by decide) (by decide)), RMisc_ag ⟨m1, m2, m3, m4, m5, m6⟩ (g _ _ (by decide) (by decide))⟩
    obtain ⟨x1, x2, x3⟩ := rX
    refine ⟨?_, ?_, fun u hu1 hu2 => ?_⟩
    · show ((va_up c.2.2.2.2.2.2.2.1 t T') 0).2 0 = _; rw [hx0 0 (by omega)]; exact x1
    · show ((va_up c.2.2.2.2.2.2.2.1 t T') 0).2 1 = _; rw [hx0 0 (by omega)]; exact x2
    · show TXT ((va_up c.2.2.2.2.2.2.2.1 t T') u) (sp s1 20 0) u
      have hu3 : (u : Int) < (t : Int) := by rw [ag1 21 (by decide) (by omega)] at hu2; omega
      rw [hx0 u (by omega)]
      obtain ⟨e0, e1', e2', k1, k2, k3, k4, k5, k6, k7, k8, k9, k10, k11, k12, k13, k14⟩ := x3 u hu1 (by omega)
      refine ⟨e0, e1', e2', k1, k2, k3, k4, k5, k6, k7, ?_, ?_, ?_, k11, k12, k13, fun k hk => ?_⟩
      · rw [sp2, kp4 _ (by omega)]; exact k8
      · rw [sp2, kp4 _ (by omega)]; exact k9
      · rw [sp2, kp4 _ (by omega)]; exact k10
      · rw [sp2, (kp3 _ (by omega)).1, (kp3 _ (by omega)).2]; exact k14 k hk
