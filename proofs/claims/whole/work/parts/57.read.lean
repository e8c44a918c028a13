-- READING, both ways: what holds between the two readers
theorem dp_congr {f g : Nat → Int32} {lo : Nat} : ∀ k, (∀ i, i < k → f (lo + i) = g (lo + i)) → dp f lo k = dp g lo k
  | 0, _ => rfl
  | k + 1, h => by
    have e := dp_congr (f := f) (g := g) (lo := lo) k (fun i hi => h i (by omega))
    simp only [dp, e, h k (by omega)]
theorem m_isSign (n : Nat) (b : Int32) (s : MS) : f_X8_isSign n b s = some (bo (s.1 27 < 0 ∧ s.1 31 = 3 ∧ s.1 32 = b)) := by
  unfold f_X8_isSign bo
  by_cases h1 : 0 ≤ s.1 27
  · rw [if_pos h1, if_neg (fun q => absurd q.1 (Int32.not_lt.mpr h1))]; rfl
  have h1' := Int32.not_le.mp h1
  rw [if_neg h1]
  by_cases h2 : s.1 31 = 3
  · by_cases h3 : s.1 32 = b
    · rw [if_pos h2, if_pos h3, if_pos ⟨h1', h2, h3⟩]; rfl
    · rw [if_pos h2, if_neg h3, if_neg (fun q => h3 q.2.2)]; rfl
  · rw [if_neg h2, if_neg (fun q => h2 q.2.1)]; rfl
theorem m_isKey (n : Nat) (b : Int32) (s : MS) : f_X8_isKey n b s = some (bo (s.1 27 < 0 ∧ s.1 31 = 1 ∧ s.1 32 = b)) := by
  unfold f_X8_isKey bo
  by_cases h1 : 0 ≤ s.1 27
  · rw [if_pos h1, if_neg (fun q => absurd q.1 (Int32.not_lt.mpr h1))]; rfl
  have h1' := Int32.not_le.mp h1
  rw [if_neg h1]
  by_cases h2 : s.1 31 = 1
  · by_cases h3 : s.1 32 = b
    · rw [if_pos h2, if_pos h3, if_pos ⟨h1', h2, h3⟩]; rfl
    · rw [if_pos h2, if_neg h3, if_neg (fun q => h3 q.2.2)]; rfl
  · rw [if_neg h2, if_neg (fun q => h2 q.2.1)]; rfl
def TK (k sn is : Int32) : Prop := (k = 1 ∧ sn = 4) ∨ TKN k sn is
theorem tkO_rng : ∀ j, j < 12 → 256 ≤ (tkO j).toInt ∧ (tkO j).toInt ≤ 305 ∧ 0 ≤ (mnO j).toInt ∧ (mnO j).toInt ≤ 15 := by decide +kernel
theorem tkO_inj : ∀ i, i < 12 → ∀ j, j < 12 → ((tkO i = tkO j) = (i = j) ∧ (mnO i = mnO j) = (i = j)) := by
  have h : ∀ i, i < 12 → ∀ j, j < 12 → ((tkO i = tkO j) ↔ (i = j)) ∧ ((mnO i = mnO j) ↔ (i = j)) := by decide +kernel
  intro i hi j hj
  exact ⟨propext (h i hi j hj).1, propext (h i hi j hj).2⟩
theorem tkO_hi : ∀ j, j < 12 → ((300 ≤ (tkO j).toInt) ↔ (j < 6)) ∧ (((mnO j).toInt < 6) ↔ (j < 6)) ∧ (j < 6 → tkO j - 300 = mnO j) := by decide +kernel
theorem SG_rng {b : Int32} (h : SG b) : 40 ≤ b.toInt ∧ b.toInt ≤ 61 := by
  rcases h with e | e | e | e | e | e | e | e <;> rw [e] <;> decide
theorem num_i {is : Int32} (h : IR is 0 9999) : (1000 + is).toInt = 1000 + is.toInt := by
  have z : (1000 : Int32).toInt = 1000 := by decide
  rw [add_i _ _ (by rw [z]; have := h.1; have := h.2; omega), z]
theorem tk_sign {k sn is b : Int32} (h : TK k sn is) (hb : SG b) : (k = b) = (sn = 3 ∧ is = b) := by
  obtain ⟨b1, b2⟩ := SG_rng hb
  have z1 : (1 : Int32).toInt = 1 := by decide
  have z0 : (0 : Int32).toInt = 0 := by decide
  rcases h with ⟨rfl, rfl⟩ | ⟨rfl, rfl, h3⟩ | ⟨rfl, rfl⟩ | ⟨j, hj, rfl, rfl, rfl⟩ | ⟨rfl, rfl, h3⟩
  · exact propext ⟨fun q => by rw [eq_i, z1] at q; omega, fun q => absurd q.1 (by decide)⟩
  · exact propext ⟨fun q => ⟨rfl, q⟩, fun q => q.2⟩
  · exact propext ⟨fun q => by rw [eq_i, z0] at q; omega, fun q => absurd q.1 (by decide)⟩
  · exact propext ⟨fun q => by rw [eq_i] at q; have := tkO_rng j hj; omega, fun q => absurd q.1 (by decide)⟩
  · exact propext ⟨fun q => by rw [eq_i, num_i h3] at q; have := h3.1; omega, fun q => absurd q.1 (by decide)⟩
theorem tk_key {k sn is : Int32} (h : TK k sn is) (i : Nat) (hi : i < 12) : (k = tkO i) = (sn = 1 ∧ is = mnO i) := by
  have b := tkO_rng i hi
  have z1 : (1 : Int32).toInt = 1 := by decide
  have z0 : (0 : Int32).toInt = 0 := by decide
  rcases h with ⟨rfl, rfl⟩ | ⟨rfl, rfl, h3⟩ | ⟨rfl, rfl⟩ | ⟨j, hj, rfl, rfl, rfl⟩ | ⟨rfl, rfl, h3⟩
  · exact propext ⟨fun q => by rw [eq_i, z1] at q; omega, fun q => absurd q.1 (by decide)⟩
  · exact propext ⟨fun q => by have := SG_rng h3; rw [eq_i] at q; omega, fun q => absurd q.1 (by decide)⟩
  · exact propext ⟨fun q => by rw [eq_i, z0] at q; omega, fun q => absurd q.1 (by decide)⟩
  · rw [(tkO_inj j hj i hi).1, (tkO_inj j hj i hi).2]; exact propext ⟨fun q => ⟨rfl, q⟩, fun q => q.2⟩
  · exact propext ⟨fun q => by rw [eq_i, num_i h3] at q; have := h3.1; omega, fun q => absurd q.1 (by decide)⟩
/-- a token that is a number, a name, or neither -/
theorem tk_one {k sn is : Int32} (h : TK k sn is) : (sn = 2 ∧ k = 1000 + is ∧ IR is 0 9999 ∧ ¬ k < 300) ∨ (sn = 1 ∧ is < 6 ∧ ¬ k < 300 ∧ is = k - 300 ∧ 300 ≤ k.toInt ∧ k.toInt < 306) ∨ (k < 300 ∧ ¬ sn = 2 ∧ (sn = 1 → 6 ≤ is)) := by
  have z300 : (300 : Int32).toInt = 300 := by decide
  have z6 : (6 : Int32).toInt = 6 := by decide
  rcases h with ⟨rfl, rfl⟩ | ⟨rfl, rfl, h3⟩ | ⟨rfl, rfl⟩ | ⟨j, hj, rfl, rfl, rfl⟩ | ⟨rfl, rfl, h3⟩
  · exact Or.inr (Or.inr ⟨by decide, by decide, fun q => absurd q (by decide)⟩)
  · refine Or.inr (Or.inr ⟨by rw [lt_i, z300]; have := SG_rng h3; omega, by decide, fun q => absurd q (by decide)⟩)
  · exact Or.inr (Or.inr ⟨by decide, by decide, fun q => absurd q (by decide)⟩)
  · obtain ⟨c1, c2, c3⟩ := tkO_hi j hj
    by_cases hj6 : j < 6
    · have := c1.mpr hj6
      have := tkO_rng j hj
      refine Or.inr (Or.inl ⟨rfl, by rw [lt_i, z6]; exact c2.mpr hj6, by rw [lt_i, z300]; omega, (c3 hj6).symm, by omega, by omega⟩)
    · refine Or.inr (Or.inr ⟨by rw [lt_i, z300]; exact Int.not_le.mp (fun q => hj6 (c1.mp q)), by decide, fun _ => by rw [le_i, z6]; exact Int.not_lt.mp (fun q => hj6 (c2.mp q))⟩)
  · exact Or.inl ⟨rfl, rfl, h3, by rw [lt_i, z300, num_i h3]; have := h3.1; omega⟩
def TKL (P s : MS) (Z p : Nat) : Prop := ∃ q, P.1 4 = nI p ∧ s.1 29 = nI p ∧ P.1 2 = nI q ∧ s.1 30 = nI q ∧ p ≤ q ∧ q ≤ Z ∧ ((p = Z ∧ P.1 3 = 1 ∧ s.1 31 = 4) ∨ (p < q ∧ TKN (P.1 3) (s.1 31) (s.1 32)))
theorem TKL_tk {P s : MS} {Z p : Nat} (h : TKL P s Z p) : TK (P.1 3) (s.1 31) (s.1 32) := by
  obtain ⟨q, -, -, -, -, -, -, ⟨-, h1, h2⟩ | ⟨-, h1⟩⟩ := h
  · exact Or.inl ⟨h1, h2⟩
  · exact Or.inr h1
/-- what stays while a text is read -/
def RPC (P T s : MS) (Z : Nat) : Prop := TAPE P s Z ∧ s.2 35 = st0_X8.2 35 ∧ s.2 36 = st0_X8.2 36 ∧ IR (T.1 3) 0 160
/-- no fault yet -/
def LIVE0 (P T s : MS) (Z p L a : Nat) : Prop := P.1 5 = -1 ∧ s.1 27 = -1 ∧ TKL P s Z p ∧ T.1 3 = nI L ∧ s.1 26 = nI L ∧ s.1 28 = nI a ∧ ∀ k, k < L → stepR (T.2 0 k) (s.2 23 (1020 + k)) (s.2 24 (1020 + k))
def LIVE (P T s : MS) (Z p L a : Nat) : Prop := LIVE0 P T s Z p L a ∧ L ≤ p
/-- a fault -/
def DEAD (P s : MS) (Z p L : Nat) : Prop := P.1 5 = s.1 27 ∧ 0 ≤ (s.1 27).toInt ∧ P.1 3 = 0 ∧ s.1 26 = nI L ∧ L ≤ p ∧ p ≤ Z
def FR (P T s P' T' s' : MS) : Prop := P'.2 = P.2 ∧ P'.1 1 = P.1 1 ∧ T'.2 1 = T.2 1 ∧ (∀ k, k < 26 ∨ 32 < k → s'.1 k = s.1 k) ∧ (∀ k, k ≠ 23 → k ≠ 24 → s'.2 k = s.2 k) ∧ (∀ u, u < 1020 → s'.2 23 u = s.2 23 u ∧ s'.2 24 u = s.2 24 u) ∧ IR (T'.1 3) 0 160
theorem FR_rf {P T s : MS} (h : IR (T.1 3) 0 160) : FR P T s P T s := ⟨rfl, rfl, rfl, fun _ _ => rfl, fun _ _ _ => rfl, fun _ _ => ⟨rfl, rfl⟩, h⟩
theorem FR_tr {P T s P1 T1 s1 P2 T2 s2 : MS} (h : FR P T s P1 T1 s1) (g : FR P1 T1 s1 P2 T2 s2) : FR P T s P2 T2 s2 := by
  obtain ⟨a1, a2, a3, a4, a5, a6, a7⟩ := h
  obtain ⟨b1, b2, b3, b4, b5, b6, b7⟩ := g
  exact ⟨b1.trans a1, b2.trans a2, b3.trans a3, fun k hk => (b4 k hk).trans (a4 k hk), fun k h1 h2 => (b5 k h1 h2).trans (a5 k h1 h2), fun u hu => ⟨(b6 u hu).1.trans (a6 u hu).1, (b6 u hu).2.trans (a6 u hu).2⟩, b7⟩
theorem RPC_fr {P T s P' T' s' : MS} {Z : Nat} (h : RPC P T s Z) (g : FR P T s P' T' s') : RPC P' T' s' Z := by
  obtain ⟨⟨t1, t2, t3, t4⟩, h2, h3, h4⟩ := h
  obtain ⟨a1, a2, a3, a4, a5, a6, a7⟩ := g
  exact ⟨⟨by rw [a2, t1], by rw [a4 20 (by omega), t2], t3, fun i hi => by rw [a1, a5 19 (by decide) (by decide)]; exact t4 i hi⟩, by rw [a5 35 (by decide) (by decide), h2], by rw [a5 36 (by decide) (by decide), h3], a7⟩
/-- how far it came: what was laid, and how it stacks -/
def PR (T : MS) (L p : Nat) (T' : MS) (L' p' e : Nat) : Prop := L ≤ L' ∧ L' + p ≤ p' + L ∧ p ≤ p' ∧ (∀ k, k < L → T'.2 0 k = T.2 0 k) ∧ ∀ lo d, lo ≤ L → dp (T.2 0) lo (L - lo) = some d → dp (T'.2 0) lo (L' - lo) = some (d + e)
theorem PR_rf (T : MS) (L p p' : Nat) (h : p ≤ p') : PR T L p T L p' 0 := ⟨Nat.le_refl _, by omega, h, fun _ _ => rfl, fun _ _ _ h => h⟩
theorem PR_tr {T T1 T2 : MS} {L p L1 p1 L2 p2 e1 e2 : Nat} (h : PR T L p T1 L1 p1 e1) (g : PR T1 L1 p1 T2 L2 p2 e2) : PR T L p T2 L2 p2 (e1 + e2) := by
  obtain ⟨a1, a2, a3, a4, a5⟩ := h
  obtain ⟨b1, b2, b3, b4, b5⟩ := g
  refine ⟨by omega, by omega, by omega, fun k hk => (b4 k (by omega)).trans (a4 k hk), fun lo d hlo hd => ?_⟩
  rw [← Nat.add_assoc]
  exact b5 lo _ (by omega) (a5 lo d hlo hd)
/-- one step more is laid -/
theorem PR_add {T T1 T2 : MS} {L p L1 p1 e e' : Nat} {x : Int32} (h : PR T L p T1 L1 p1 e) (hp : L1 + 1 + p ≤ p1 + L) (hx : T2.2 0 L1 = x) (hs : ∀ k, k < L1 → T2.2 0 k = T1.2 0 k) (he : (300 ≤ x ∧ e' = e + 1) ∨ (¬ 300 ≤ x ∧ (x = 258 ∨ x = 259) ∧ 1 ≤ e ∧ e' = e) ∨ (¬ 300 ≤ x ∧ ¬ (x = 258 ∨ x = 259) ∧ 2 ≤ e ∧ e' + 1 = e)) : PR T L p T2 (L1 + 1) p1 e' := by
  obtain ⟨a1, a2, a3, a4, a5⟩ := h
  refine ⟨by omega, by omega, a3, fun k hk => (hs k (by omega)).trans (a4 k hk), fun lo d hlo hd => ?_⟩
  have h1 := a5 lo d hlo hd
  have e1 : L1 + 1 - lo = (L1 - lo) + 1 := by omega
  have e2 : lo + (L1 - lo) = L1 := by omega
  have h2 : dp (T2.2 0) lo (L1 - lo) = some (d + e) := by
    rw [dp_congr (g := T1.2 0) _ (fun i hi => hs (lo + i) (by omega)), h1]
  rw [e1, dp_s h2, e2, hx]
  rcases he with ⟨g1, g2⟩ | ⟨g1, g2, g3, g4⟩ | ⟨g1, g2, g3, g4⟩
  · rw [if_pos g1, g2]; rfl
  · rw [if_neg g1, if_pos g2, if_pos (by omega), g4]
  · rw [if_neg g1, if_neg g2, if_pos (by omega)]
    congr 1
    omega
def OUT (P T s : MS) (Z p L a e b : Nat) (P' T' s' : MS) : Prop := FR P T s P' T' s' ∧ ((∃ p' L', LIVE P' T' s' Z p' L' a ∧ b < p' ∧ PR T L p T' L' p' e) ∨ ∃ p' L', DEAD P' s' Z p' L' ∧ p ≤ p' ∧ L' + p ≤ p' + L)
theorem LIVE_next (n : Nat) (hn : 170 ≤ n) {P T s : MS} {Z p L a : Nat} (hc : RPC P T s Z) (h : LIVE0 P T s Z p L a) (hL : L ≤ p + 1) (ht : ¬ P.1 3 = 1) : ∃ P' s' p', f_X4_next n P = some P' ∧ f_X8_next n s = some s' ∧ LIVE P' T s' Z p' L a ∧ p < p' ∧ FR P T s P' T s' := by
  obtain ⟨h1, h2, ⟨q, k1, k2, k3, k4, k5, k6, k7⟩, h4, h5, h7, h8⟩ := h
  have hpq : p < q := by
    rcases k7 with ⟨-, e, -⟩ | ⟨e, -⟩
    · exact absurd e ht
    · exact e
  obtain ⟨P', s', e1, e2, b1, b2, b3, b4, p', q', b5, b6, b7, b8, b9, b10, b11, b12⟩ := next_both n hn P s Z q hc.1 hc.2.1 hc.2.2.1 k6 k3 k4
  refine ⟨P', s', p', e1, e2, ⟨⟨by rw [b3 5 (by decide) (by decide) (by decide), h1], by rw [b4 27 (by decide) (by decide) (by decide) (by decide), h2], ⟨q', b8, b9, b10, b11, b6, b7, b12⟩, h4, by rw [b4 26 (by decide) (by decide) (by decide) (by decide), h5], by rw [b4 28 (by decide) (by decide) (by decide) (by decide), h7], by rw [b2]; exact h8⟩, by omega⟩, by omega, b1, b3 1 (by decide) (by decide) (by decide), rfl, fun k hk => b4 k (by omega) (by omega) (by omega) (by omega), fun k _ _ => by rw [b2], fun u _ => by rw [b2]; exact ⟨rfl, rfl⟩, hc.2.2.2⟩
theorem c_add (n : Nat) (x : Int32) (T : MS) (h : IR (T.1 3) 0 160) : ∃ T', f_X5_add n x T = some T' ∧ T'.2 1 = T.2 1 ∧ IR (T'.1 3) 0 160 ∧ ∀ L, T.1 3 = nI L → L < 160 → T'.1 3 = nI (L + 1) ∧ T'.2 0 L = x ∧ ∀ k, k < L → T'.2 0 k = T.2 0 k := by
  have z160 : (160 : Int32).toInt = 160 := by decide
  unfold f_X5_add
  by_cases hlt : T.1 3 < 160
  · have hlt' := hlt
    rw [lt_i, z160] at hlt'
    have hi := inc_i (T.1 3) h.1 (by omega)
    rw [if_pos hlt, ib_of h.1 hlt', ck_t, bn_def, bn_def]
    refine ⟨_, rfl, ?_, ?_, fun L hL h160 => ⟨?_, ?_, fun k hk => ?_⟩⟩
    · funext u; rw [sp2, ap2, if_neg (by decide)]
    · rw [sp1, if_pos rfl, ap1]; exact ⟨by have := h.1; omega, by omega⟩
    · rw [sp1, if_pos rfl, ap1, hL, nI_succ]
    · rw [sp2, ap2, if_pos rfl, hL, nI_clamp (by omega), if_pos rfl]
    · rw [sp2, ap2, if_pos rfl, hL, nI_clamp (by omega), if_neg (by omega)]
  · rw [if_neg hlt]
    refine ⟨T, rfl, rfl, h, fun L hL h160 => ?_⟩
    rw [hL, lt_i, z160, nI_toInt (by omega)] at hlt
    omega
theorem m_addStep (n : Nat) (c v : Int32) (s : MS) (L : Nat) (hL : s.1 26 = nI L) (h : L < 170) : ∃ s', f_X8_addStep n c v s = some s' ∧ s'.1 26 = nI (L + 1) ∧ (∀ k, k ≠ 26 → s'.1 k = s.1 k) ∧ (∀ k, k ≠ 23 → k ≠ 24 → s'.2 k = s.2 k) ∧ (∀ u, s'.2 23 u = if u = 1020 + L then c else s.2 23 u) ∧ ∀ u, s'.2 24 u = if u = 1020 + L then v else s.2 24 u := by
  have e : (1020 : Int32) + nI L = nI (1020 + L) := by rw [show (1020 : Int32) = nI 1020 from rfl, nI_ad]
  unfold f_X8_addStep
  rw [hL, e, ib_j (by omega) (by omega), ck_t, bn_def, ap1, hL, e, ib_j (by omega) (by omega), ck_t, bn_def, bn_def, ap1, ap1, hL, nI_clamp (by omega)]
  refine ⟨_, rfl, by rw [sp1, if_pos rfl, nI_succ], fun k hk => by rw [sp1, if_neg hk, ap1, ap1], fun k h1 h2 => ?_, fun u => ?_, fun u => ?_⟩
  · funext u; rw [sp2, ap2, if_neg h2, ap2, if_neg h1]
  · rw [sp2, ap2, if_neg (by decide), ap2, if_pos rfl]
  · rw [sp2, ap2, if_pos rfl]
    split
    · rfl
    · rw [ap2, if_neg (by decide)]
/-- both lay the same step -/
theorem LIVE_add (n : Nat) {P T s : MS} {Z p L a : Nat} (hc : RPC P T s Z) (h : LIVE0 P T s Z p L a) (hlt : L < 160) {x c v : Int32} (hx : stepR x c v) : ∃ T' s', f_X5_add n x T = some T' ∧ f_X8_addStep n c v s = some s' ∧ LIVE0 P T' s' Z p (L + 1) a ∧ FR P T s P T' s' ∧ T'.2 0 L = x ∧ ∀ k, k < L → T'.2 0 k = T.2 0 k := by
  obtain ⟨h1, h2, h3, h4, h5, h7, h8⟩ := h
  obtain ⟨T', e1, a1, a2, a3⟩ := c_add n x T hc.2.2.2
  obtain ⟨b1, b2, b3⟩ := a3 L h4 (by omega)
  obtain ⟨s', e2, d1, d2, d3, d4, d5⟩ := m_addStep n c v s L h5 (by omega)
  refine ⟨T', s', e1, e2, ⟨h1, by rw [d2 27 (by decide), h2], ?_, b1, d1, by rw [d2 28 (by decide), h7], fun k hk => ?_⟩, ⟨rfl, rfl, a1, fun k hk => d2 k (by omega), d3, fun u hu => ⟨by rw [d4, if_neg (by omega)], by rw [d5, if_neg (by omega)]⟩, a2⟩, b2, b3⟩
  · obtain ⟨q, k1, k2, k3, k4, k5, k6, k7⟩ := h3
    refine ⟨q, k1, by rw [d2 29 (by decide), k2], k3, by rw [d2 30 (by decide), k4], k5, k6, ?_⟩
    rw [d2 31 (by decide), d2 32 (by decide)]
    exact k7
  · rw [d4, d5]
    by_cases e : k = L
    · subst e; rw [if_pos rfl, if_pos rfl, b2]; exact hx
    · rw [if_neg (by omega), if_neg (by omega), b3 k (by omega)]; exact h8 k (by omega)
/-- both lay a step behind a fault: it counts for nothing -/
theorem DEAD_add (n : Nat) {P T s : MS} {Z p L : Nat} (hc : RPC P T s Z) (h : DEAD P s Z p L) (hlt : L < p) (x c v : Int32) : ∃ T' s', f_X5_add n x T = some T' ∧ f_X8_addStep n c v s = some s' ∧ DEAD P s' Z p (L + 1) ∧ FR P T s P T' s' := by
  obtain ⟨h1, h2, h3, h4, h5, h6⟩ := h
  obtain ⟨T', e1, a1, a2, a3⟩ := c_add n x T hc.2.2.2
  obtain ⟨s', e2, d1, d2, d3, d4, d5⟩ := m_addStep n c v s L h4 (by have := hc.1.2.2.1; omega)
  exact ⟨T', s', e1, e2, ⟨by rw [d2 27 (by decide), h1], by rw [d2 27 (by decide)]; exact h2, h3, d1, by omega, h6⟩, rfl, rfl, a1, fun k hk => d2 k (by omega), d3, fun u hu => ⟨by rw [d4, if_neg (by omega)], by rw [d5, if_neg (by omega)]⟩, a2⟩
/-- the fault -/
theorem LIVE_refuse (n : Nat) {P T s : MS} {Z p L a : Nat} (hc : RPC P T s Z) (h : LIVE P T s Z p L a) : ∃ P' s', f_X4_refuse n P = some P' ∧ f_X8_faulty n s = some s' ∧ DEAD P' s' Z p L ∧ FR P T s P' T s' := by
  obtain ⟨⟨h1, h2, ⟨q, k1, k2, k3, k4, k5, k6, k7⟩, h4, h5, h7, h8⟩, h6⟩ := h
  have hZ := hc.1.2.2.1
  unfold f_X4_refuse f_X8_faulty
  rw [jn_def, h1, if_pos rfl, h2, if_neg (by decide), bn_def, bn_def]
  refine ⟨_, _, rfl, rfl, ⟨?_, ?_, ?_, ?_, h6, by omega⟩, ?_⟩
  · rw [sp1, if_neg (by decide), sp1, if_pos rfl, sp1, if_pos rfl, k1, k2]
  · rw [sp1, if_pos rfl, k2, nI_toInt (by omega)]; omega
  · rw [sp1, if_pos rfl]
  · rw [sp1, if_neg (by decide), h5]
  · refine ⟨rfl, by rw [sp1, if_neg (by decide), sp1, if_neg (by decide)], rfl, fun k hk => by rw [sp1, if_neg (by omega)], fun _ _ _ => rfl, fun _ _ => ⟨rfl, rfl⟩, hc.2.2.2⟩
theorem DEAD_refuse (n : Nat) {P s : MS} {Z p L : Nat} (h : DEAD P s Z p L) : f_X4_refuse n P = some (sp P 3 0) ∧ f_X8_faulty n s = some s ∧ DEAD (sp P 3 0) s Z p L := by
  obtain ⟨h1, h2, h3, h4, h5, h6⟩ := h
  have z0 : (0 : Int32).toInt = 0 := by decide
  have zm : (-1 : Int32).toInt = -1 := by decide
  unfold f_X4_refuse f_X8_faulty
  rw [jn_def, if_neg (by rw [h1, eq_i, zm]; omega), bn_def, if_pos (by rw [le_i, z0]; exact h2)]
  exact ⟨rfl, rfl, by rw [sp1, if_neg (by decide), h1], h2, by rw [sp1, if_pos rfl], h4, h5, h6⟩
theorem FR_P {P T s : MS} (k : Nat) (x : Int32) (hk : k ≠ 1) (h : IR (T.1 3) 0 160) : FR P T s (sp P k x) T s := ⟨rfl, by rw [sp1, if_neg (fun e => hk e.symm)], rfl, fun _ _ => rfl, fun _ _ _ => rfl, fun _ _ => ⟨rfl, rfl⟩, h⟩
