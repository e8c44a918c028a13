def hw2 (n : Nat) (a2 : Int32) (s1 : MS) (s2 : MS) : ((Int32 × MS) → Option MS) → (Int32 × MS) → Option MS := fun K2 (t1 : Int32 × MS) =>
  if (s2.1 6) ≤ t1.1 then (
    lp (fun K5 (t4 : Int32 × MS) =>
      if (s2.1 0) ≤ t4.1 then (
        some t4.2)
      else (
        ck (ib t4.1 6) <| bn (s2.2 2 (Int32.toNatClampNeg t4.1)) fun x7 =>
        cl (f_X6_rankOf n t4.1 x7 s1) fun q8 =>
        ck (ib t4.1 6) <| bn (ap t4.2 2 (Int32.toNatClampNeg t4.1) q8) fun z9 =>
        K5 ((t4.1 + 1), z9))) n (0, t1.2))
  else (
    cl (f_X6_callsIn n t1.1 a2 s1) fun q10 =>
    ck (ib t1.1 120) <| bn (ap t1.2 0 (Int32.toNatClampNeg t1.1) q10) fun z11 =>
    cl (f_X6_asksIn n t1.1 a2 s1) fun q12 =>
    ck (ib t1.1 120) <| bn (ap z11 1 (Int32.toNatClampNeg t1.1) q12) fun z13 =>
    K2 ((t1.1 + 1), z13))
def hw5 (n : Nat) (s1 : MS) (s2 : MS) : ((Int32 × MS) → Option MS) → (Int32 × MS) → Option MS := fun K5 (t4 : Int32 × MS) =>
  if (s2.1 0) ≤ t4.1 then (
    some t4.2)
  else (
    ck (ib t4.1 6) <| bn (s2.2 2 (Int32.toNatClampNeg t4.1)) fun x7 =>
    cl (f_X6_rankOf n t4.1 x7 s1) fun q8 =>
    ck (ib t4.1 6) <| bn (ap t4.2 2 (Int32.toNatClampNeg t4.1) q8) fun z9 =>
    K5 ((t4.1 + 1), z9))
-- THE DAY by a way
def rankV (k : Int32) (i : Nat) (f : Int32) : Int32 := if k = 3 then -f else if k = 5 then -f else if k = 4 then nI i else 0
theorem c_rank (n i : Nat) (f : Int32) (Y : MS) : f_X6_rankOf n (nI i) f Y = some (rankV (Y.1 0) i f) := by
  unfold f_X6_rankOf rankV
  simp only [jn_def]
  split
  · rfl
  · split
    · rfl
    · split <;> rfl
theorem c_hearWay (n : Nat) (hn : 200 ≤ n) (f : Int32) (K E : Nat) (hK : K ≤ 6) (hE : E ≤ 120) (D Y h : MS) (hk : IR (Y.1 0) 0 5) (h0 : h.1 0 = nI K) (h6 : h.1 6 = nI E) : ∃ D', f_X1_hearWay n f D Y h = some D' ∧ (∀ m, m < E → D'.2 0 m = callsV (Y.1 0) f (Y.1 2) (nI m) ∧ D'.2 1 m = asksV (Y.1 0) f (Y.1 2) (nI m)) ∧ ∀ i, i < K → D'.2 2 i = rankV (Y.1 0) i (h.2 2 i) := by
  obtain ⟨x, ⟨-, x2⟩, hx⟩ := lp_to (F := fun (_ : Unit) => hw2 n f Y h) E (fun j x => x.1 = nI j ∧ ∀ m, m < j → x.2.2 0 m = callsV (Y.1 0) f (Y.1 2) (nI m) ∧ x.2.2 1 m = asksV (Y.1 0) f (Y.1 2) (nI m)) (fun _ x => lp (hw5 n Y h) n (0, x.2)) (by
    rintro j ⟨c, x⟩ hj ⟨rfl, y⟩
    have y : ∀ m, m < j → x.2 0 m = callsV (Y.1 0) f (Y.1 2) (nI m) ∧ x.2 1 m = asksV (Y.1 0) f (Y.1 2) (nI m) := y
    refine ⟨(nI (j + 1), ap (ap x 0 j (callsV (Y.1 0) f (Y.1 2) (nI j))) 1 j (asksV (Y.1 0) f (Y.1 2) (nI j))), ⟨rfl, fun m hm => ?_⟩, fun _ self => ?_⟩
    · show (ap (ap x 0 j _) 1 j _).2 0 m = _ ∧ (ap (ap x 0 j (callsV (Y.1 0) f (Y.1 2) (nI j))) 1 j _).2 1 m = _
      have q : (ap x 0 j (callsV (Y.1 0) f (Y.1 2) (nI j))).2 1 m = x.2 1 m := by rw [ap2, if_neg (by decide)]
      rw [ap2, if_neg (by decide), ap2, if_pos rfl, ap2, if_pos rfl, q]
      by_cases e : m = j
      · rw [if_pos e, if_pos e, e]; exact ⟨rfl, rfl⟩
      · rw [if_neg e, if_neg e]; exact y m (by omega)
    · unfold hw2
      dsimp only
      rw [h6, if_neg (nI_ge hj (by omega)), c_calls n (nI j) f Y hk, c_asks n (nI j) f Y, cl_some, ib_j (by omega) (by omega), ck_t, bn_def, cl_some, ck_t, bn_def, nI_clamp (by omega), nI_succ]) (by
    rintro ⟨c, x⟩ ⟨rfl, -⟩ _ self
    unfold hw2
    dsimp only
    rw [h6, if_pos (Int32.le_refl _)]
    rfl) n (by omega) (0, D) ⟨rfl, fun m hm => absurd hm (Nat.not_lt_zero _)⟩
  obtain ⟨y, ⟨-, y2, y3, y4⟩, hy⟩ := lp_to (F := fun (_ : Unit) => hw5 n Y h) K (fun j y => y.1 = nI j ∧ y.2.2 0 = x.2.2 0 ∧ y.2.2 1 = x.2.2 1 ∧ ∀ i, i < j → y.2.2 2 i = rankV (Y.1 0) i (h.2 2 i)) (fun _ y => some y.2) (by
    rintro j ⟨c, y⟩ hj ⟨rfl, z1, z2, z3⟩
    have z1 : y.2 0 = x.2.2 0 := z1
    have z2 : y.2 1 = x.2.2 1 := z2
    have z3 : ∀ i, i < j → y.2 2 i = rankV (Y.1 0) i (h.2 2 i) := z3
    refine ⟨(nI (j + 1), ap y 2 j (rankV (Y.1 0) j (h.2 2 j))), ⟨rfl, ?_, ?_, fun i hi => ?_⟩, fun _ self => ?_⟩
    · show (ap y 2 j _).2 0 = _
      funext u; rw [ap2, if_neg (by decide), z1]
    · show (ap y 2 j _).2 1 = _
      funext u; rw [ap2, if_neg (by decide), z2]
    · show (ap y 2 j _).2 2 i = _
      rw [ap2, if_pos rfl]
      by_cases e : i = j
      · rw [if_pos e, e]
      · rw [if_neg e]; exact z3 i (by omega)
    · unfold hw5
      dsimp only
      rw [h0, if_neg (nI_ge hj (by omega)), ib_j (by omega) (by omega), ck_t, bn_def, nI_clamp (by omega), c_rank, cl_some, ck_t, bn_def, nI_succ]) (by
    rintro ⟨c, y⟩ ⟨rfl, -⟩ _ self
    unfold hw5
    dsimp only
    rw [h0, if_pos (Int32.le_refl _)]) n (by omega) (0, x.2) ⟨rfl, rfl, rfl, fun m hm => absurd hm (Nat.not_lt_zero _)⟩
  refine ⟨y.2, ?_, fun m hm => by rw [y2, y3]; exact x2 m hm, y4⟩
  have : f_X1_hearWay n f D Y h = lp (hw2 n f Y h) n (0, D) := rfl
  rw [this]
  exact (hx ()).trans (hy ())
theorem m_order (n w : Nat) (hw : w < 8) (s : MS) (K : Nat) (rk : Nat → Int32) (h18 : s.1 18 = -1) (hk : IR (s.2 11 w) 0 5) (hr : ∀ i, i < K → rk i = rankV (s.2 11 w) i (s.2 3 i)) : ∃ o, f_X8_orderOf n (nI w) s = some o ∧ ORD s K rk o := by
  unfold f_X8_orderOf
  rw [h18, if_pos (by decide), ib_j hw (by omega), ck_t, bn_def, ck_t, bn_def, ck_t, bn_def, nI_clamp (by omega)]
  rcases IR5 hk with e | e | e | e | e | e <;> rw [e] at hr ⊢
  · exact ⟨0, rfl, Or.inr (Or.inr ⟨rfl, fun i hi => by rw [hr i hi]; rfl⟩)⟩
  · exact ⟨0, rfl, Or.inr (Or.inr ⟨rfl, fun i hi => by rw [hr i hi]; rfl⟩)⟩
  · exact ⟨0, rfl, Or.inr (Or.inr ⟨rfl, fun i hi => by rw [hr i hi]; rfl⟩)⟩
  · exact ⟨1, rfl, Or.inl ⟨rfl, fun i hi => by rw [hr i hi]; rfl⟩⟩
  · exact ⟨2, rfl, Or.inr (Or.inl ⟨rfl, fun i hi => by rw [hr i hi]; rfl⟩)⟩
  · exact ⟨1, rfl, Or.inl ⟨rfl, fun i hi => by rw [hr i hi]; rfl⟩⟩
/-- what a day, also with cars more, leaves -/
def DSM (s s' : MS) : Prop := (∀ k, k ≠ 43 → k ≠ 44 → k ≠ 45 → s'.1 k = s.1 k) ∧ (∀ k, (k < 33 ∧ k ≠ 7 ∧ k ≠ 8 ∧ k ≠ 9) ∨ k = 35 ∨ k = 36 ∨ 42 < k → s'.2 k = s.2 k) ∧ ∀ i : Nat, (i : Int) < (s.1 6).toInt → s'.2 7 i = s.2 7 i ∧ s'.2 8 i = s.2 8 i ∧ s'.2 9 i = s.2 9 i
theorem DSM_ds {s s' : MS} (h : DS s s') : DSM s s' := ⟨h.1, fun k hk => h.2 k (by omega), fun i _ => ⟨by rw [h.2 7 (by omega)], by rw [h.2 8 (by omega)], by rw [h.2 9 (by omega)]⟩⟩
theorem DSM_rf (s : MS) : DSM s s := ⟨fun _ _ _ _ => rfl, fun _ _ => rfl, fun _ _ => ⟨rfl, rfl, rfl⟩⟩
theorem DSM_tr {s t u : MS} (h : DSM s t) (g : DSM t u) : DSM s u := by
  refine ⟨fun k h1 h2 h3 => (g.1 k h1 h2 h3).trans (h.1 k h1 h2 h3), fun k hk => (g.2.1 k hk).trans (h.2.1 k hk), fun i hi => ?_⟩
  obtain ⟨a1, a2, a3⟩ := h.2.2 i hi
  obtain ⟨b1, b2, b3⟩ := g.2.2 i (by rw [h.1 6 (by decide) (by decide) (by decide)]; exact hi)
  exact ⟨b1.trans a1, b2.trans a2, b3.trans a3⟩
theorem R_dsm {t0 : MS} {nw : Nat} {c : CS} {s s' : MS} (hr : R t0 nw c s) (hd : DSM s s') (ru : Nat) (T' D' N' : MS) (hT : TEQ (c.2.2.2.2.2.2.2.1 ru) T') : R t0 nw (c.1, c.2.1, c.2.2.1, c.2.2.2.1, c.2.2.2.2.1, c.2.2.2.2.2.1, c.2.2.2.2.2.2.1, va_up c.2.2.2.2.2.2.2.1 ru T', c.2.2.2.2.2.2.2.2.1, D', N') s' := by
  obtain ⟨rH, rK, rC, rW, rP, rT, rX, rS, rM⟩ := hr
  have g : ∀ ks as, (ks.all (fun k => decide (k ≠ 43 ∧ k ≠ 44 ∧ k ≠ 45))) = true → (as.all (fun k => decide ((k < 33 ∧ k ≠ 7 ∧ k ≠ 8 ∧ k ≠ 9) ∨ k = 35 ∨ k = 36 ∨ 42 < k))) = true → AG ks as s s' := by
    intro ks as h1 h2
    refine ⟨fun k hk => ?_, fun k hk => ?_⟩
    · have := List.all_eq_true.mp h1 k hk
      have := of_decide_eq_true this
      exact hd.1 k this.1 this.2.1 this.2.2
    · have := List.all_eq_true.mp h2 k hk
      have := of_decide_eq_true this
      exact hd.2.1 k this
  have hX : ∀ u, (va_up c.2.2.2.2.2.2.2.1 ru T' u).2 0 = (c.2.2.2.2.2.2.2.1 u).2 0 ∧ (va_up c.2.2.2.2.2.2.2.1 ru T' u).2 1 = (c.2.2.2.2.2.2.2.1 u).2 1 := fun u => by
    rw [vu]
    by_cases e : u = ru
    · rw [if_pos e, e]; exact ⟨hT.2.1, hT.2.2⟩
    · rw [if_neg e]; exact ⟨rfl, rfl⟩
  refine ⟨RHill_ag rH (g _ _ (by decide) (by decide)), RKept_ag rK (g _ _ (by decide) (by decide)), ?_, RWays_ag rW (g _ _ (by decide) (by decide)), rP, RTape_ag rT (g _ _ (by decide) (by decide)), ?_, RSheets_ag rS (g _ _ (by decide) (by decide)), RMisc_ag rM (g _ _ (by decide) (by decide))⟩
  · obtain ⟨a1, a2, a3⟩ := rC
    have e6 := hd.1 6 (by decide) (by decide) (by decide)
    refine ⟨by rw [e6]; exact a1, by rw [e6]; exact a2, fun i hi => ?_⟩
    rw [e6] at hi
    obtain ⟨b1, b2, b3⟩ := hd.2.2 i hi
    rw [b1, b2, b3]
    exact a3 i hi
  · have rX' := RTexts_ag rX (g _ _ (by decide) (by decide))
    obtain ⟨x1, x2, x3⟩ := rX'
    refine ⟨(hX 0).1.trans x1, (hX 0).2.trans x2, fun t ht1 ht2 => ?_⟩
    have := x3 t ht1 ht2
    unfold TXT at this ⊢
    show ∃ e0 e1 e2 : Nat, e0 ≤ e1 ∧ e1 ≤ e2 ∧ e2 ≤ 160 ∧ (va_up c.2.2.2.2.2.2.2.1 ru T' t).2 1 0 = 0 ∧ (va_up c.2.2.2.2.2.2.2.1 ru T' t).2 1 1 = nI e0 ∧ (va_up c.2.2.2.2.2.2.2.1 ru T' t).2 1 2 = nI e1 ∧ (va_up c.2.2.2.2.2.2.2.1 ru T' t).2 1 3 = nI e2 ∧ s'.2 25 (3 * t) = nI e0 ∧ s'.2 25 (3 * t + 1) = nI e1 ∧ s'.2 25 (3 * t + 2) = nI e2 ∧ dp ((va_up c.2.2.2.2.2.2.2.1 ru T' t).2 0) 0 e0 = some 1 ∧ dp ((va_up c.2.2.2.2.2.2.2.1 ru T' t).2 0) e0 (e1 - e0) = some 1 ∧ dp ((va_up c.2.2.2.2.2.2.2.1 ru T' t).2 0) e1 (e2 - e1) = some 1 ∧ ∀ k, k < e2 → stepR ((va_up c.2.2.2.2.2.2.2.1 ru T' t).2 0 k) (s'.2 23 (170 * t + k)) (s'.2 24 (170 * t + k))
    rw [(hX t).1, (hX t).2]
    exact this
/-- the text in force -/
theorem R_rule {t0 : MS} {nw : Nat} {c : CS} {s : MS} (hr : R t0 nw c s) : c.2.1.1 9 = s.1 22 ∧ ib (s.1 22) 6 = true ∧ TOK t0 (c.2.2.2.2.2.2.2.1 (s.1 22).toNatClampNeg) s := by
  obtain ⟨rH, rK, rC, rW, rP, rT, rX, rS, rM⟩ := hr
  obtain ⟨-, -, -, -, -, -, -, -, -, -, e9, b9⟩ := rH
  obtain ⟨x1, x2, x3⟩ := rX
  obtain ⟨a1, a2, a3⟩ := IR_nat (x := s.1 22) (hi := 5) b9 (by omega)
  refine ⟨e9, ib_of b9.1 (by have := b9.2; omega), ?_⟩
  by_cases h : (s.1 22).toNatClampNeg = 0
  · left
    rw [h]
    exact ⟨by rw [a1, h]; rfl, x1, x2⟩
  · right
    exact ⟨(s.1 22).toNatClampNeg, by omega, a2, a1, x3 _ (by omega) (by have := rM.2.2.2.1; omega)⟩
/-- a day by a way, perhaps with another minute since which it holds, perhaps with cars more -/
theorem day_gen (n : Nat) (hn : 1000 ≤ n) (t0 : MS) (h0 : T0OK t0) (nw : Nat) (c : CS) (s sr : MS) (hr : R t0 nw c s) (w : Nat) (hw : w < nw) (f : Int32) (cN : Nat) (hcN : cN ≤ 24) (hs1 : sr.1 = s.1) (hs2 : ∀ k, k ≠ 7 → k ≠ 8 → k ≠ 9 → k ≠ 12 → sr.2 k = s.2 k) (hf : sr.2 12 w = f) (hcar : ∀ c', c' < cN → IR (sr.2 7 c') 1 60 ∧ IR (sr.2 8 c') 1 30 ∧ ∀ m, m < 120 → f_X0_roomOf n (nI c') (nI m) c.2.2.2.1 = some (if goP (sr.2 9 c') (sr.2 8 c') (nI m) then sr.2 7 c' else 0)) : ∃ D1 D' N' T' s' B ca as rk, f_X1_hearWay n f c.2.2.2.2.2.2.2.2.2.1 (wy c.2.2.2.2.1 w) c.2.1 = some D1 ∧ f_X1_run n (nI cN) D1 c.2.2.2.2.2.2.2.2.2.2 c.2.1 c.2.2.2.1 (c.2.2.2.2.2.2.2.1 (s.1 22).toNatClampNeg) = some (D', N', T') ∧ f_X8_day n (nI w) (nI cN) sr = some s' ∧ RDY B (c.2.2.2.2.2.2.2.1 (s.1 22).toNatClampNeg) (s.1 1).toNatClampNeg cN (s.1 15).toNatClampNeg (s.1 15).toNatClampNeg ca as rk D' T' s' ∧ DS sr s' ∧ TEQ (c.2.2.2.2.2.2.2.1 (s.1 22).toNatClampNeg) T' := by
  obtain ⟨hrule1, hrule2, hrule3⟩ := R_rule hr
  obtain ⟨rH, rK, rC, ⟨l5, l10, l8, hwy⟩, rP, rT, rX, rS, rM⟩ := hr
  obtain ⟨k1, k2⟩ := RHill_n rH
  obtain ⟨e1, e2, e3⟩ := RHill_e rH
  obtain ⟨w1, w2, w3, w4, w5, w6⟩ := hwy w hw
  have rHr : RHill c.2.1 sr := RHill_ag rH ⟨fun k _ => by rw [hs1], fun k hk => by
    simp only [List.mem_cons, List.mem_nil_iff, or_false] at hk
    exact hs2 k (by omega) (by omega) (by omega) (by omega)⟩
  have hY0 : (wy c.2.2.2.2.1 w).1 0 = sr.2 11 w := by rw [hs2 11 (by decide) (by decide) (by decide) (by decide)]; exact w1
  have hY2 : (wy c.2.2.2.2.1 w).1 2 = sr.2 13 w := by rw [hs2 13 (by decide) (by decide) (by decide) (by decide)]; exact w3
  have hk5 : IR (sr.2 11 w) 0 5 := by rw [hs2 11 (by decide) (by decide) (by decide) (by decide)]; exact w4
  have h18 : sr.1 18 = -1 := by rw [hs1]; exact rM.2.2.1
  obtain ⟨D1, d1, d2, d3⟩ := c_hearWay n (by omega) f (s.1 1).toNatClampNeg (s.1 15).toNatClampNeg (by omega) e2 c.2.2.2.2.2.2.2.2.2.1 (wy c.2.2.2.2.1 w) c.2.1 (by rw [hY0]; exact hk5) (by rw [rH.1]; exact k1) (by rw [rH.2.2.2.2.2.1]; exact e1)
  have hcl : (nI w).toNatClampNeg = w := nI_clamp (by omega)
  obtain ⟨o, o1, o2⟩ := m_order n w (by omega) sr (s.1 1).toNatClampNeg (D1.2 2) h18 hk5 (fun i hi => by rw [d3 i hi, hY0, (rHr.2.2.1 i (by omega)).2.1])
  obtain ⟨D', N', T', s', B, r1, r2, r3, r4, r5⟩ := run_both n hn t0 (c.2.2.2.2.2.2.2.1 (s.1 22).toNatClampNeg) c.2.2.2.2.2.2.2.2.2.2 c.2.1 c.2.2.2.1 D1 sr (nI w) (s.1 1).toNatClampNeg (s.1 15).toNatClampNeg cN rHr (by rw [hs1]; exact k1) k2 (by rw [hs1]; exact e1) e2 h0 (TOK_eq hrule3 ⟨rfl, rfl, rfl⟩ (by rw [hs1]) (hs2 23 (by decide) (by decide) (by decide) (by decide)) (hs2 24 (by decide) (by decide) (by decide) (by decide)) (hs2 25 (by decide) (by decide) (by decide) (by decide))) (fun m hm => by
    obtain ⟨g1, g2⟩ := d2 m hm
    have hib : ib (nI w) 8 = true := ib_j (by omega) (by omega)
    rw [m_calls n (nI w) (nI m) sr h18 hib (by rw [hcl]; exact hk5), m_asks n (nI w) (nI m) sr h18 hib, hcl, hf, g1, g2, hY0, hY2]
    exact ⟨rfl, rfl⟩) o o1 o2 hcN hcar
  exact ⟨D1, D', N', T', s', B, _, _, _, d1, r1, r2, r3, r4, r5⟩
/-- the cars themselves -/
theorem cars_own {C s : MS} (n : Nat) (rC : RCars C s) : ∀ c, c < (s.1 6).toNatClampNeg → IR (s.2 7 c) 1 60 ∧ IR (s.2 8 c) 1 30 ∧ ∀ m, m < 120 → f_X0_roomOf n (nI c) (nI m) C = some (if goP (s.2 9 c) (s.2 8 c) (nI m) then s.2 7 c else 0) := by
  intro c hc
  obtain ⟨n1, n2⟩ := RCars_n rC
  obtain ⟨-, -, -, b1, b2, b3⟩ := rC.2.2 c (by have := nn_eq rC.2.1.1; omega)
  exact ⟨b1, b2, fun m hm => c_room n c c (nI m) C s rC ⟨by rw [nI_toInt (by omega)]; omega, by rw [nI_toInt (by omega)]; omega⟩ hc (Or.inl ⟨hc, rfl⟩) (by omega)⟩
/-- a day as the calls have it -/
theorem day_own (n : Nat) (hn : 1000 ≤ n) (t0 : MS) (h0 : T0OK t0) (nw : Nat) (c : CS) (s : MS) (hr : R t0 nw c s) (w : Nat) (hw : w < nw) : ∃ D' N' T' s' B ca as rk, f_X7_runDay n nw w c = some (c.1, c.2.1, c.2.2.1, c.2.2.2.1, c.2.2.2.2.1, c.2.2.2.2.2.1, c.2.2.2.2.2.2.1, va_up c.2.2.2.2.2.2.2.1 (s.1 22).toNatClampNeg T', c.2.2.2.2.2.2.2.2.1, D', N') ∧ f_X8_day n (nI w) (s.1 6) s = some s' ∧ RDY B (c.2.2.2.2.2.2.2.1 (s.1 22).toNatClampNeg) (s.1 1).toNatClampNeg (s.1 6).toNatClampNeg (s.1 15).toNatClampNeg (s.1 15).toNatClampNeg ca as rk D' T' s' ∧ DS s s' ∧ TEQ (c.2.2.2.2.2.2.2.1 (s.1 22).toNatClampNeg) T' := by
  obtain ⟨hrule1, hrule2, hrule3⟩ := R_rule hr
  have hr0 := hr
  obtain ⟨rH, rK, rC, ⟨l5, l10, l8, hwy⟩, rP, rT, rX, rS, rM⟩ := hr
  obtain ⟨n1, n2⟩ := RCars_n rC
  obtain ⟨w1, w2, w3, w4, w5, w6⟩ := hwy w hw
  obtain ⟨D1, D', N', T', s', B, ca, as, rk, d1, d2, d3, d4, d5, d6⟩ := day_gen n hn t0 h0 nw c s s hr0 w hw (s.2 12 w) (s.1 6).toNatClampNeg (by omega) rfl (fun _ _ _ _ _ => rfl) rfl (cars_own n rC)
  refine ⟨D', N', T', s', B, ca, as, rk, ?_, by rw [← n1] at d3; exact d3, d4, d5, d6⟩
  unfold f_X7_runDay
  rw [w2, d1, cl_some, hrule1, hrule2, ck_t, rC.1, n1, d2, cl_some]
