-- THE DAY: the car takes them
theorem div120 (q : Nat) (hq : q < 1000) : nI q / 120 = nI (q / 120) := by
  have z : (120 : Int32).toInt = 120 := by decide
  apply nI_eqI
  rw [div_i _ _ (by rw [z]; omega), z, nI_toInt (by omega), Int.tdiv_eq_ediv_of_nonneg (by omega)]
  omega
theorem rem120 (q : Nat) (hq : q < 1000) : nI q - nI q / 120 * 120 = nI (q % 120) := by
  rw [div120 q hq, show (120 : Int32) = nI 120 from rfl, nI_mu]
  apply nI_eqI
  rw [sub_i _ _ (by rw [nI_toInt (by omega), nI_toInt (by omega)]; omega), nI_toInt (by omega), nI_toInt (by omega)]
  omega
theorem nz120 : nz 120 = true := by decide
def ldT (a1 : Int32) (K2 : (Int32 × MS) → Option MS) (free : Int32) (s : MS) (best x9 : Int32) : Option MS :=
  ck (ib best 720) <| bn (s.2 39 (Int32.toNatClampNeg best)) fun x11 =>
  ck (ib best 720) <| bn (ap s 39 (Int32.toNatClampNeg best) (x11 - x9)) fun z12 =>
  ck (nz 120) <|
  ck (ib (best / 120) 6) <| bn (z12.2 42 (Int32.toNatClampNeg (best / 120))) fun x13 =>
  ck (ib (best / 120) 6) <| bn (ap z12 42 (Int32.toNatClampNeg (best / 120)) (x13 + x9)) fun z14 =>
  ck (ib a1 24) <| bn (z14.2 40 (Int32.toNatClampNeg a1)) fun x15 =>
  ck (ib a1 24) <| bn (ap z14 40 (Int32.toNatClampNeg a1) (x15 + x9)) fun z16 =>
  bn (free - x9) fun x17 =>
  K2 (x17, z16)
def ldE (a1 : Int32) (K2 : (Int32 × MS) → Option MS) (free : Int32) (s : MS) (best : Int32) : Option MS :=
  if 0 ≤ best then ck (ib best 720) (bn (s.2 39 (Int32.toNatClampNeg best)) fun x8 => if free ≤ x8 then ldT a1 K2 free s best free else ck (ib best 720) (bn (s.2 39 (Int32.toNatClampNeg best)) fun x19 => ldT a1 K2 free s best x19)) else some s
theorem ldI_eq (n : Nat) (a1 o : Int32) (K2 : (Int32 × MS) → Option MS) (free : Int32) (s : MS) (K5 : (Int32 × Int32) → Option MS) (best idx : Int32) : ldI n a1 o K2 (free, s) K5 (best, idx) = (if (120 * (s.1 1)) ≤ idx then ldE a1 K2 free s best else ck (ib idx 720) (bn (s.2 39 (Int32.toNatClampNeg idx)) fun x20 => if x20 ≤ 0 then K5 (best, idx + 1) else if best < 0 then K5 (idx, idx + 1) else ck (nz 120) (ck (nz 120) (ck (nz 120) (ck (nz 120) (cl (f_X8_isAhead n o (idx / 120) (idx - idx / 120 * 120) (best / 120) (best - best / 120 * 120) s) fun q27 => if q27 = 0 then K5 (best, idx + 1) else K5 (idx, idx + 1))))))) := rfl
theorem ldF_eq (n : Nat) (a1 o : Int32) (K2 : (Int32 × MS) → Option MS) (free : Int32) (s : MS) : ldF n a1 o K2 (free, s) = (if free ≤ 0 then some s else lp (ldI n a1 o K2 (free, s)) n (-1, 0)) := rfl
theorem m_scan (n : Nat) (hn : 800 ≤ n) (a1 o free : Int32) (B s : MS) (K : Nat) (rk : Nat → Int32) (hK : K ≤ 6) (h1 : s.1 1 = nI K) (ho : ORD B K rk o) (hf : ∀ i, i < K → IR (B.2 3 i) 0 40) (h3 : s.2 3 = B.2 3) : ∃ b : Int32, (∀ K2, lp (ldI n a1 o K2 (free, s)) n (-1, 0) = ldE a1 K2 free s b) ∧ ((b = -1 ∧ ∀ q, q < 120 * K → ¬ 0 < (s.2 39 q).toInt) ∨ ∃ q0, q0 < 120 * K ∧ b = nI q0 ∧ 0 < (s.2 39 q0).toInt ∧ ∀ q, q < 120 * K → 0 < (s.2 39 q).toInt → q ≠ q0 → ¬ AH rk (q / 120) (q % 120) (q0 / 120) (q0 % 120)) := by
  have e : (120 : Int32) * nI K = nI (120 * K) := by rw [show (120 : Int32) = nI 120 from rfl, nI_mu]
  have z0 : (0 : Int32).toInt = 0 := by decide
  obtain ⟨x, ⟨-, x2⟩, hx⟩ := lp_to (F := fun K2 => ldI n a1 o K2 (free, s)) (120 * K) (fun j x => x.2 = nI j ∧ ((x.1 = -1 ∧ ∀ q, q < j → ¬ 0 < (s.2 39 q).toInt) ∨ ∃ q0, q0 < j ∧ x.1 = nI q0 ∧ 0 < (s.2 39 q0).toInt ∧ ∀ q, q < j → 0 < (s.2 39 q).toInt → q ≠ q0 → ¬ AH rk (q / 120) (q % 120) (q0 / 120) (q0 % 120))) (fun K2 x => ldE a1 K2 free s x.1) (by
    rintro j ⟨b, c⟩ hj ⟨rfl, hb⟩
    have hb : (b = -1 ∧ ∀ q, q < j → ¬ 0 < (s.2 39 q).toInt) ∨ ∃ q0, q0 < j ∧ b = nI q0 ∧ 0 < (s.2 39 q0).toInt ∧ ∀ q, q < j → 0 < (s.2 39 q).toInt → q ≠ q0 → ¬ AH rk (q / 120) (q % 120) (q0 / 120) (q0 % 120) := hb
    have st : ∀ K2 K5, ldI n a1 o K2 (free, s) K5 (b, nI j) = (if s.2 39 j ≤ 0 then K5 (b, nI (j + 1)) else if b < 0 then K5 (nI j, nI (j + 1)) else cl (f_X8_isAhead n o (nI j / 120) (nI j - nI j / 120 * 120) (b / 120) (b - b / 120 * 120) s) fun q27 => if q27 = 0 then K5 (b, nI (j + 1)) else K5 (nI j, nI (j + 1))) := fun K2 K5 => by
      rw [ldI_eq, h1, e, if_neg (nI_ge hj (by omega)), ib_j (by omega) (by omega), ck_t, bn_def, nI_clamp (by omega), nz120, ck_t, ck_t, ck_t, ck_t, nI_succ]
    by_cases hw : s.2 39 j ≤ 0
    · have hw' := hw
      rw [le_i, z0] at hw'
      refine ⟨(b, nI (j + 1)), ⟨rfl, ?_⟩, fun K2 self => by rw [st, if_pos hw]⟩
      rcases hb with ⟨g1, g2⟩ | ⟨q0, g1, g2, g3, g4⟩
      · refine Or.inl ⟨g1, fun q hq => ?_⟩
        by_cases e : q = j
        · rw [e]; omega
        · exact g2 q (by omega)
      · refine Or.inr ⟨q0, by omega, g2, g3, fun q hq h5 h6 => ?_⟩
        by_cases e : q = j
        · rw [e] at h5; omega
        · exact g4 q (by omega) h5 h6
    · have hw' := hw
      rw [le_i, z0] at hw'
      rcases hb with ⟨g1, g2⟩ | ⟨q0, g1, g2, g3, g4⟩
      · refine ⟨(nI j, nI (j + 1)), ⟨rfl, Or.inr ⟨j, by omega, rfl, by omega, fun q hq h5 h6 => absurd h5 (g2 q (by omega))⟩⟩, fun K2 self => by rw [st, if_neg hw, if_pos (by rw [g1]; decide)]⟩
      · have hnb : ¬ b < 0 := by rw [g2, lt_i, z0, nI_toInt (by omega)]; omega
        have hqK : q0 < 120 * K := by omega
        obtain ⟨r, r1, r2⟩ := m_ahead n B s K rk o hK ho hf h3 (j / 120) (j % 120) (q0 / 120) (q0 % 120) (by omega) (by omega) (by omega) (by omega)
        have hc : ∀ K2 K5, ldI n a1 o K2 (free, s) K5 (b, nI j) = (if r = 0 then K5 (b, nI (j + 1)) else K5 (nI j, nI (j + 1))) := fun K2 K5 => by
          rw [st, if_neg hw, if_neg hnb, g2, div120 j (by omega), div120 q0 (by omega), ← div120 j (by omega), ← div120 q0 (by omega), rem120 j (by omega), rem120 q0 (by omega), div120 j (by omega), div120 q0 (by omega), r1, cl_some]
        rcases r2 with ⟨rfl, r3⟩ | ⟨rfl, r3⟩
        · refine ⟨(nI j, nI (j + 1)), ⟨rfl, Or.inr ⟨j, by omega, rfl, by omega, fun q hq h5 h6 => ?_⟩⟩, fun K2 self => by rw [hc, if_neg (by decide)]⟩
          by_cases e : q = q0
          · subst e
            unfold AH at r3 ⊢
            omega
          · have := g4 q (by omega) h5 e
            unfold AH at this r3 ⊢
            omega
        · refine ⟨(b, nI (j + 1)), ⟨rfl, Or.inr ⟨q0, by omega, g2, g3, fun q hq h5 h6 => ?_⟩⟩, fun K2 self => by rw [hc, if_pos rfl]⟩
          by_cases e : q = j
          · rw [e]; exact r3
          · exact g4 q (by omega) h5 h6) (by
    rintro ⟨b, c⟩ ⟨rfl, -⟩ K2 self
    rw [ldI_eq, h1, e, if_pos (Int32.le_refl _)]) n (by omega) (-1, 0) ⟨rfl, Or.inl ⟨rfl, fun q hq => absurd hq (Nat.not_lt_zero _)⟩⟩
  exact ⟨x.1, hx, x2⟩
theorem upd_less (s c x : Int32) : s + ((c - x) - c) = s - x := by
  have : c - x - c = -x := by rw [Int32.sub_eq_add_neg, Int32.sub_eq_add_neg, Int32.add_comm c (-x), Int32.add_assoc, Int32.add_right_neg, Int32.add_zero]
  rw [this, ← Int32.sub_eq_add_neg]
theorem upd_more (s c x : Int32) : s + ((c + x) - c) = s + x := by
  rw [Int32.add_comm c x, Int32.add_sub_cancel]
/-- what a cell of the rows is, of a place and a minute -/
theorem cell_sp (q K : Nat) (hq : q < 120 * K) : q = 120 * (q / 120) + q % 120 ∧ q / 120 < K ∧ q % 120 < 120 := by omega
/-- one car's turn -/
theorem board_both (n : Nat) (hn : 800 ≤ n) {t0 T0 h B : MS} {w : Int32} {K E cN : Nat} {ca as rk : Nat → Int32} (X : DCX n t0 T0 h B w K E ca as) (o : Int32) (ho : ORD B K rk o) (m c : Nat) (hm : m < E) (hc : c < cN) (hcN : cN ≤ 24) (D T s : MS) (H : RDY B T0 K cN m (m + 1) ca as rk D T s) (fr : Int32) (hfr : IR fr 1 60) : ∃ D' s', f_X1_board n (nI c) (mmin fr (D.1 9)) (nI K) (nI m) D = some D' ∧ f_X8_load n (nI c) fr o (nI m) s = some s' ∧ RDY B T0 K cN m (m + 1) ca as rk D' T s' := by
  obtain ⟨rH, x1, hK, x15, hE, -⟩ := X
  have z0 : (0 : Int32).toInt = 0 := by decide
  have hf : ∀ i, i < K → IR (B.2 3 i) 0 40 := fun i hi => (rH.2.2.2.1 i (by omega)).2.1
  suffices G : ∃ D' s', RDY B T0 K cN m (m + 1) ca as rk D' T s' ∧ lp (brF n (nI c) (nI K) (nI m)) n (mmin fr (D.1 9), 0, D) = some D' ∧ lp (ldF n (nI c) o) n (fr, s) = some s' by
    obtain ⟨D', s', g1, g2, g3⟩ := G
    exact ⟨D', s', g2, g3, g1⟩
  have bdW : ∀ (D1 s1 : MS), RDY B T0 K cN m (m + 1) ca as rk D1 T s1 → IR (D1.1 9) 0 ((120 * K : Nat) * 400) ∧ ∀ q, q < 120 * K → (s1.2 39 q).toInt ≤ (D1.1 9).toInt ∧ IR (s1.2 39 q) 0 400 := by
    rintro D1 s1 ⟨-, -, -, ⟨d1, -⟩, -, f1, -⟩
    have hb : ∀ q, q < 120 * K → IR (s1.2 39 q) 0 400 := fun q hq => by
      obtain ⟨e1, e2, e3⟩ := cell_sp q K hq
      rw [e1]; exact d1 _ e2 _ e3
    obtain ⟨u1, u2⟩ := sumI_bd (f := s1.2 39) (B := 400) (by omega) (120 * K) hb (by omega)
    rw [f1]
    exact ⟨u1, fun q hq => ⟨u2 q hq, hb q hq⟩⟩
  refine lp_two (F := brF n (nI c) (nI K) (nI m)) (G := ldF n (nI c) o) (fun x y => ∃ kk : Nat, RDY B T0 K cN m (m + 1) ca as rk x.2.2 T y.2 ∧ x.1.toInt = min y.1.toInt (x.2.2.1 9).toInt ∧ 0 ≤ y.1.toInt ∧ y.1.toInt ≤ 60 ∧ x.2.1 = nI kk ∧ (kk : Int) + x.1.toInt ≤ 60) (fun x => x.1.toInt.toNat) (fun r q => RDY B T0 K cN m (m + 1) ca as rk r T q) ?_ n n (mmin fr (D.1 9), 0, D) (fr, s) ⟨0, H, by rw [mmin_i], by have := hfr.1; show 0 ≤ fr.toInt; omega, hfr.2, rfl, ?_⟩ ?_ ?_
  · rintro ⟨fc, k, D1⟩ ⟨fr1, s1⟩ ⟨kk, hR, e1, e2, e3, rfl, e4⟩
    have hR : RDY B T0 K cN m (m + 1) ca as rk D1 T s1 := hR
    have e1 : fc.toInt = min fr1.toInt (D1.1 9).toInt := e1
    have e2 : 0 ≤ fr1.toInt := e2
    have e3 : fr1.toInt ≤ 60 := e3
    have e4 : (kk : Int) + fc.toInt ≤ 60 := e4
    obtain ⟨bd1, bd2⟩ := bdW D1 s1 hR
    have hR0 := hR
    obtain ⟨⟨a1, a2, a3, a4, a5⟩, b1, ⟨c1, c2, c3, c4⟩, ⟨d1, d2⟩, f1, g1, ⟨h1, h2, h3⟩, ⟨j1, j2⟩, k1⟩ := hR
    have hs1 : s1.1 1 = nI K := by rw [a2.1 1 (by decide) (by decide), x1]
    have hs3 : s1.2 3 = B.2 3 := a2.2 3 (by omega)
    obtain ⟨b, sc1, sc2⟩ := m_scan n hn (nI c) o fr1 B s1 K rk hK hs1 ho hf hs3
    by_cases hfc : fc ≤ 0
    · -- nobody more for the class
      have hfc' := hfc
      rw [le_i, z0] at hfc'
      refine Or.inr ⟨D1, s1, hR0, fun self => ?_, fun self => ?_⟩
      · unfold brF
        dsimp only
        rw [if_pos hfc]
        split <;> rfl
      · rw [ldF_eq]
        by_cases hfr0 : fr1 ≤ 0
        · rw [if_pos hfr0]
        · rw [le_i, z0] at hfr0
          have hfr1 : ¬ fr1 ≤ 0 := by rw [le_i, z0]; exact hfr0
          rw [if_neg hfr1, sc1]
          rcases sc2 with ⟨g1, g2⟩ | ⟨q0, g1, g2, g3, g4⟩
          · unfold ldE; rw [g1, if_neg (by decide)]
          · have := (bd2 q0 g1).1
            omega
    · have hfc' := hfc
      rw [le_i, z0] at hfc'
      have hk60 : ¬ (60 : Int32) ≤ nI kk := lge 60 60 rfl (by omega) (by omega)
      have hfr1 : ¬ fr1 ≤ 0 := by rw [le_i, z0]; omega
      -- somebody waits
      have hex : ∃ q, q < 120 * K ∧ 0 < (s1.2 39 q).toInt := by
        apply Classical.byContradiction
        intro hno
        have : sumI (s1.2 39) (120 * K) = 0 := by
          rw [sumI_congr (g := fun _ => 0) _ (fun q hq => ?_), sumI_z]
          apply Int32.toInt_inj.mp
          have := (bd2 q hq).2.1
          rw [z0]
          apply Classical.byContradiction
          intro hne
          exact hno ⟨q, hq, by omega⟩
        rw [← g1] at this
        rw [this, z0] at e1
        omega
      obtain ⟨q1, hq1, hq1p⟩ := hex
      have hcell : ∀ q, q < 120 * K → 0 < (s1.2 39 q).toInt → q % 120 ≤ m ∧ D1.2 (20 + q / 120) (q % 120) = s1.2 39 q := fun q hq hp => by
        obtain ⟨u1, u2, u3⟩ := cell_sp q K hq
        have hm1 : q % 120 < m + 1 := by
          apply Classical.byContradiction
          intro hge
          have := c2 (q / 120) u2 (q % 120) (by omega) u3
          rw [← u1] at this
          rw [this, z0] at hp
          omega
        refine ⟨by omega, ?_⟩
        rw [c1 (q / 120) u2 (q % 120) hm1 u3, ← u1]
      have npos : ∀ x : Int32, 0 < x.toInt → ¬ x = 0 := fun x hx hx0 => by rw [hx0, z0] at hx; omega
      obtain ⟨bb, D2, oo, w1, w2, w3, w4, w5⟩ := c_first n (by omega) K m hK (by omega) rk D1 a5 f1
      have hole : ∀ q, q < 120 * K → 0 < (s1.2 39 q).toInt → oo (q / 120) ≤ q % 120 := fun q hq hp => by
        obtain ⟨u1, u2, u3⟩ := cell_sp q K hq
        obtain ⟨v1, v2⟩ := hcell q hq hp
        apply Classical.byContradiction
        intro hlt
        have := (w4 (q / 120) u2).2.2.1 (q % 120) (by omega) u3
        rw [v2] at this
        exact npos _ hp this
      rcases w5 with ⟨w5, w6⟩ | ⟨bi, w5, w6, w7, w8⟩
      · have := hole q1 hq1 hq1p
        have := w6 (q1 / 120) (cell_sp q1 K hq1).2.1
        have := (hcell q1 hq1 hq1p).1
        omega
      · have hqb : 120 * bi + oo bi < 120 * K := by omega
        have hd1 : (120 * bi + oo bi) / 120 = bi := by omega
        have hd2 : (120 * bi + oo bi) % 120 = oo bi := by omega
        have hWb : D1.2 (20 + bi) (oo bi) = s1.2 39 (120 * bi + oo bi) := c1 bi w5 (oo bi) (by omega) (by omega)
        have hWne : ¬ s1.2 39 (120 * bi + oo bi) = 0 := by
          rw [← hWb]; exact (w4 bi w5).2.2.2.resolve_left (by omega)
        have hWpos : 0 < (s1.2 39 (120 * bi + oo bi)).toInt := by
          have := (bd2 _ hqb).2.1
          rw [eq_i, z0] at hWne
          omega
        rcases sc2 with ⟨s5, s6⟩ | ⟨q0, s5, s6, s7, s8⟩
        · exact absurd hWpos (s6 _ hqb)
        -- both mean the same
        have hsame : q0 = 120 * bi + oo bi := by
          apply Classical.byContradiction
          intro hne
          have n1 := s8 _ hqb hWpos (fun e => hne e.symm)
          rw [hd1, hd2] at n1
          obtain ⟨u1, u2, u3⟩ := cell_sp q0 K s5
          have n2 := hole q0 s5 s7
          have n3 := (hcell q0 s5 s7).1
          by_cases ei : q0 / 120 = bi
          · rw [ei] at n1 n2
            apply n1
            refine Or.inr ⟨rfl, Or.inl ?_⟩
            omega
          · have n4 := w8 (q0 / 120) u2 (by omega) ei
            unfold AH at n1 n4
            omega
        subst hsame
        -- how many ride
        obtain ⟨x, hx⟩ : ∃ x, x = mmin fc (s1.2 39 (120 * bi + oo bi)) := ⟨_, rfl⟩
        have hxi : x.toInt = min fc.toInt (s1.2 39 (120 * bi + oo bi)).toInt := by rw [hx, mmin_i]
        have hcw := (bd2 _ hqb).1
        have hc4 := (bd2 _ hqb).2
        have hx2 : (if fr1 ≤ s1.2 39 (120 * bi + oo bi) then fr1 else s1.2 39 (120 * bi + oo bi)) = x := by
          apply Int32.toInt_inj.mp
          split
          next hle => rw [le_i] at hle; omega
          next hle => rw [le_i] at hle; omega
        have hxb : 1 ≤ x.toInt ∧ x.toInt ≤ 60 := by omega
        have sD9 : (D1.1 9 - x).toInt = (D1.1 9).toInt - x.toInt := sub_i _ _ (by have := bd1.1; have := bd1.2; omega)
        have sfr : (fr1 - x).toInt = fr1.toInt - x.toInt := sub_i _ _ (by omega)
        have sfc : (fc - x).toInt = fc.toInt - x.toInt := sub_i _ _ (by omega)
        have scl : (s1.2 39 (120 * bi + oo bi) - x).toInt = (s1.2 39 (120 * bi + oo bi)).toInt - x.toInt := sub_i _ _ (by have := hc4.1; have := hc4.2; omega)
        obtain ⟨o6, -⟩ := w4 bi w5
        have r20 : D2.2 (20 + bi) (oo bi) = s1.2 39 (120 * bi + oo bi) := by rw [w3 _ (by omega), hWb]
        -- the states behind it
        have hcl : ∀ self, brF n (nI c) (nI K) (nI m) self (fc, nI kk, D1) = self (fc - x, nI (kk + 1), sp (ap (ap (ap D2 (20 + bi) (oo bi) (s1.2 39 (120 * bi + oo bi) - x)) 7 bi (D1.2 7 bi + x)) 10 c (D1.2 10 c + x)) 9 (D1.1 9 - x)) := by
          intro self
          unfold brF
          dsimp only
          rw [if_neg hk60, if_neg hfc, w1, cl_some]
          dsimp only
          rw [w6, if_neg (by rw [eq_i, nI_toInt (by omega), show (-1 : Int32).toInt = -1 by decide]; omega), ib_j (by omega) (by omega), ck_t, ck_t, nI_clamp (by omega), o6, bn_def, ib_j (by omega) (by omega), ck_t, nI_clamp (by omega), r20, bn_def, bn_def, ← hx, ck_t, ck_t, bn_def, ib_j (by omega) (by omega), ck_t, nI_clamp (by omega), r20, bn_def, ck_t, bn_def, ck_t, bn_def, ck_t, bn_def, ib_j (by omega) (by omega), ck_t, bn_def, ck_t, bn_def, bn_def, bn_def, nI_clamp (by omega), nI_succ]
          have t7 : (ap D2 (20 + bi) (oo bi) (s1.2 39 (120 * bi + oo bi) - x)).2 7 bi = D1.2 7 bi := by rw [ap2, if_neg (by omega), w3 7 (by decide)]
          have t10 : ∀ y, (ap (ap D2 (20 + bi) (oo bi) (s1.2 39 (120 * bi + oo bi) - x)) 7 bi y).2 10 c = D1.2 10 c := fun y => by rw [ap2, if_neg (by decide), ap2, if_neg (by omega), w3 10 (by decide)]
          rw [t7, t10, ap1, ap1, ap1, w2]
        have hmo : ∀ self, ldF n (nI c) o self (fr1, s1) = self (fr1 - x, ap (ap (ap s1 39 (120 * bi + oo bi) (s1.2 39 (120 * bi + oo bi) - x)) 42 bi (s1.2 42 bi + x)) 40 c (s1.2 40 c + x)) := by
          intro self
          have tk : ldT (nI c) self fr1 s1 (nI (120 * bi + oo bi)) x = self (fr1 - x, ap (ap (ap s1 39 (120 * bi + oo bi) (s1.2 39 (120 * bi + oo bi) - x)) 42 bi (s1.2 42 bi + x)) 40 c (s1.2 40 c + x)) := by
            unfold ldT
            rw [ib_j (by omega) (by omega), ck_t, bn_def, nI_clamp (by omega), ck_t, bn_def, nz120, ck_t, div120 _ (by omega), hd1, ib_j (by omega) (by omega), ck_t, bn_def, nI_clamp (by omega), ck_t, bn_def, ib_j (by omega) (by omega), ck_t, bn_def, ck_t, bn_def, bn_def, nI_clamp (by omega)]
            have t42 : (ap s1 39 (120 * bi + oo bi) (s1.2 39 (120 * bi + oo bi) - x)).2 42 bi = s1.2 42 bi := by rw [ap2, if_neg (by decide)]
            have t40 : ∀ y, (ap (ap s1 39 (120 * bi + oo bi) (s1.2 39 (120 * bi + oo bi) - x)) 42 bi y).2 40 c = s1.2 40 c := fun y => by rw [ap2, if_neg (by decide), ap2, if_neg (by decide)]
            rw [t42, t40]
          rw [ldF_eq, if_neg hfr1, sc1, s6]
          unfold ldE
          rw [if_pos (by rw [le_i, z0, nI_toInt (by omega)]; omega), ib_j (by omega) (by omega), ck_t, bn_def, nI_clamp (by omega), ck_t, bn_def]
          by_cases hle : fr1 ≤ s1.2 39 (120 * bi + oo bi)
          · rw [if_pos hle] at hx2 ⊢
            exact (congrArg (fun y => ldT (nI c) self fr1 s1 (nI (120 * bi + oo bi)) y) hx2).trans tk
          · rw [if_neg hle] at hx2 ⊢
            exact (congrArg (fun y => ldT (nI c) self fr1 s1 (nI (120 * bi + oo bi)) y) hx2).trans tk
        refine Or.inl ⟨_, _, ⟨kk + 1, ?_, ?_, ?_, ?_, rfl, ?_⟩, ?_, hcl, hmo⟩
        · generalize hDn : sp (ap (ap (ap D2 (20 + bi) (oo bi) (s1.2 39 (120 * bi + oo bi) - x)) 7 bi (D1.2 7 bi + x)) 10 c (D1.2 10 c + x)) 9 (D1.1 9 - x) = Dn
          generalize hsn : ap (ap (ap s1 39 (120 * bi + oo bi) (s1.2 39 (120 * bi + oo bi) - x)) 42 bi (s1.2 42 bi + x)) 40 c (s1.2 40 c + x) = sn
          have rD : ∀ k, k ≠ 6 → k ≠ 7 → k ≠ 10 → k ≠ 20 + bi → Dn.2 k = D1.2 k := fun k h1 h2 h3 h4 => by
            rw [← hDn]; funext u; rw [sp2, ap2, if_neg h3, ap2, if_neg h2, ap2, if_neg h4, w3 k h1]
          have r6 : Dn.2 6 = D2.2 6 := by rw [← hDn]; funext u; rw [sp2, ap2, if_neg (by decide), ap2, if_neg (by decide), ap2, if_neg (by omega)]
          have rr : ∀ i t, Dn.2 (20 + i) t = if i = bi ∧ t = oo bi then s1.2 39 (120 * bi + oo bi) - x else D1.2 (20 + i) t := fun i t => by
            by_cases e : i = bi
            · subst e
              rw [← hDn, sp2, ap2, if_neg (by omega), ap2, if_neg (by omega), ap2, if_pos rfl, w3 _ (by omega)]
              by_cases e2 : t = oo i
              · rw [if_pos e2, if_pos ⟨rfl, e2⟩]
              · rw [if_neg e2, if_neg (fun q => e2 q.2)]
            · rw [if_neg (fun q => e q.1)]
              by_cases e7 : 20 + i = 7
              · omega
              by_cases e10 : 20 + i = 10
              · omega
              rw [rD (20 + i) (by omega) e7 e10 (by omega)]
          have r7 : ∀ i, Dn.2 7 i = if i = bi then D1.2 7 bi + x else D1.2 7 i := fun i => by
            have q : (ap D2 (20 + bi) (oo bi) (s1.2 39 (120 * bi + oo bi) - x)).2 7 i = D1.2 7 i := by rw [ap2, if_neg (by omega), w3 7 (by decide)]
            rw [← hDn, sp2, ap2, if_neg (by decide), ap2, if_pos rfl, q]
          have r10 : ∀ i, Dn.2 10 i = if i = c then D1.2 10 c + x else D1.2 10 i := fun i => by
            have q : (ap (ap D2 (20 + bi) (oo bi) (s1.2 39 (120 * bi + oo bi) - x)) 7 bi (D1.2 7 bi + x)).2 10 i = D1.2 10 i := by rw [ap2, if_neg (by decide), ap2, if_neg (by omega), w3 10 (by decide)]
            rw [← hDn, sp2, ap2, if_pos rfl, q]
          have v9 : Dn.1 9 = D1.1 9 - x := by rw [← hDn, sp1, if_pos rfl]
          have vk : ∀ k, k ≠ 9 → Dn.1 k = D1.1 k := fun k hk => by rw [← hDn, sp1, if_neg hk, ap1, ap1, ap1, w2]
          have s0 : sn.1 = s1.1 := by rw [← hsn, ap1, ap1, ap1]
          have sD : ∀ k, k ≠ 39 → k ≠ 40 → k ≠ 42 → sn.2 k = s1.2 k := fun k h1 h2 h3 => by
            rw [← hsn]; funext u; rw [ap2, if_neg h2, ap2, if_neg h3, ap2, if_neg h1]
          have s39 : ∀ u, sn.2 39 u = if u = 120 * bi + oo bi then s1.2 39 (120 * bi + oo bi) - x else s1.2 39 u := fun u => by
            rw [← hsn, ap2, if_neg (by decide), ap2, if_neg (by decide), ap2, if_pos rfl]
          have s42 : ∀ u, sn.2 42 u = if u = bi then s1.2 42 bi + x else s1.2 42 u := fun u => by
            have q : (ap s1 39 (120 * bi + oo bi) (s1.2 39 (120 * bi + oo bi) - x)).2 42 u = s1.2 42 u := by rw [ap2, if_neg (by decide)]
            rw [← hsn, ap2, if_neg (by decide), ap2, if_pos rfl, q]
          have s40 : ∀ u, sn.2 40 u = if u = c then s1.2 40 c + x else s1.2 40 u := fun u => by
            have q : (ap (ap s1 39 (120 * bi + oo bi) (s1.2 39 (120 * bi + oo bi) - x)) 42 bi (s1.2 42 bi + x)).2 40 u = s1.2 40 u := by rw [ap2, if_neg (by decide), ap2, if_neg (by decide)]
            rw [← hsn, ap2, if_pos rfl, q]
          refine ⟨⟨a1, DA_tr a2 ⟨fun k _ _ => by rw [s0], fun k hk => sD k (by omega) (by omega) (by omega)⟩, by rw [rD 0 (by decide) (by decide) (by decide) (by omega), a3], by rw [rD 1 (by decide) (by decide) (by decide) (by omega), a4], by rw [rD 2 (by decide) (by decide) (by decide) (by omega), a5]⟩, fun i hi => ?_, ⟨fun i hi t h4 h5 => ?_, fun i hi t h4 h5 => ?_, fun i hi t h4 h5 => ?_, fun i hi t h4 h5 => ?_⟩, ⟨fun i hi t ht => ?_, fun i hi t ht => ?_⟩, fun i hi => ?_, ?_, ⟨fun i hi => ?_, fun i hi => ?_, ?_⟩, ⟨?_, ?_⟩, fun i hi t ht => ?_⟩
          · rw [rD 4 (by decide) (by decide) (by decide) (by omega), sD 37 (by decide) (by decide) (by decide)]; exact b1 i hi
          · rw [rr, s39]
            by_cases e : i = bi ∧ t = oo bi
            · rw [if_pos e, if_pos (by omega)]
            · rw [if_neg e, if_neg (by omega)]; exact c1 i hi t h4 h5
          · rw [s39, if_neg (by omega)]; exact c2 i hi t h4 h5
          · rw [rr, if_neg (by omega), sD 38 (by decide) (by decide) (by decide)]; exact c3 i hi t h4 h5
          · rw [sD 38 (by decide) (by decide) (by decide)]; exact c4 i hi t h4 h5
          · rw [s39]
            split
            · exact ⟨by rw [scl]; omega, by rw [scl]; have := hc4.2; omega⟩
            · exact d1 i hi t ht
          · rw [sD 38 (by decide) (by decide) (by decide)]; exact d2 i hi t ht
          · refine ⟨oo i, by rw [r6]; exact (w4 i hi).1, (w4 i hi).2.1, fun t h4 h5 => ?_⟩
            rw [rr]
            by_cases e : i = bi ∧ t = oo bi
            · obtain ⟨rfl, rfl⟩ := e; omega
            · rw [if_neg e]; exact (w4 i hi).2.2.1 t h4 h5
          · rw [v9, sumI_congr (g := fun u => if u = 120 * bi + oo bi then s1.2 39 (120 * bi + oo bi) - x else s1.2 39 u) _ (fun u _ => s39 u), sumI_upd _ _ _ _ hqb, upd_less, ← g1]
          · rw [r7, s42]
            by_cases e : i = bi
            · rw [if_pos e, if_pos e, h1 bi w5]
            · rw [if_neg e, if_neg e]; exact h1 i hi
          · rw [r10, s40]
            by_cases e : i = c
            · rw [if_pos e, if_pos e, h2 c (by omega)]
            · rw [if_neg e, if_neg e]; exact h2 i hi
          · rw [sumI_congr (f := sn.2 42) (g := fun u => if u = bi then s1.2 42 bi + x else s1.2 42 u) _ (fun u _ => s42 u), sumI_upd _ _ _ _ w5, upd_more, sumI_congr (f := sn.2 40) (g := fun u => if u = c then s1.2 40 c + x else s1.2 40 u) _ (fun u _ => s40 u), sumI_upd _ _ _ _ hc, upd_more, h3]
          · rw [vk 11 (by decide), s0]; exact j1
          · rw [vk 12 (by decide), s0]; exact j2
          · rw [rD (30 + i) (by omega) (by omega) (by omega) (by omega), sD 41 (by decide) (by decide) (by decide)]; exact k1 i hi t ht
        · show (fc - x).toInt = min (fr1 - x).toInt ((sp _ 9 (D1.1 9 - x)).1 9).toInt
          rw [sp1, if_pos rfl, sfc, sfr, sD9]
          omega
        · show 0 ≤ (fr1 - x).toInt
          rw [sfr]; omega
        · show (fr1 - x).toInt ≤ 60
          rw [sfr]; omega
        · show ((kk + 1 : Nat) : Int) + (fc - x).toInt ≤ 60
          rw [sfc]; omega
        · show (fc - x).toInt.toNat < fc.toInt.toNat
          rw [sfc]; omega
  · show ((0 : Nat) : Int) + (mmin fr (D.1 9)).toInt ≤ 60
    rw [mmin_i]; have := hfr.2; omega
  · show (mmin fr (D.1 9)).toInt.toNat < n
    rw [mmin_i]; have := hfr.2; omega
  · show (mmin fr (D.1 9)).toInt.toNat < n
    rw [mmin_i]; have := hfr.2; omega
