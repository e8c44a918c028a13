def dy5 (n : Nat) (a1 : Int32) : ((Int32 × MS) → Option MS) → (Int32 × MS) → Option MS := fun K5 (t4 : Int32 × MS) =>
  if 960 ≤ t4.1 then (
    lp (fun K8 (t7 : Int32 × MS) =>
      if 720 ≤ t7.1 then (
        lp (fun K11 (t10 : Int32 × MS) =>
          if 24 ≤ t10.1 then (
            lp (fun K14 (t13 : Int32 × MS) =>
              if (t13.2.1 1) ≤ t13.1 then (
                lp (fun K17 (t16 : Int32 × MS) =>
                  if (t16.2.1 15) ≤ t16.1 then (
                    some t16.2)
                  else (
                    cl (f_X8_goMinute n a1 t16.1 t16.2) fun q19 =>
                    K17 ((t16.1 + 1), q19))) n (0, t13.2))
              else (
                ck (ib t13.1 6) <| bn (t13.2.2 2 (Int32.toNatClampNeg t13.1)) fun x20 =>
                ck (ib t13.1 6) <| bn (ap t13.2 37 (Int32.toNatClampNeg t13.1) x20) fun z21 =>
                ck (ib t13.1 6) <| bn (ap z21 42 (Int32.toNatClampNeg t13.1) 0) fun z22 =>
                K14 ((t13.1 + 1), z22))) n (0, t10.2))
          else (
            ck (ib t10.1 24) <| bn (ap t10.2 40 (Int32.toNatClampNeg t10.1) 0) fun z23 =>
            K11 ((t10.1 + 1), z23))) n (0, t7.2))
      else (
        ck (ib t7.1 720) <| bn (ap t7.2 39 (Int32.toNatClampNeg t7.1) 0) fun z24 =>
        K8 ((t7.1 + 1), z24))) n (0, t4.2))
  else (
    ck (ib t4.1 960) <| bn (ap t4.2 38 (Int32.toNatClampNeg t4.1) 0) fun z25 =>
    K5 ((t4.1 + 1), z25))
def dy8 (n : Nat) (a1 : Int32) : ((Int32 × MS) → Option MS) → (Int32 × MS) → Option MS := fun K8 (t7 : Int32 × MS) =>
  if 720 ≤ t7.1 then (
    lp (fun K11 (t10 : Int32 × MS) =>
      if 24 ≤ t10.1 then (
        lp (fun K14 (t13 : Int32 × MS) =>
          if (t13.2.1 1) ≤ t13.1 then (
            lp (fun K17 (t16 : Int32 × MS) =>
              if (t16.2.1 15) ≤ t16.1 then (
                some t16.2)
              else (
                cl (f_X8_goMinute n a1 t16.1 t16.2) fun q19 =>
                K17 ((t16.1 + 1), q19))) n (0, t13.2))
          else (
            ck (ib t13.1 6) <| bn (t13.2.2 2 (Int32.toNatClampNeg t13.1)) fun x20 =>
            ck (ib t13.1 6) <| bn (ap t13.2 37 (Int32.toNatClampNeg t13.1) x20) fun z21 =>
            ck (ib t13.1 6) <| bn (ap z21 42 (Int32.toNatClampNeg t13.1) 0) fun z22 =>
            K14 ((t13.1 + 1), z22))) n (0, t10.2))
      else (
        ck (ib t10.1 24) <| bn (ap t10.2 40 (Int32.toNatClampNeg t10.1) 0) fun z23 =>
        K11 ((t10.1 + 1), z23))) n (0, t7.2))
  else (
    ck (ib t7.1 720) <| bn (ap t7.2 39 (Int32.toNatClampNeg t7.1) 0) fun z24 =>
    K8 ((t7.1 + 1), z24))
def dy11 (n : Nat) (a1 : Int32) : ((Int32 × MS) → Option MS) → (Int32 × MS) → Option MS := fun K11 (t10 : Int32 × MS) =>
  if 24 ≤ t10.1 then (
    lp (fun K14 (t13 : Int32 × MS) =>
      if (t13.2.1 1) ≤ t13.1 then (
        lp (fun K17 (t16 : Int32 × MS) =>
          if (t16.2.1 15) ≤ t16.1 then (
            some t16.2)
          else (
            cl (f_X8_goMinute n a1 t16.1 t16.2) fun q19 =>
            K17 ((t16.1 + 1), q19))) n (0, t13.2))
      else (
        ck (ib t13.1 6) <| bn (t13.2.2 2 (Int32.toNatClampNeg t13.1)) fun x20 =>
        ck (ib t13.1 6) <| bn (ap t13.2 37 (Int32.toNatClampNeg t13.1) x20) fun z21 =>
        ck (ib t13.1 6) <| bn (ap z21 42 (Int32.toNatClampNeg t13.1) 0) fun z22 =>
        K14 ((t13.1 + 1), z22))) n (0, t10.2))
  else (
    ck (ib t10.1 24) <| bn (ap t10.2 40 (Int32.toNatClampNeg t10.1) 0) fun z23 =>
    K11 ((t10.1 + 1), z23))
def dy14 (n : Nat) (a1 : Int32) : ((Int32 × MS) → Option MS) → (Int32 × MS) → Option MS := fun K14 (t13 : Int32 × MS) =>
  if (t13.2.1 1) ≤ t13.1 then (
    lp (fun K17 (t16 : Int32 × MS) =>
      if (t16.2.1 15) ≤ t16.1 then (
        some t16.2)
      else (
        cl (f_X8_goMinute n a1 t16.1 t16.2) fun q19 =>
        K17 ((t16.1 + 1), q19))) n (0, t13.2))
  else (
    ck (ib t13.1 6) <| bn (t13.2.2 2 (Int32.toNatClampNeg t13.1)) fun x20 =>
    ck (ib t13.1 6) <| bn (ap t13.2 37 (Int32.toNatClampNeg t13.1) x20) fun z21 =>
    ck (ib t13.1 6) <| bn (ap z21 42 (Int32.toNatClampNeg t13.1) 0) fun z22 =>
    K14 ((t13.1 + 1), z22))
def dy17 (n : Nat) (a1 : Int32) : ((Int32 × MS) → Option MS) → (Int32 × MS) → Option MS := fun K17 (t16 : Int32 × MS) =>
  if (t16.2.1 15) ≤ t16.1 then (
    some t16.2)
  else (
    cl (f_X8_goMinute n a1 t16.1 t16.2) fun q19 =>
    K17 ((t16.1 + 1), q19))
def bgF (n : Nat) (s1 : MS) : ((Int32 × MS) → Option MS) → (Int32 × MS) → Option MS := fun K2 (t1 : Int32 × MS) =>
  if (s1.1 0) ≤ t1.1 then (
    bn (ar t1.2 10 (filln 24 0 (t1.2.2 10))) fun z4 =>
    bn (sp z4 9 0) fun z5 =>
    bn (sp z5 11 0) fun z6 =>
    bn (sp z6 12 0) fun z7 =>
    some z7)
  else (
    ck (ib t1.1 6) <| bn (s1.2 1 (Int32.toNatClampNeg t1.1)) fun x8 =>
    ck (ib t1.1 6) <| bn (ap t1.2 4 (Int32.toNatClampNeg t1.1) x8) fun z9 =>
    ck (ib t1.1 6) <| bn (ap z9 6 (Int32.toNatClampNeg t1.1) 0) fun z10 =>
    ck (ib t1.1 6) <| bn (ap z10 7 (Int32.toNatClampNeg t1.1) 0) fun z11 =>
    ck (ib t1.1 6) <|
    bn (ar z11 (20 + Int32.toNatClampNeg t1.1) (filln 120 0 (z11.2 (20 + Int32.toNatClampNeg t1.1)))) fun z13 =>
    K2 ((t1.1 + 1), z13))
-- THE DAY, whole
theorem m_clear (n : Nat) (hn : 1000 ≤ n) (w : Int32) (many : Int32) (K : Nat) (hK : K ≤ 6) (s : MS) (h1 : s.1 1 = nI K) : ∃ B, f_X8_day n w many s = lp (dy17 n w) n (0, B) ∧ B.1 = (fun k => if k = 44 then 0 else if k = 43 then 0 else if k = 45 then many else s.1 k) ∧ (∀ k, k ≠ 37 → k ≠ 38 → k ≠ 39 → k ≠ 40 → k ≠ 42 → B.2 k = s.2 k) ∧ (∀ u, u < 960 → B.2 38 u = 0) ∧ (∀ u, u < 720 → B.2 39 u = 0) ∧ (∀ u, u < 24 → B.2 40 u = 0) ∧ ∀ i, i < K → B.2 37 i = s.2 2 i ∧ B.2 42 i = 0 := by
  have e0 : f_X8_day n w many s = lp (dy5 n w) n (0, sp (sp (sp s 45 many) 43 0) 44 0) := rfl
  obtain ⟨x, ⟨-, x2, x3, x4⟩, hx⟩ := lp_to (F := fun (_ : Unit) => dy5 n w) 960 (fun j x => x.1 = nI j ∧ x.2.1 = (sp (sp (sp s 45 many) 43 0) 44 0).1 ∧ (∀ k, k ≠ 38 → x.2.2 k = s.2 k) ∧ ∀ u, u < j → x.2.2 38 u = 0) (fun _ x => lp (dy8 n w) n (0, x.2)) (by
    rintro j ⟨c, x⟩ hj ⟨rfl, y1, y2, y3⟩
    have y2 : ∀ k, k ≠ 38 → x.2 k = s.2 k := y2
    have y3 : ∀ u, u < j → x.2 38 u = 0 := y3
    refine ⟨(nI (j + 1), ap x 38 j 0), ⟨rfl, y1, fun k hk => ?_, fun u hu => ?_⟩, fun _ self => ?_⟩
    · show (ap x 38 j 0).2 k = _
      funext v; rw [ap2, if_neg hk, y2 k hk]
    · show (ap x 38 j 0).2 38 u = _
      rw [ap2, if_pos rfl]
      split
      · rfl
      · exact y3 u (by omega)
    · unfold dy5
      dsimp only
      rw [if_neg (lge 960 960 rfl hj (by omega)), ib_j hj (by omega), ck_t, bn_def, nI_clamp (by omega), nI_succ]) (by
    rintro ⟨c, x⟩ ⟨rfl, -⟩ _ self
    unfold dy5
    dsimp only
    rw [if_pos (by decide)]
    rfl) n (by omega) (0, sp (sp (sp s 45 many) 43 0) 44 0) ⟨rfl, rfl, fun _ _ => rfl, fun u hu => absurd hu (Nat.not_lt_zero _)⟩
  obtain ⟨y, ⟨-, y2, y3, y4⟩, hy⟩ := lp_to (F := fun (_ : Unit) => dy8 n w) 720 (fun j y => y.1 = nI j ∧ y.2.1 = x.2.1 ∧ (∀ k, k ≠ 39 → y.2.2 k = x.2.2 k) ∧ ∀ u, u < j → y.2.2 39 u = 0) (fun _ x => lp (dy11 n w) n (0, x.2)) (by
    rintro j ⟨c, y⟩ hj ⟨rfl, y1, y2, y3⟩
    have y2 : ∀ k, k ≠ 39 → y.2 k = x.2.2 k := y2
    have y3 : ∀ u, u < j → y.2 39 u = 0 := y3
    refine ⟨(nI (j + 1), ap y 39 j 0), ⟨rfl, y1, fun k hk => ?_, fun u hu => ?_⟩, fun _ self => ?_⟩
    · show (ap y 39 j 0).2 k = _
      funext v; rw [ap2, if_neg hk, y2 k hk]
    · show (ap y 39 j 0).2 39 u = _
      rw [ap2, if_pos rfl]
      split
      · rfl
      · exact y3 u (by omega)
    · unfold dy8
      dsimp only
      rw [if_neg (lge 720 720 rfl hj (by omega)), ib_j hj (by omega), ck_t, bn_def, nI_clamp (by omega), nI_succ]) (by
    rintro ⟨c, x⟩ ⟨rfl, -⟩ _ self
    unfold dy8
    dsimp only
    rw [if_pos (by decide)]
    rfl) n (by omega) (0, x.2) ⟨rfl, rfl, fun _ _ => rfl, fun u hu => absurd hu (Nat.not_lt_zero _)⟩
  obtain ⟨z, ⟨-, z2, z3, z4⟩, hz⟩ := lp_to (F := fun (_ : Unit) => dy11 n w) 24 (fun j z => z.1 = nI j ∧ z.2.1 = y.2.1 ∧ (∀ k, k ≠ 40 → z.2.2 k = y.2.2 k) ∧ ∀ u, u < j → z.2.2 40 u = 0) (fun _ x => lp (dy14 n w) n (0, x.2)) (by
    rintro j ⟨c, z⟩ hj ⟨rfl, y1, y2, y3⟩
    have y2 : ∀ k, k ≠ 40 → z.2 k = y.2.2 k := y2
    have y3 : ∀ u, u < j → z.2 40 u = 0 := y3
    refine ⟨(nI (j + 1), ap z 40 j 0), ⟨rfl, y1, fun k hk => ?_, fun u hu => ?_⟩, fun _ self => ?_⟩
    · show (ap z 40 j 0).2 k = _
      funext v; rw [ap2, if_neg hk, y2 k hk]
    · show (ap z 40 j 0).2 40 u = _
      rw [ap2, if_pos rfl]
      split
      · rfl
      · exact y3 u (by omega)
    · unfold dy11
      dsimp only
      rw [if_neg (lge 24 24 rfl hj (by omega)), ib_j hj (by omega), ck_t, bn_def, nI_clamp (by omega), nI_succ]) (by
    rintro ⟨c, x⟩ ⟨rfl, -⟩ _ self
    unfold dy11
    dsimp only
    rw [if_pos (by decide)]
    rfl) n (by omega) (0, y.2) ⟨rfl, rfl, fun _ _ => rfl, fun u hu => absurd hu (Nat.not_lt_zero _)⟩
  have zr2 : z.2.2 2 = s.2 2 := by rw [z3 2 (by decide), y3 2 (by decide), x3 2 (by decide)]
  have z11 : z.2.1 1 = nI K := by rw [z2, y2, x2]; exact h1
  obtain ⟨v, ⟨-, v2, v3, v4⟩, hv⟩ := lp_to (F := fun (_ : Unit) => dy14 n w) K (fun j v => v.1 = nI j ∧ v.2.1 = z.2.1 ∧ (∀ k, k ≠ 37 → k ≠ 42 → v.2.2 k = z.2.2 k) ∧ ∀ i, i < j → v.2.2 37 i = s.2 2 i ∧ v.2.2 42 i = 0) (fun _ x => lp (dy17 n w) n (0, x.2)) (by
    rintro j ⟨c, v⟩ hj ⟨rfl, y1, y2, y3⟩
    have y1 : v.1 = z.2.1 := y1
    have y2 : ∀ k, k ≠ 37 → k ≠ 42 → v.2 k = z.2.2 k := y2
    have y3 : ∀ i, i < j → v.2 37 i = s.2 2 i ∧ v.2 42 i = 0 := y3
    refine ⟨(nI (j + 1), ap (ap v 37 j (s.2 2 j)) 42 j 0), ⟨rfl, y1, fun k h1 h2 => ?_, fun i hi => ?_⟩, fun _ self => ?_⟩
    · show (ap (ap v 37 _ _) 42 _ _).2 k = _
      funext u; rw [ap2, if_neg h2, ap2, if_neg h1, y2 k h1 h2]
    · show (ap (ap v 37 j (s.2 2 j)) 42 j 0).2 37 i = _ ∧ (ap (ap v 37 j (s.2 2 j)) 42 j 0).2 42 i = _
      have q : (ap v 37 j (s.2 2 j)).2 42 i = v.2 42 i := by rw [ap2, if_neg (by decide)]
      rw [ap2, if_neg (by decide), ap2, if_pos rfl, ap2, if_pos rfl, q]
      by_cases e : i = j
      · rw [if_pos e, if_pos e, e]; exact ⟨rfl, rfl⟩
      · rw [if_neg e, if_neg e]; exact y3 i (by omega)
    · unfold dy14
      dsimp only
      rw [y1, z11, if_neg (nI_ge hj (by omega)), ib_j (by omega) (by omega), ck_t, bn_def, ck_t, bn_def, ck_t, bn_def, nI_clamp (by omega), y2 2 (by decide) (by decide), zr2, nI_succ]) (by
    rintro ⟨c, v⟩ ⟨rfl, y1, -⟩ _ self
    have y1 : v.1 = z.2.1 := y1
    unfold dy14
    dsimp only
    rw [y1, z11, if_pos (Int32.le_refl _)]
    rfl) n (by omega) (0, z.2) ⟨rfl, rfl, fun _ _ _ => rfl, fun u hu => absurd hu (Nat.not_lt_zero _)⟩
  refine ⟨v.2, by rw [e0]; exact (hx ()).trans ((hy ()).trans ((hz ()).trans (hv ()))), ?_, fun k g1 g2 g3 g4 g5 => ?_, fun u hu => ?_, fun u hu => ?_, fun u hu => ?_, v4⟩
  · rw [v2, z2, y2, x2]
    funext k
    rw [sp1, sp1, sp1]
  · rw [v3 k g1 g5, z3 k g4, y3 k g3, x3 k g2]
  · rw [v3 38 (by decide) (by decide), z3 38 (by decide), y3 38 (by decide)]; exact x4 u hu
  · rw [v3 39 (by decide) (by decide), z3 39 (by decide)]; exact y4 u hu
  · rw [v3 40 (by decide) (by decide)]; exact z4 u hu
theorem c_begin1 (n : Nat) (hn : 10 ≤ n) (K : Nat) (hK : K ≤ 6) (D h : MS) (h0 : h.1 0 = nI K) : ∃ D', f_X1_begin n D h = some D' ∧ D'.2 0 = D.2 0 ∧ D'.2 1 = D.2 1 ∧ D'.2 2 = D.2 2 ∧ (∀ i, i < K → D'.2 4 i = h.2 1 i ∧ D'.2 6 i = 0 ∧ D'.2 7 i = 0 ∧ ∀ t, t < 120 → D'.2 (20 + i) t = 0) ∧ (∀ c, c < 24 → D'.2 10 c = 0) ∧ D'.1 9 = 0 ∧ D'.1 11 = 0 ∧ D'.1 12 = 0 := by
  obtain ⟨x, ⟨-, x2, x3⟩, hx⟩ := lp_to (F := fun (_ : Unit) => bgF n h) K (fun j x => x.1 = nI j ∧ (∀ k, k < 3 → x.2.2 k = D.2 k) ∧ ∀ i, i < j → x.2.2 4 i = h.2 1 i ∧ x.2.2 6 i = 0 ∧ x.2.2 7 i = 0 ∧ ∀ t, t < 120 → x.2.2 (20 + i) t = 0) (fun _ x => some (sp (sp (sp (ar x.2 10 (filln 24 0 (x.2.2 10))) 9 0) 11 0) 12 0)) (by
    rintro j ⟨c, x⟩ hj ⟨rfl, y1, y2⟩
    have y1 : ∀ k, k < 3 → x.2 k = D.2 k := y1
    have y2 : ∀ i, i < j → x.2 4 i = h.2 1 i ∧ x.2 6 i = 0 ∧ x.2 7 i = 0 ∧ ∀ t, t < 120 → x.2 (20 + i) t = 0 := y2
    obtain ⟨X, hX⟩ : ∃ X, X = ap (ap (ap x 4 j (h.2 1 j)) 6 j 0) 7 j 0 := ⟨_, rfl⟩
    have X4 : ∀ i, X.2 4 i = if i = j then h.2 1 j else x.2 4 i := fun i => by rw [hX, ap2, if_neg (by decide), ap2, if_neg (by decide), ap2, if_pos rfl]
    have X6 : ∀ i, X.2 6 i = if i = j then 0 else x.2 6 i := fun i => by
      have q : (ap x 4 j (h.2 1 j)).2 6 i = x.2 6 i := by rw [ap2, if_neg (by decide)]
      rw [hX, ap2, if_neg (by decide), ap2, if_pos rfl, q]
    have X7 : ∀ i, X.2 7 i = if i = j then 0 else x.2 7 i := fun i => by
      have q : (ap (ap x 4 j (h.2 1 j)) 6 j 0).2 7 i = x.2 7 i := by rw [ap2, if_neg (by decide), ap2, if_neg (by decide)]
      rw [hX, ap2, if_pos rfl, q]
    have Xo : ∀ k, k ≠ 4 → k ≠ 6 → k ≠ 7 → X.2 k = x.2 k := fun k h4 h6 h7 => by
      rw [hX]; funext u; rw [ap2, if_neg h7, ap2, if_neg h6, ap2, if_neg h4]
    refine ⟨(nI (j + 1), ar X (20 + j) (filln 120 0 (X.2 (20 + j)))), ⟨rfl, fun k hk => ?_, fun i hi => ?_⟩, fun _ self => ?_⟩
    · show (ar X _ _).2 k = _
      rw [ar2, if_neg (by omega), Xo k (by omega) (by omega) (by omega), y1 k hk]
    · show (ar X _ _).2 4 i = _ ∧ (ar X _ _).2 6 i = _ ∧ (ar X _ _).2 7 i = _ ∧ ∀ t, t < 120 → (ar X _ _).2 (20 + i) t = _
      rw [ar2, if_neg (by omega), ar2, if_neg (by omega), ar2, if_neg (by omega), X4, X6, X7]
      by_cases e : i = j
      · subst e
        rw [if_pos rfl, if_pos rfl, if_pos rfl]
        refine ⟨rfl, rfl, rfl, fun t ht => ?_⟩
        rw [ar2, if_pos rfl]
        unfold filln
        rw [if_pos ht]
      · rw [if_neg e, if_neg e, if_neg e]
        obtain ⟨g1, g2, g3, g4⟩ := y2 i (by omega)
        refine ⟨g1, g2, g3, fun t ht => ?_⟩
        rw [ar2, if_neg (by omega), Xo _ (by omega) (by omega) (by omega)]
        exact g4 t ht
    · unfold bgF
      dsimp only
      rw [h0, if_neg (nI_ge hj (by omega)), ib_j (by omega) (by omega), ck_t, bn_def, ck_t, bn_def, ck_t, bn_def, ck_t, bn_def, ck_t, bn_def, nI_clamp (by omega), nI_succ, ← hX]) (by
    rintro ⟨c, x⟩ ⟨rfl, -⟩ _ self
    unfold bgF
    dsimp only
    rw [h0, if_pos (Int32.le_refl _)]
    rfl) n (by omega) (0, D) ⟨rfl, fun _ _ => rfl, fun i hi => absurd hi (Nat.not_lt_zero _)⟩
  refine ⟨_, hx (), ?_, ?_, ?_, fun i hi => ?_, fun c hc => ?_, ?_, ?_, ?_⟩
  · rw [sp2, sp2, sp2, ar2, if_neg (by decide)]; exact x2 0 (by omega)
  · rw [sp2, sp2, sp2, ar2, if_neg (by decide)]; exact x2 1 (by omega)
  · rw [sp2, sp2, sp2, ar2, if_neg (by decide)]; exact x2 2 (by omega)
  · rw [sp2, sp2, sp2, ar2, if_neg (by decide), ar2, if_neg (by decide), ar2, if_neg (by decide)]
    obtain ⟨g1, g2, g3, g4⟩ := x3 i hi
    exact ⟨g1, g2, g3, fun t ht => by rw [ar2, if_neg (by omega)]; exact g4 t ht⟩
  · rw [sp2, sp2, sp2, ar2, if_pos rfl]
    unfold filln
    rw [if_pos hc]
  · rw [sp_ne _ _ _ _ (by decide), sp_ne _ _ _ _ (by decide), sp_eq]
  · rw [sp_ne _ _ _ _ (by decide), sp_eq]
  · rw [sp_eq]
/-- what the day leaves of the reference's state -/
def DS (s s' : MS) : Prop := (∀ k, k ≠ 43 → k ≠ 44 → k ≠ 45 → s'.1 k = s.1 k) ∧ ∀ k, k < 33 ∨ k = 35 ∨ k = 36 ∨ 42 < k → s'.2 k = s.2 k
theorem run_both (n : Nat) (hn : 1000 ≤ n) (t0 T N h C D s : MS) (w : Int32) (K E cN : Nat) (rH : RHill h s) (h1 : s.1 1 = nI K) (hK : K ≤ 6) (h15 : s.1 15 = nI E) (hE : E ≤ 120) (hT0 : T0OK t0) (hTk : TOK t0 T s) (hear : ∀ m, m < E → f_X8_calls n w (nI m) s = some (D.2 0 m) ∧ f_X8_asks n w (nI m) s = some (D.2 1 m)) (o : Int32) (hoo : f_X8_orderOf n w s = some o) (ho : ORD s K (D.2 2) o) (hcN : cN ≤ 24) (hcar : ∀ c, c < cN → IR (s.2 7 c) 1 60 ∧ IR (s.2 8 c) 1 30 ∧ ∀ m, m < 120 → f_X0_roomOf n (nI c) (nI m) C = some (if goP (s.2 9 c) (s.2 8 c) (nI m) then s.2 7 c else 0)) : ∃ D' N' T' s' B, f_X1_run n (nI cN) D N h C T = some (D', N', T') ∧ f_X8_day n w (nI cN) s = some s' ∧ RDY B T K cN E E (D.2 0) (D.2 1) (D.2 2) D' T' s' ∧ DS s s' ∧ TEQ T T' := by
  obtain ⟨B, q1, q2, q3, q4, q5, q6, q7⟩ := m_clear n hn w (nI cN) K hK s h1
  have b1 : ∀ k, k ≠ 43 → k ≠ 44 → k ≠ 45 → B.1 k = s.1 k := fun k g1 g2 g3 => by rw [q2]; show (if k = 44 then _ else if k = 43 then _ else if k = 45 then _ else s.1 k) = _; rw [if_neg g2, if_neg g1, if_neg g3]
  have b2 : ∀ k, k < 33 ∨ k = 35 ∨ k = 36 ∨ 42 < k → B.2 k = s.2 k := fun k hk => q3 k (by omega) (by omega) (by omega) (by omega) (by omega)
  have b45 : B.1 45 = nI cN := by rw [q2]; rfl
  have b43 : B.1 43 = 0 := by rw [q2]; rfl
  have b44 : B.1 44 = 0 := by rw [q2]; rfl
  have e0 : h.1 0 = nI K := by rw [rH.1, h1]
  obtain ⟨D1, d0, d1, d2, d3, d4, d5, d6, d7, d8⟩ := c_begin1 n (by omega) K hK D h e0
  have rHB : RHill h B := RHill_ag rH ⟨fun k hk => by
    simp only [List.mem_cons, List.mem_nil_iff, or_false] at hk
    exact b1 k (by omega) (by omega) (by omega), fun k hk => by
    simp only [List.mem_cons, List.mem_nil_iff, or_false] at hk
    exact b2 k (by omega)⟩
  have hcal : ∀ m, f_X8_calls n w m B = f_X8_calls n w m s := fun m => by
    unfold f_X8_calls
    rw [b1 18 (by decide) (by decide) (by decide), b2 11 (by omega), b2 12 (by omega), b2 13 (by omega), b2 58 (by omega), b2 59 (by omega)]
  have hask : ∀ m, f_X8_asks n w m B = f_X8_asks n w m s := fun m => by
    unfold f_X8_asks
    rw [b1 18 (by decide) (by decide) (by decide), b2 11 (by omega), b2 12 (by omega), b2 13 (by omega)]
  have hord : f_X8_orderOf n w B = some o := by
    rw [← hoo]
    unfold f_X8_orderOf
    rw [b1 18 (by decide) (by decide) (by decide), b2 11 (by omega)]
  have X : DCX n t0 T h B w K E (D.2 0) (D.2 1) := ⟨rHB, by rw [b1 1 (by decide) (by decide) (by decide), h1], hK, by rw [b1 15 (by decide) (by decide) (by decide), h15], hE, hT0, TOK_eq hTk ⟨rfl, rfl, rfl⟩ (b1 22 (by decide) (by decide) (by decide)) (b2 23 (by omega)) (b2 24 (by omega)) (b2 25 (by omega)), fun m hm => by rw [hcal, hask]; exact hear m hm⟩
  have hC : CARS n C B cN := ⟨b45, hcN, fun c hc => by rw [b2 7 (by omega), b2 8 (by omega), b2 9 (by omega)]; exact hcar c hc⟩
  have hO : ORD B K (D.2 2) o := by
    unfold ORD
    rw [b2 3 (by omega)]
    exact ho
  have hW0 : ∀ q, q < 120 * K → B.2 39 q = 0 := fun q hq => q5 q (by omega)
  have H0 : RDY B T K cN 0 0 (D.2 0) (D.2 1) (D.2 2) D1 T B := by
    refine ⟨⟨⟨rfl, rfl, rfl⟩, DA_rf B, d1, d2, d3⟩, fun i hi => ?_, ⟨fun i hi t h4 h5 => absurd h4 (Nat.not_lt_zero _), fun i hi t _ ht => hW0 _ (by omega), fun i hi t _ ht => ?_, fun i hi t _ ht => q4 _ (by omega)⟩, ⟨fun i hi t ht => by rw [hW0 _ (by omega)]; exact ⟨by decide, by decide⟩, fun i hi t ht => by rw [q4 _ (by omega)]; exact ⟨by decide, by decide⟩⟩, fun i hi => ⟨0, (d4 i hi).2.1, Nat.le_refl _, fun t h4 _ => absurd h4 (Nat.not_lt_zero _)⟩, ?_, ⟨fun i hi => ?_, fun c hc => ?_, ?_⟩, ⟨by rw [d7, b43], by rw [d8, b44]⟩, fun i hi t h4 => absurd h4 (Nat.not_lt_zero _)⟩
    · rw [(d4 i hi).1, (q7 i hi).1, (rH.2.2.1 i (by omega)).1]
      exact ⟨rfl, (rH.2.2.2.1 i (by omega)).1⟩
    · rw [(d4 i hi).2.2.2 t ht, q4 _ (by omega)]
    · rw [d6, sumI_congr (g := fun _ => 0) _ (fun q hq => hW0 q hq), sumI_z]
    · rw [(d4 i hi).2.2.1, (q7 i hi).2]
    · rw [d5 c hc, q6 c hc]
    · rw [sumI_congr (g := fun _ => 0) _ (fun i hi => (q7 i hi).2), sumI_z, sumI_congr (g := fun _ => 0) _ (fun c hc => q6 c (by omega)), sumI_z]
  obtain ⟨x, y, hI, hF, hG⟩ := lp_two_to (F := ruF n (nI cN) h C) (G := dy17 n w) E (fun j x y => x.1 = nI j ∧ y.1 = nI j ∧ RDY B T K cN j j (D.2 0) (D.2 1) (D.2 2) x.2.1 x.2.2.2 y.2) (fun x => some (x.2.1, x.2.2.1, x.2.2.2)) (fun y => some y.2) (by
    rintro j ⟨c, D2, N2, T2⟩ ⟨c', s2⟩ hj ⟨rfl, rfl, H⟩
    have H : RDY B T K cN j j (D.2 0) (D.2 1) (D.2 2) D2 T2 s2 := H
    obtain ⟨D3, N3, T3, s3, p1, p2, p3⟩ := minute_both n (by omega) X hC o hO hord j hj D2 N2 T2 s2 H
    refine ⟨(nI (j + 1), D3, N3, T3), (nI (j + 1), s3), ⟨rfl, rfl, p3⟩, p1, fun self => ?_⟩
    unfold dy17
    dsimp only
    rw [H.1.2.1.1 15 (by decide) (by decide), b1 15 (by decide) (by decide) (by decide), h15, if_neg (nI_ge hj (by omega)), p2, cl_some, nI_succ]) (by
    rintro ⟨c, D2, N2, T2⟩ ⟨c', s2⟩ ⟨rfl, rfl, H⟩
    have H : RDY B T K cN E E (D.2 0) (D.2 1) (D.2 2) D2 T2 s2 := H
    refine ⟨fun self => ?_, fun self => ?_⟩
    · unfold ruF
      dsimp only
      rw [rH.2.2.2.2.2.1, h15, if_pos (Int32.le_refl _)]
    · unfold dy17
      dsimp only
      rw [H.1.2.1.1 15 (by decide) (by decide), b1 15 (by decide) (by decide) (by decide), h15, if_pos (Int32.le_refl _)]) n (by omega) (0, D1, N, T) (0, B) ⟨rfl, rfl, H0⟩
  obtain ⟨c, D2, N2, T2⟩ := x
  obtain ⟨c', s2⟩ := y
  obtain ⟨-, -, H⟩ := hI
  have H : RDY B T K cN E E (D.2 0) (D.2 1) (D.2 2) D2 T2 s2 := H
  refine ⟨D2, N2, T2, s2, B, ?_, ?_, H, ⟨fun k g1 g2 g3 => by rw [H.1.2.1.1 k g1 g2, b1 k g1 g2 g3], fun k hk => by rw [H.1.2.1.2 k hk, b2 k hk]⟩, H.1.1⟩
  · have : f_X1_run n (nI cN) D N h C T = cl (f_X1_begin n D h) fun q1 => lp (ruF n (nI cN) h C) n (0, q1, N, T) := rfl
    rw [this, d0, cl_some]
    exact hF
  · rw [q1]; exact hG
