theorem lev_loop (n : Nat) (hn : 170 ≤ n) (r4 : Nat → Int32 → MS → MS → Option (MS × MS)) (r8 : Nat → MS → Option MS) (w a : Nat) (hr : CON n r4 r8 w a) (F : ((Int32 × MS × MS) → Option (MS × MS)) → (Int32 × MS × MS) → Option (MS × MS)) (G : (MS → Option MS) → MS → Option MS) (X : Int32 → Prop) (Y : Int32 → Int32 → Prop) (cx rc rx : Int32 → Int32) (hF1 : ∀ self k P T, 160 ≤ k ∨ ¬ X (P.1 3) → F self (k, P, T) = some (P, T)) (hF2 : ∀ self k P T, ¬ 160 ≤ k → X (P.1 3) → F self (k, P, T) = cl (f_X4_next n P) fun P1 => cl (r4 w (nI a) P1 T) fun q7 => cl (f_X5_add n (cx (P.1 3)) q7.2) fun q8 => self (k + 1, q7.1, q8)) (hG1 : ∀ self s, ¬ (s.1 27 < 0 ∧ Y (s.1 31) (s.1 32)) → G self s = some s) (hG2 : ∀ self s, (s.1 27 < 0 ∧ Y (s.1 31) (s.1 32)) → G self s = cl (f_X8_next n s) fun q6 => cl (r8 w q6) fun q7 => cl (f_X8_addStep n (rc (s.1 32)) (rx (s.1 32)) q7) fun q8 => self q8) (hXY : ∀ k sn is, TK k sn is → (X k ↔ Y sn is)) (hX0 : ¬ X 0) (hX1 : ¬ X 1) (hst : ∀ k sn is, TK k sn is → X k → stepR (cx k) (rc is) (rx is) ∧ ¬ 300 ≤ cx k ∧ ¬ (cx k = 258 ∨ cx k = 259)) (P T s : MS) (Z p L : Nat) (hc : RPC P T s Z) (P1 T1 s1 : MS) (h : OUT P T s Z p L a 1 p P1 T1 s1) : ∃ P' T' s', lp F n (0, P1, T1) = some (P', T') ∧ lp G n s1 = some s' ∧ OUT P T s Z p L a 1 p P' T' s' := by
  have hZ := hc.1.2.2.1
  suffices H : ∃ r q, OUT P T s Z p L a 1 p r.1 r.2 q ∧ lp F n (0, P1, T1) = some r ∧ lp G n s1 = some q by
    obtain ⟨r, q, h1, h2, h3⟩ := H
    exact ⟨r.1, r.2, q, h2, h3, h1⟩
  refine lp_two (F := F) (G := G) (fun x y => ∃ j, x.1 = nI j ∧ j ≤ 160 ∧ FR P T s x.2.1 x.2.2 y ∧ ((∃ p' L', LIVE x.2.1 x.2.2 y Z p' L' a ∧ p < p' ∧ j ≤ p' ∧ PR T L p x.2.2 L' p' 1) ∨ ∃ p' L', DEAD x.2.1 y Z p' L' ∧ p ≤ p' ∧ L' + p ≤ p' + L)) (fun x => 161 - x.1.toNatClampNeg) (fun r q => OUT P T s Z p L a 1 p r.1 r.2 q) ?_ n n (0, P1, T1) s1 ?_ (by show 161 - _ < n; omega) (by show 161 - _ < n; omega)
  · rintro ⟨k, Pk, Tk⟩ sk ⟨j, hk, hj, hF, h⟩
    have hk : k = nI j := hk
    subst hk
    have hF : FR P T s Pk Tk sk := hF
    have hck := RPC_fr hc hF
    rcases h with ⟨p', L', hl, hp, hjp, hpr⟩ | ⟨p', L', hd, hp, hs⟩
    · have hl : LIVE Pk Tk sk Z p' L' a := hl
      have hpr : PR T L p Tk L' p' 1 := hpr
      have tk := TKL_tk hl.1.2.2.1
      have h27 : sk.1 27 = -1 := hl.1.2.1
      by_cases hx : X (Pk.1 3)
      · have hne : ¬ Pk.1 3 = 1 := fun e => hX1 (by rw [← e]; exact hx)
        have hp'Z : p' < Z := by
          obtain ⟨q, -, -, -, -, k5, k6, ⟨-, e, -⟩ | ⟨e, -⟩⟩ := hl.1.2.2.1
          · exact absurd e hne
          · omega
        have h160 : ¬ (160 : Int32) ≤ nI j := lge 160 160 rfl (by omega) (by omega)
        obtain ⟨P2, s2, p2, u1, u2, u3, u4, u5⟩ := LIVE_next n hn hck hl.1 (by have := hl.2; omega) hne
        obtain ⟨P3, T3, s3, v1, v2, v3⟩ := hr.1 P2 Tk s2 Z p2 L' (RPC_fr hck u5) u3
        obtain ⟨g1, g2, g3⟩ := hst _ _ _ tk hx
        obtain ⟨T4, s4, w1, w2, w3⟩ := OUT_op n (e' := 1) hc (FR_tr hF u5) hpr u4 hl.2 v3 g1 (Or.inr (Or.inr ⟨g2, g3, by omega, by omega⟩))
        obtain ⟨w4, w5⟩ := w3
        refine Or.inl ⟨(nI (j + 1), P3, T4), s4, ⟨j + 1, rfl, by omega, w4, ?_⟩, ?_, fun self => ?_, fun self => ?_⟩
        · rcases w5 with ⟨p5, L5, y1, y2, y3⟩ | y
          · exact Or.inl ⟨p5, L5, y1, by omega, by omega, y3⟩
          · exact Or.inr y
        · show 161 - (nI (j + 1)).toNatClampNeg < 161 - (nI j).toNatClampNeg
          rw [nI_clamp (by omega), nI_clamp (by omega)]; omega
        · rw [hF2 self _ _ _ h160 hx, u1, cl_some, v1, cl_some, w1, cl_some, nI_succ]
        · rw [hG2 self _ ⟨by rw [h27]; decide, (hXY _ _ _ tk).mp hx⟩, u2, cl_some, v2, cl_some, w2, cl_some]
      · exact Or.inr ⟨(Pk, Tk), sk, ⟨hF, Or.inl ⟨p', L', hl, hp, hpr⟩⟩, fun self => hF1 self _ _ _ (Or.inr hx), fun self => hG1 self _ (fun q => hx ((hXY _ _ _ tk).mpr q.2))⟩
    · have hd : DEAD Pk sk Z p' L' := hd
      have hx : ¬ X (Pk.1 3) := by rw [hd.2.2.1]; exact hX0
      refine Or.inr ⟨(Pk, Tk), sk, ⟨hF, Or.inr ⟨p', L', hd, hp, hs⟩⟩, fun self => hF1 self _ _ _ (Or.inr hx), fun self => hG1 self _ (fun q => ?_)⟩
      have := q.1
      rw [lt_i, show (0 : Int32).toInt = 0 by decide] at this
      have := hd.2.1
      omega
  · obtain ⟨h1, h2⟩ := h
    refine ⟨0, rfl, by omega, h1, ?_⟩
    rcases h2 with ⟨p', L', a1, a2, a3⟩ | h2
    · exact Or.inl ⟨p', L', a1, a2, by omega, a3⟩
    · exact Or.inr h2
theorem lev_or (n : Nat) (hn : 170 ≤ n) (r4 : Nat → Int32 → MS → MS → Option (MS × MS)) (r8 : Nat → MS → Option MS) (a : Nat) (hr : CON n r4 r8 1 a) (P T s : MS) (Z p L : Nat) (hc : RPC P T s Z) (hl : LIVE P T s Z p L a) : ∃ P' T' s', b_X4_readOr n r4 (nI a) P T = some (P', T') ∧ b_X8_either n r8 s = some s' ∧ OUT P T s Z p L a 1 p P' T' s' := by
  obtain ⟨P1, T1, s1, e1, e2, e3⟩ := hr.1 P T s Z p L hc hl
  have f1 : b_X4_readOr n r4 (nI a) P T = lp (eO4 n r4 (nI a)) n (0, P1, T1) := by
    show cl (r4 1 (nI a) P T) (fun q1 => lp (eO4 n r4 (nI a)) n (0, q1.1, q1.2)) = _
    rw [e1]; rfl
  have f2 : b_X8_either n r8 s = lp (eO8 n r8) n s1 := by
    show cl (r8 1 s) (fun q1 => lp (eO8 n r8) n q1) = _
    rw [e2]; rfl
  rw [f1, f2]
  refine lev_loop n hn r4 r8 1 a hr _ _ (fun k => k = 256) (fun sn is => sn = 1 ∧ is = 13) (fun _ => 256) (fun _ => 5) (fun _ => 0) ?_ ?_ ?_ ?_ (fun k sn is h => by rw [show (k = 256) = (sn = 1 ∧ is = 13) from tk_key h 9 (by omega)]) (by decide) (by decide) (fun k sn is h hx => ⟨Or.inr (Or.inr (Or.inr (Or.inr (Or.inl ⟨rfl, rfl⟩)))), by decide, by decide⟩) P T s Z p L hc P1 T1 s1 e3
  · intro self k P T h
    unfold eO4; dsimp only
    by_cases h1 : (160 : Int32) ≤ k
    · rw [if_pos h1]
    · rw [if_neg h1, if_neg (h.resolve_left h1)]
  · intro self k P T h1 h2
    unfold eO4; dsimp only
    rw [if_neg h1, if_pos h2]
  · intro self s h
    unfold eO8
    rw [m_isKey, cl_some]
    simp only [bo_0]
    rw [ite_not_f h]
  · intro self s h
    unfold eO8
    rw [m_isKey, cl_some]
    simp only [bo_0]
    rw [ite_not_t h]
theorem lev_and (n : Nat) (hn : 170 ≤ n) (r4 : Nat → Int32 → MS → MS → Option (MS × MS)) (r8 : Nat → MS → Option MS) (a : Nat) (hr : CON n r4 r8 2 a) (P T s : MS) (Z p L : Nat) (hc : RPC P T s Z) (hl : LIVE P T s Z p L a) : ∃ P' T' s', b_X4_readAnd n r4 (nI a) P T = some (P', T') ∧ b_X8_all n r8 s = some s' ∧ OUT P T s Z p L a 1 p P' T' s' := by
  obtain ⟨P1, T1, s1, e1, e2, e3⟩ := hr.1 P T s Z p L hc hl
  have f1 : b_X4_readAnd n r4 (nI a) P T = lp (eA4 n r4 (nI a)) n (0, P1, T1) := by
    show cl (r4 2 (nI a) P T) (fun q1 => lp (eA4 n r4 (nI a)) n (0, q1.1, q1.2)) = _
    rw [e1]; rfl
  have f2 : b_X8_all n r8 s = lp (eA8 n r8) n s1 := by
    show cl (r8 2 s) (fun q1 => lp (eA8 n r8) n q1) = _
    rw [e2]; rfl
  rw [f1, f2]
  refine lev_loop n hn r4 r8 2 a hr _ _ (fun k => k = 257) (fun sn is => sn = 1 ∧ is = 14) (fun _ => 257) (fun _ => 6) (fun _ => 0) ?_ ?_ ?_ ?_ (fun k sn is h => by rw [show (k = 257) = (sn = 1 ∧ is = 14) from tk_key h 10 (by omega)]) (by decide) (by decide) (fun k sn is h hx => ⟨Or.inr (Or.inr (Or.inr (Or.inr (Or.inr (Or.inl ⟨rfl, rfl⟩))))), by decide, by decide⟩) P T s Z p L hc P1 T1 s1 e3
  · intro self k P T h
    unfold eA4; dsimp only
    by_cases h1 : (160 : Int32) ≤ k
    · rw [if_pos h1]
    · rw [if_neg h1, if_neg (h.resolve_left h1)]
  · intro self k P T h1 h2
    unfold eA4; dsimp only
    rw [if_neg h1, if_pos h2]
  · intro self s h
    unfold eA8
    rw [m_isKey, cl_some]
    simp only [bo_0]
    rw [ite_not_f h]
  · intro self s h
    unfold eA8
    rw [m_isKey, cl_some]
    simp only [bo_0]
    rw [ite_not_t h]
theorem lev_term (n : Nat) (hn : 170 ≤ n) (r4 : Nat → Int32 → MS → MS → Option (MS × MS)) (r8 : Nat → MS → Option MS) (a : Nat) (hr : CON n r4 r8 5 a) (P T s : MS) (Z p L : Nat) (hc : RPC P T s Z) (hl : LIVE P T s Z p L a) : ∃ P' T' s', b_X4_readTerm n r4 (nI a) P T = some (P', T') ∧ b_X8_term n r8 s = some s' ∧ OUT P T s Z p L a 1 p P' T' s' := by
  obtain ⟨P1, T1, s1, e1, e2, e3⟩ := hr.1 P T s Z p L hc hl
  have f1 : b_X4_readTerm n r4 (nI a) P T = lp (eT4 n r4 (nI a)) n (0, P1, T1) := by
    show cl (r4 5 (nI a) P T) (fun q1 => lp (eT4 n r4 (nI a)) n (0, q1.1, q1.2)) = _
    rw [e1]; rfl
  have f2 : b_X8_term n r8 s = lp (eT8 n r8) n s1 := by
    show cl (r8 5 s) (fun q1 => lp (eT8 n r8) n q1) = _
    rw [e2]; rfl
  rw [f1, f2]
  refine lev_loop n hn r4 r8 5 a hr _ _ (fun k => k = 42) (fun sn is => sn = 3 ∧ is = 42) (fun _ => 42) (fun _ => 42) (fun _ => 0) ?_ ?_ ?_ ?_ (fun k sn is h => by rw [tk_sign h (b := 42) (by decide)]) (by decide) (by decide) (fun k sn is h hx => ⟨Or.inr (Or.inr (Or.inr (Or.inr (Or.inr (Or.inr ⟨by decide, rfl⟩))))), by decide, by decide⟩) P T s Z p L hc P1 T1 s1 e3
  · intro self k P T h
    unfold eT4; dsimp only
    by_cases h1 : (160 : Int32) ≤ k
    · rw [if_pos h1]
    · rw [if_neg h1, if_neg (h.resolve_left h1)]
  · intro self k P T h1 h2
    unfold eT4; dsimp only
    rw [if_neg h1, if_pos h2]
  · intro self s h
    unfold eT8
    rw [m_isSign, cl_some]
    simp only [bo_0]
    rw [ite_not_f h]
  · intro self s h
    unfold eT8
    rw [m_isSign, cl_some]
    simp only [bo_0]
    rw [ite_not_t h]
theorem lev_sum (n : Nat) (hn : 170 ≤ n) (r4 : Nat → Int32 → MS → MS → Option (MS × MS)) (r8 : Nat → MS → Option MS) (a : Nat) (hr : CON n r4 r8 4 a) (P T s : MS) (Z p L : Nat) (hc : RPC P T s Z) (hl : LIVE P T s Z p L a) : ∃ P' T' s', b_X4_readSum n r4 (nI a) P T = some (P', T') ∧ b_X8_sum n r8 s = some s' ∧ OUT P T s Z p L a 1 p P' T' s' := by
  obtain ⟨P1, T1, s1, e1, e2, e3⟩ := hr.1 P T s Z p L hc hl
  have f1 : b_X4_readSum n r4 (nI a) P T = lp (eS4 n r4 (nI a)) n (0, P1, T1) := by
    show cl (r4 4 (nI a) P T) (fun q1 => lp (eS4 n r4 (nI a)) n (0, q1.1, q1.2)) = _
    rw [e1]; rfl
  have f2 : b_X8_sum n r8 s = lp (eS8 n r8) n s1 := by
    show cl (r8 4 s) (fun q1 => lp (eS8 n r8) n q1) = _
    rw [e2]; rfl
  rw [f1, f2]
  refine lev_loop n hn r4 r8 4 a hr _ _ (fun k => k = 43 ∨ k = 45) (fun sn is => (sn = 3 ∧ is = 43) ∨ (sn = 3 ∧ is = 45)) (fun k => k) (fun is => is) (fun _ => 0) ?_ ?_ ?_ ?_ (fun k sn is h => by rw [tk_sign h (b := 43) (by decide), tk_sign h (b := 45) (by decide)]) (by decide) (by decide) (fun k sn is h hx => ?_) P T s Z p L hc P1 T1 s1 e3
  · intro self k P T h
    unfold eS4; dsimp only
    simp only [jn_def]
    by_cases h1 : (160 : Int32) ≤ k
    · rw [if_pos h1]
    · have h2 := h.resolve_left h1
      rw [if_neg h1, if_neg (fun q => h2 (Or.inl q)), if_neg (fun q => h2 (Or.inr q))]
  · intro self k P T h1 h2
    unfold eS4; dsimp only
    simp only [jn_def]
    rw [if_neg h1]
    by_cases h3 : P.1 3 = 43
    · rw [if_pos h3]
    · rw [if_neg h3, if_pos (h2.resolve_left h3)]
  · intro self s h
    unfold eS8
    simp only [m_isSign, cl_some, jn_def, bo_0]
    rw [ite_not_f (fun q => h ⟨q.1, Or.inl q.2⟩), ite_not_f (fun q => h ⟨q.1, Or.inr q.2⟩)]
  · intro self s h
    unfold eS8
    simp only [m_isSign, cl_some, jn_def, bo_0]
    by_cases h3 : s.1 27 < 0 ∧ s.1 31 = 3 ∧ s.1 32 = 43
    · rw [ite_not_t h3]
    · rw [ite_not_f h3, ite_not_t ⟨h.1, h.2.resolve_left (fun q => h3 ⟨h.1, q⟩)⟩]
  · rcases hx with rfl | rfl
    · have e := (tk_sign h (b := 43) (by decide)).mp rfl
      rw [e.2]
      exact ⟨Or.inr (Or.inr (Or.inr (Or.inr (Or.inr (Or.inr ⟨by decide, rfl⟩))))), by decide, by decide⟩
    · have e := (tk_sign h (b := 45) (by decide)).mp rfl
      rw [e.2]
      exact ⟨Or.inr (Or.inr (Or.inr (Or.inr (Or.inr (Or.inr ⟨by decide, rfl⟩))))), by decide, by decide⟩
theorem lev_not (n : Nat) (hn : 170 ≤ n) (r4 : Nat → Int32 → MS → MS → Option (MS × MS)) (r8 : Nat → MS → Option MS) (a : Nat) (ha : a ≤ 5) (h2 : a < 5 → CON n r4 r8 2 (a + 1)) (hr : CON n r4 r8 3 a) (P T s : MS) (Z p L : Nat) (hc : RPC P T s Z) (hl : LIVE P T s Z p L a) : ∃ P' T' s', b_X4_readNot n r4 (nI a) P T = some (P', T') ∧ b_X8_denied n r8 s = some s' ∧ OUT P T s Z p L a 1 p P' T' s' := by
  have tk := TKL_tk hl.1.2.2.1
  have h27 : s.1 27 = -1 := hl.1.2.1
  have sk : (s.1 27 < 0 ∧ s.1 31 = 1 ∧ s.1 32 = 15) = (P.1 3 = 258) := by
    rw [show (P.1 3 = 258) = (s.1 31 = 1 ∧ s.1 32 = 15) from tk_key tk 11 (by omega), h27]; exact propext ⟨fun q => q.2, fun q => ⟨by decide, q⟩⟩
  unfold b_X4_readNot b_X8_denied
  rw [m_isKey, cl_some]
  simp only [bo_0, sk, jn_def]
  by_cases h258 : P.1 3 = 258
  · rw [if_pos h258, ite_not_t h258]
    rcases opens_both n hn ha hc hl (by rw [h258]; decide) with ⟨ha5, o1, P1, s1, p1, o2, o3, o4, o5, o6⟩ | ⟨ha5, P1, s1, o1, o2, o3, o4⟩
    · obtain ⟨P3, T3, s3, r1, r2, r3⟩ := (h2 ha5).1 P1 T s1 Z p1 L (RPC_fr hc o6) o4
      obtain ⟨T4, s4, v1, v2, v3⟩ := OUT_op n (x := 258) (c := 3) (v := 0) (e' := 1) hc o6 (PR_rf T L p p (Nat.le_refl _)) o5 hl.2 (OUT_dec (by omega) r3) (Or.inr (Or.inr (Or.inl ⟨rfl, rfl⟩))) (Or.inr (Or.inl ⟨by decide, Or.inl rfl, by omega, rfl⟩))
      rw [o1, cl_some, if_neg (show ¬ (1 : Int32) = 0 by decide), o2, cl_some, ← nI_succ, r1, cl_some, v1, cl_some, o3, cl_some, if_neg (show ¬ (1 : Int32) = 0 by decide), r2, cl_some, bn_def, v2, cl_some]
      exact ⟨P3, T4, s4, rfl, rfl, OUT_wk v3 (by omega)⟩
    · rw [o1, cl_some, if_pos rfl, o2, cl_some, if_pos rfl]
      exact ⟨P1, T, s1, rfl, rfl, OUT_refuse o3 o4⟩
  rw [if_neg h258, ite_not_f h258]
  obtain ⟨P1, T1, s1, e1, e2, hF, e3⟩ := hr.1 P T s Z p L hc hl
  rw [e1, e2, cl_some, cl_some, m_isSign, m_isSign, cl_some, cl_some]
  simp only [bo_0]
  have hc1 := RPC_fr hc hF
  rcases e3 with ⟨p1, L1, hl1, hp1, hpr1⟩ | ⟨p1, L1, hd1, hp1, hs1⟩
  · have tk1 := TKL_tk hl1.1.2.2.1
    have h271 : s1.1 27 = -1 := hl1.1.2.1
    have s60 : (s1.1 27 < 0 ∧ s1.1 31 = 3 ∧ s1.1 32 = 60) = (P1.1 3 = 60) := by
      rw [tk_sign tk1 (by decide), h271]; exact propext ⟨fun q => q.2, fun q => ⟨by decide, q⟩⟩
    have s61 : (s1.1 27 < 0 ∧ s1.1 31 = 3 ∧ s1.1 32 = 61) = (P1.1 3 = 61) := by
      rw [tk_sign tk1 (by decide), h271]; exact propext ⟨fun q => q.2, fun q => ⟨by decide, q⟩⟩
    simp only [s60, s61]
    have go : (P1.1 3 = 60 ∨ P1.1 3 = 61) → ∃ P' T' s', (cl (f_X4_next n P1) fun q5 => cl (r4 3 (nI a) q5 T1) fun q6 => cl (f_X5_add n (P1.1 3) q6.2) fun q7 => some (q6.1, q7)) = some (P', T') ∧ (cl (f_X8_next n s1) fun q7 => cl (r8 3 q7) fun q8 => cl (f_X8_addStep n (s1.1 32) 0 q8) fun q9 => some q9) = some s' ∧ OUT P T s Z p L a 1 p P' T' s' := by
      intro hx
      have hsg : SG (P1.1 3) ∧ s1.1 32 = P1.1 3 ∧ stepR (P1.1 3) (P1.1 3) 0 ∧ ¬ 300 ≤ P1.1 3 ∧ ¬ (P1.1 3 = 258 ∨ P1.1 3 = 259) ∧ ¬ P1.1 3 = 1 := by
        rcases hx with e | e
        · have e2 := (tk_sign tk1 (b := 60) (by decide)).mp e
          rw [e2.2, e]
          exact ⟨by decide, rfl, Or.inr (Or.inr (Or.inr (Or.inr (Or.inr (Or.inr ⟨by decide, rfl⟩))))), by decide, by decide, by decide⟩
        · have e2 := (tk_sign tk1 (b := 61) (by decide)).mp e
          rw [e2.2, e]
          exact ⟨by decide, rfl, Or.inr (Or.inr (Or.inr (Or.inr (Or.inr (Or.inr ⟨by decide, rfl⟩))))), by decide, by decide, by decide⟩
      obtain ⟨-, g1, g2, g3, g4, g5⟩ := hsg
      obtain ⟨P2, s2, p2, u1, u2, u3, u4, u5⟩ := LIVE_next n hn hc1 hl1.1 (by have := hl1.2; omega) g5
      obtain ⟨P3, T3, s3, v1, v2, v3⟩ := hr.1 P2 T1 s2 Z p2 L1 (RPC_fr hc1 u5) u3
      obtain ⟨T4, s4, w1, w2, w3⟩ := OUT_op n (e' := 1) hc (FR_tr hF u5) hpr1 u4 hl1.2 v3 g2 (Or.inr (Or.inr ⟨g3, g4, by omega, by omega⟩))
      refine ⟨P3, T4, s4, ?_, ?_, OUT_wk w3 (by omega)⟩
      · rw [u1, cl_some, v1, cl_some, w1, cl_some]
      · rw [u2, cl_some, v2, cl_some, g1, w2, cl_some]
    by_cases h60 : P1.1 3 = 60
    · rw [if_pos h60, ite_not_t h60]
      exact go (Or.inl h60)
    rw [if_neg h60, ite_not_f h60]
    by_cases h61 : P1.1 3 = 61
    · rw [if_pos h61, ite_not_t h61]
      exact go (Or.inr h61)
    rw [if_neg h61, ite_not_f h61]
    exact ⟨P1, T1, s1, rfl, rfl, hF, Or.inl ⟨p1, L1, hl1, hp1, hpr1⟩⟩
  · have no : ∀ b, ¬ (s1.1 27 < 0 ∧ s1.1 31 = 3 ∧ s1.1 32 = b) := fun b q => by
      have := q.1
      rw [lt_i, show (0 : Int32).toInt = 0 by decide] at this
      have := hd1.2.1
      omega
    have h3 : P1.1 3 = 0 := hd1.2.2.1
    rw [if_neg (by rw [h3]; decide), if_neg (by rw [h3]; decide), ite_not_f (no 60), ite_not_f (no 61)]
    exact ⟨P1, T1, s1, rfl, rfl, hF, Or.inr ⟨p1, L1, hd1, hp1, hs1⟩⟩
theorem sp_sp (P : MS) (k : Nat) (x : Int32) : sp (sp P k x) k x = sp P k x := by
  refine Prod.ext (funext fun j => ?_) rfl
  rw [sp1, sp1]
  split <;> rfl
theorem dead_both (n : Nat) (hn : 1 ≤ n) (P T s : MS) (Z p L : Nat) (h : DEAD P s Z p L) : ∀ d w a, w < 6 → 6 ≤ w + d → f_grp4 n d w a P T = some (sp P 3 0, T) ∧ f_grp8 n d w s = some s := by
  have h3 : P.1 3 = 0 := h.2.2.1
  obtain ⟨u1, u2, u3⟩ := DEAD_refuse n h
  have h30 : (sp P 3 0).1 3 = 0 := by rw [sp1, if_pos rfl]
  have hlt : ¬ s.1 27 < 0 := by rw [lt_i, show (0 : Int32).toInt = 0 by decide]; have := h.2.1; omega
  have no : ∀ (p q : Prop), ¬ (s.1 27 < 0 ∧ p ∧ q) := fun _ _ q => hlt q.1
  obtain ⟨m, rfl⟩ : ∃ m, n = m + 1 := ⟨n - 1, by omega⟩
  intro d
  induction d with
  | zero => intro w a h1 h2; omega
  | succ d ih =>
    intro w a hw hd
    have hcase : w = 0 ∨ w = 1 ∨ w = 2 ∨ w = 3 ∨ w = 4 ∨ w = 5 := by omega
    rcases hcase with rfl | rfl | rfl | rfl | rfl | rfl
    · obtain ⟨i1, i2⟩ := ih 1 a (by omega) (by omega)
      constructor
      · show b_X4_readOr (m + 1) (f_grp4 (m + 1) d) a P T = _
        unfold b_X4_readOr
        rw [i1, cl_some]
        show eO4 (m + 1) (f_grp4 (m + 1) d) a (lp (eO4 (m + 1) (f_grp4 (m + 1) d) a) m) (0, sp P 3 0, T) = _
        unfold eO4
        dsimp only
        rw [if_neg (by decide), h30, if_neg (by decide)]
      · show b_X8_either (m + 1) (f_grp8 (m + 1) d) s = _
        unfold b_X8_either
        rw [i2, cl_some]
        show eO8 (m + 1) (f_grp8 (m + 1) d) (lp (eO8 (m + 1) (f_grp8 (m + 1) d)) m) s = _
        unfold eO8
        rw [m_isKey, cl_some]
        simp only [bo_0]
        rw [ite_not_f (no _ _)]
    · obtain ⟨i1, i2⟩ := ih 2 a (by omega) (by omega)
      constructor
      · show b_X4_readAnd (m + 1) (f_grp4 (m + 1) d) a P T = _
        unfold b_X4_readAnd
        rw [i1, cl_some]
        show eA4 (m + 1) (f_grp4 (m + 1) d) a (lp (eA4 (m + 1) (f_grp4 (m + 1) d) a) m) (0, sp P 3 0, T) = _
        unfold eA4
        dsimp only
        rw [if_neg (by decide), h30, if_neg (by decide)]
      · show b_X8_all (m + 1) (f_grp8 (m + 1) d) s = _
        unfold b_X8_all
        rw [i2, cl_some]
        show eA8 (m + 1) (f_grp8 (m + 1) d) (lp (eA8 (m + 1) (f_grp8 (m + 1) d)) m) s = _
        unfold eA8
        rw [m_isKey, cl_some]
        simp only [bo_0]
        rw [ite_not_f (no _ _)]
    · obtain ⟨i1, i2⟩ := ih 3 a (by omega) (by omega)
      constructor
      · show b_X4_readNot (m + 1) (f_grp4 (m + 1) d) a P T = _
        unfold b_X4_readNot
        rw [h3, if_neg (by decide), i1, cl_some]
        simp only [jn_def]
        rw [h30, if_neg (by decide), if_neg (by decide)]
      · show b_X8_denied (m + 1) (f_grp8 (m + 1) d) s = _
        unfold b_X8_denied
        rw [m_isKey, cl_some]
        simp only [bo_0, jn_def]
        rw [ite_not_f (no _ _), i2, cl_some, m_isSign, m_isSign, cl_some, cl_some]
        simp only [bo_0]
        rw [ite_not_f (no _ _), ite_not_f (no _ _)]
    · obtain ⟨i1, i2⟩ := ih 4 a (by omega) (by omega)
      constructor
      · show b_X4_readSum (m + 1) (f_grp4 (m + 1) d) a P T = _
        unfold b_X4_readSum
        rw [i1, cl_some]
        show eS4 (m + 1) (f_grp4 (m + 1) d) a (lp (eS4 (m + 1) (f_grp4 (m + 1) d) a) m) (0, sp P 3 0, T) = _
        unfold eS4
        dsimp only
        simp only [jn_def]
        rw [if_neg (by decide), h30, if_neg (by decide), if_neg (by decide)]
      · show b_X8_sum (m + 1) (f_grp8 (m + 1) d) s = _
        unfold b_X8_sum
        rw [i2, cl_some]
        show eS8 (m + 1) (f_grp8 (m + 1) d) (lp (eS8 (m + 1) (f_grp8 (m + 1) d)) m) s = _
        unfold eS8
        simp only [jn_def, m_isSign, cl_some, bo_0]
        rw [ite_not_f (no _ _), ite_not_f (no _ _)]
    · obtain ⟨i1, i2⟩ := ih 5 a (by omega) (by omega)
      constructor
      · show b_X4_readTerm (m + 1) (f_grp4 (m + 1) d) a P T = _
        unfold b_X4_readTerm
        rw [i1, cl_some]
        show eT4 (m + 1) (f_grp4 (m + 1) d) a (lp (eT4 (m + 1) (f_grp4 (m + 1) d) a) m) (0, sp P 3 0, T) = _
        unfold eT4
        dsimp only
        rw [if_neg (by decide), h30, if_neg (by decide)]
      · show b_X8_term (m + 1) (f_grp8 (m + 1) d) s = _
        unfold b_X8_term
        rw [i2, cl_some]
        show eT8 (m + 1) (f_grp8 (m + 1) d) (lp (eT8 (m + 1) (f_grp8 (m + 1) d)) m) s = _
        unfold eT8
        rw [m_isSign, cl_some]
        simp only [bo_0]
        rw [ite_not_f (no _ _)]
    · constructor
      · show b_X4_readOne (m + 1) (f_grp4 (m + 1) d) a P T = _
        unfold b_X4_readOne
        rw [h3, if_pos (by decide), if_neg (by decide), if_neg (by decide), u1, cl_some]
      · show b_X8_one (m + 1) (f_grp8 (m + 1) d) s = _
        unfold b_X8_one
        rw [if_neg hlt]
theorem grp_both (n : Nat) (hn : 170 ≤ n) : ∀ d w a, w < 6 → a ≤ 5 → 6 * (5 - a) + (6 - w) ≤ d → CON n (f_grp4 n d) (f_grp8 n d) w a := by
  intro d
  induction d with
  | zero => intro w a h1 h2 h3; omega
  | succ d ih =>
    intro w a hw ha hd
    refine ⟨fun P T s Z p L hc hl => ?_, fun P T s Z p L hc hdd => dead_both n (by omega) P T s Z p L hdd (d + 1) w (nI a) hw (by omega)⟩
    have hcase : w = 0 ∨ w = 1 ∨ w = 2 ∨ w = 3 ∨ w = 4 ∨ w = 5 := by omega
    rcases hcase with rfl | rfl | rfl | rfl | rfl | rfl
    · exact lev_or n hn _ _ a (ih 1 a (by omega) ha (by omega)) P T s Z p L hc hl
    · exact lev_and n hn _ _ a (ih 2 a (by omega) ha (by omega)) P T s Z p L hc hl
    · exact lev_not n hn _ _ a ha (fun h => ih 2 (a + 1) (by omega) (by omega) (by omega)) (ih 3 a (by omega) ha (by omega)) P T s Z p L hc hl
    · exact lev_sum n hn _ _ a (ih 4 a (by omega) ha (by omega)) P T s Z p L hc hl
    · exact lev_term n hn _ _ a (ih 5 a (by omega) ha (by omega)) P T s Z p L hc hl
    · exact lev_one n hn _ _ a ha (fun h => ih 0 (a + 1) (by omega) (by omega) (by omega)) (fun h => ih 5 (a + 1) (by omega) (by omega) (by omega)) P T s Z p L hc hl
