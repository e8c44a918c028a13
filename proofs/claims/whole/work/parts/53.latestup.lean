/-- some car goes in a minute -/
abbrev GOc (s : MS) (i m : Nat) : Prop := goP (s.2 9 i) (s.2 8 i) (nI m) ∧ ¬ shV s (nI m)
def GOm (s : MS) (m : Nat) : Prop := ∃ i, i < (s.1 6).toNatClampNeg ∧ GOc s i m
def LUP (s : MS) (f : Int32) (r : Int32) : Prop :=
  (∃ q, q < (s.1 15).toNatClampNeg ∧ GOm s q ∧ (∀ m, q < m → m < (s.1 15).toNatClampNeg → ¬ GOm s m) ∧ f.toInt ≤ (q : Int) ∧ r = nI q - f) ∨
  ((∀ m : Nat, f.toInt ≤ (m : Int) → m < (s.1 15).toNatClampNeg → ¬ GOm s m) ∧ r = -1)
theorem LUP_one {s : MS} {f r r' : Int32} (h : LUP s f r) (h' : LUP s f r') : r = r' := by
  rcases h with ⟨q, h1, h2, h3, h4, h5⟩ | ⟨h1, h2⟩
  · rcases h' with ⟨q', g1, g2, g3, g4, g5⟩ | ⟨g1, g2⟩
    · have e : q = q' := by
        apply Nat.le_antisymm
        · exact Nat.le_of_not_lt (fun hlt => g3 q hlt h1 h2)
        · exact Nat.le_of_not_lt (fun hlt => h3 q' hlt g1 g2)
      rw [h5, g5, e]
    · exact absurd h2 (g1 q h4 h1)
  · rcases h' with ⟨q', g1, g2, g3, g4, g5⟩ | ⟨g1, g2⟩
    · exact absurd g2 (h1 q' g4 g1)
    · rw [h2, g2]
theorem c_latestUp (n nw : Nat) (hn : 125 ≤ n) (a : Int32) (c : CS) (s : MS) (rH : RHill c.2.1 s) (rC : RCars c.2.2.2.1 s) (ha : 0 ≤ a.toInt ∧ a.toInt < (s.1 1).toInt) : ∃ r, LUP s (s.2 3 a.toNatClampNeg) r ∧ lp (fun K5 (t4 : Int32) =>
      ck (ib a 6) <| bn (c.2.1.2 2 (Int32.toNatClampNeg a)) fun x6 =>
      if t4 < x6 then (
        some (-1))
      else (
        cl (f_X2_isShutIn n t4 c.2.1) fun q8 =>
        jn (fun (t9 : Unit) =>
          K5 (t4 + (-1))) fun K10 =>
        if q8 = 0 then (
          cl (f_X0_roomIn n t4 c.2.2.2.1) fun q12 =>
          if q12 ≤ 0 then (
            K10 ())
          else (
            ck (ib a 6) <| bn (c.2.1.2 2 (Int32.toNatClampNeg a)) fun x14 =>
            some (t4 - x14)))
        else (
          K10 ()))) n ((c.2.1.1 6) - 1) = some r := by
  have z0 : (0 : Int32).toInt = 0 := by decide
  have z1 : (1 : Int32).toInt = 1 := by decide
  have zm : (-1 : Int32).toInt = -1 := by decide
  obtain ⟨n1, n2⟩ := RCars_n rC
  obtain ⟨k1, k2⟩ := RHill_n rH
  obtain ⟨e1, e2, e3⟩ := RHill_e rH
  have eT : (s.1 15).toInt = ((s.1 15).toNatClampNeg : Int) := (nn_eq (by rw [e1, nI_toInt (by omega)]; omega)).symm
  have i0 := rH.2.1
  have hi : ib a 6 = true := ib_of ha.1 (by have := i0.2; omega)
  have hlt6 : a.toNatClampNeg < 6 := nn_lt ha.1 (by have := i0.2; omega)
  have ef : c.2.1.2 2 a.toNatClampNeg = s.2 3 a.toNatClampNeg := (rH.2.2.1 _ hlt6).2.1
  have bf : IR (s.2 3 a.toNatClampNeg) 0 40 := (rH.2.2.2.1 _ hlt6).2.1
  have e6 : c.2.1.1 6 = s.1 15 := rH.2.2.2.2.2.1
  have hs1 : (s.1 15 - 1).toInt = (s.1 15).toInt - 1 := by rw [sub_i _ _ (by rw [z1]; omega), z1]
  rw [ef, e6]
  refine lp_inv (fun t => -1 ≤ t.toInt ∧ t.toInt < ((s.1 15).toNatClampNeg : Int) ∧ ∀ m : Nat, t.toInt < (m : Int) → m < (s.1 15).toNatClampNeg → ¬ GOm s m) (fun t => (t.toInt + 1).toNat) _ ?_ n _ ⟨by omega, by omega, fun m h1 h2 => by omega⟩ (by omega)
  intro t ⟨h1, h2, h3⟩
  by_cases hb : t < s.2 3 a.toNatClampNeg
  · refine Or.inr ⟨-1, Or.inr ⟨fun m g1 g2 => h3 m ?_ g2, rfl⟩, fun self => ?_⟩
    · rw [lt_i] at hb; omega
    · rw [hi, ck_t, bn_def, if_pos hb]
  have hb' := hb
  rw [lt_i] at hb'
  have t0 : 0 ≤ t.toInt := by have := bf.1; omega
  have tn := nn_eq t0
  have te : t = nI t.toNatClampNeg := Int32.toInt_inj.mp (by rw [nI_toInt (by omega)]; omega)
  have hroom := c_roomIn n (by omega) t c.2.2.2.1 s rC ⟨t0, by omega⟩
  have bd := sumI_bd (f := fun i => if goP (s.2 9 i) (s.2 8 i) t then s.2 7 i else 0) (B := 60) (by omega) (s.1 6).toNatClampNeg (fun i hi => by
    have q := (rC.2.2 i (by have := nn_eq rC.2.1.1; omega)).2.2.2.1
    show IR (if goP (s.2 9 i) (s.2 8 i) t then s.2 7 i else 0) 0 60
    split
    · exact ⟨by have := q.1; omega, q.2⟩
    · exact ⟨by decide, by decide⟩) (by omega)
  by_cases hg : GOm s t.toNatClampNeg
  · refine Or.inr ⟨t - s.2 3 a.toNatClampNeg, Or.inl ⟨t.toNatClampNeg, by omega, hg, fun m g1 g2 => h3 m (by omega) g2, by omega, by rw [← te]⟩, fun self => ?_⟩
    obtain ⟨i, hi1, hg1, hg2⟩ := hg
    rw [← te] at hg1 hg2
    have hp : ¬ sumI (fun i => if goP (s.2 9 i) (s.2 8 i) t then s.2 7 i else 0) (s.1 6).toNatClampNeg ≤ 0 := by
      rw [le_i, z0]
      have := bd.2 i hi1
      have e : (if goP (s.2 9 i) (s.2 8 i) t then s.2 7 i else 0) = s.2 7 i := if_pos hg1
      have q := (rC.2.2 i (by have := nn_eq rC.2.1.1; omega)).2.2.2.1
      simp only [e] at this
      have := q.1
      omega
    rw [hi, ck_t, bn_def, if_neg hb, c_shut n _ _ s rH, cl_some, jn_def]
    simp only [bo_0]
    rw [if_pos hg2, hroom, cl_some, if_neg hp, ck_t, bn_def]
  · obtain ⟨u, hu, hd⟩ : ∃ u, u = t + (-1) ∧ u.toInt = t.toInt - 1 := ⟨_, rfl, by rw [add_i _ _ (by rw [zm]; omega), zm]; rfl⟩
    refine Or.inl ⟨u, ⟨by omega, by omega, fun m g1 g2 => ?_⟩, by omega, fun self => ?_⟩
    · by_cases e : m = t.toNatClampNeg
      · rw [e]; exact hg
      · exact h3 m (by omega) g2
    · rw [hu, hi, ck_t, bn_def, if_neg hb, c_shut n _ _ s rH, cl_some, jn_def]
      simp only [bo_0]
      by_cases hs : shV s t
      · rw [ite_not_t hs]
      · rw [ite_not_f hs, hroom, cl_some, if_pos]
        rw [sumI_congr (g := fun _ => 0) _ (fun i hi => if_neg (fun q => hg ⟨i, hi, by unfold GOc; rw [← te]; exact ⟨q, hs⟩⟩)), sumI_z]
        decide
theorem m_latestUp (n : Nat) (hn : 125 ≤ n) (a : Int32) (h C s : MS) (rH : RHill h s) (rC : RCars C s) (ha : 0 ≤ a.toInt ∧ a.toInt < (s.1 1).toInt) : ∃ r, LUP s (s.2 3 a.toNatClampNeg) r ∧ lp (fun K4 (t3 : Int32 × Int32) =>
      if (s.1 6) ≤ t3.2 then (
        ck (ib a 6) <| bn (s.2 3 (Int32.toNatClampNeg a)) fun x6 =>
        if x6 ≤ t3.1 then (
          ck (ib a 6) <| bn (s.2 3 (Int32.toNatClampNeg a)) fun x8 =>
          some (t3.1 - x8))
        else (
          some (-1)))
      else (
        lp (fun K10 (t9 : Int32 × Int32) =>
          if (s.1 15) ≤ t9.2 then (
            K4 (t9.1, (t3.2 + 1)))
          else (
            cl (f_X8_goes n t3.2 t9.2 s) fun q12 =>
            jn (fun (t13 : Int32) =>
              K10 (t13, (t9.2 + 1))) fun K14 =>
            if q12 = 0 then (
              K14 t9.1)
            else (
              if t9.2 ≤ t9.1 then (
                K14 t9.1)
              else (
                K14 t9.2)))) n (t3.1, 0))) n ((-1), 0) = some r := by
  have z0 : (0 : Int32).toInt = 0 := by decide
  have zm : (-1 : Int32).toInt = -1 := by decide
  obtain ⟨n1, n2⟩ := RCars_n rC
  obtain ⟨e1, e2, e3⟩ := RHill_e rH
  have i0 := rH.2.1
  have hi : ib a 6 = true := ib_of ha.1 (by have := i0.2; omega)
  have hlt6 : a.toNatClampNeg < 6 := nn_lt ha.1 (by have := i0.2; omega)
  have bf : IR (s.2 3 a.toNatClampNeg) 0 40 := (rH.2.2.2.1 _ hlt6).2.1
  have hcar : ∀ i, i < (s.1 6).toNatClampNeg → IR (s.2 8 i) 1 30 := fun i hi => (rC.2.2 i (by have := nn_eq rC.2.1.1; omega)).2.2.2.2.1
  have key : ∃ x : Int32 × Int32, (x.2 = nI (s.1 6).toNatClampNeg ∧ ((x.1 = -1 ∨ ∃ q, q < (s.1 15).toNatClampNeg ∧ x.1 = nI q ∧ GOm s q) ∧ ∀ i m, i < (s.1 6).toNatClampNeg → m < (s.1 15).toNatClampNeg → GOc s i m → (m : Int) ≤ x.1.toInt)) ∧ ∀ _ : Unit, lp (fun K4 (t3 : Int32 × Int32) =>
      if (s.1 6) ≤ t3.2 then (
        ck (ib a 6) <| bn (s.2 3 (Int32.toNatClampNeg a)) fun x6 =>
        if x6 ≤ t3.1 then (
          ck (ib a 6) <| bn (s.2 3 (Int32.toNatClampNeg a)) fun x8 =>
          some (t3.1 - x8))
        else (
          some (-1)))
      else (
        lp (fun K10 (t9 : Int32 × Int32) =>
          if (s.1 15) ≤ t9.2 then (
            K4 (t9.1, (t3.2 + 1)))
          else (
            cl (f_X8_goes n t3.2 t9.2 s) fun q12 =>
            jn (fun (t13 : Int32) =>
              K10 (t13, (t9.2 + 1))) fun K14 =>
            if q12 = 0 then (
              K14 t9.1)
            else (
              if t9.2 ≤ t9.1 then (
                K14 t9.1)
              else (
                K14 t9.2)))) n (t3.1, 0))) n ((-1), 0) = (if s.2 3 a.toNatClampNeg ≤ x.1 then some (x.1 - s.2 3 a.toNatClampNeg) else some (-1)) := by
    refine lp_to (s.1 6).toNatClampNeg (fun i x => x.2 = nI i ∧ ((x.1 = -1 ∨ ∃ q, q < (s.1 15).toNatClampNeg ∧ x.1 = nI q ∧ GOm s q) ∧ ∀ i' m, i' < i → m < (s.1 15).toNatClampNeg → GOc s i' m → (m : Int) ≤ x.1.toInt)) (fun (_ : Unit) x => if s.2 3 a.toNatClampNeg ≤ x.1 then some (x.1 - s.2 3 a.toNatClampNeg) else some (-1)) ?_ ?_ n (by omega) ((-1), 0) ⟨rfl, Or.inl rfl, fun i' m h => absurd h (Nat.not_lt_zero _)⟩
    · rintro i ⟨la, ci⟩ hlt ⟨rfl, hA, hB⟩
      obtain ⟨x, ⟨x1, x2, x3⟩, hx⟩ := lp_to (F := fun (K4 : Int32 × Int32 → Option Int32) K10 (t9 : Int32 × Int32) =>
          if (s.1 15) ≤ t9.2 then (
            K4 (t9.1, (nI i + 1)))
          else (
            cl (f_X8_goes n (nI i) t9.2 s) fun q12 =>
            jn (fun (t13 : Int32) =>
              K10 (t13, (t9.2 + 1))) fun K14 =>
            if q12 = 0 then (
              K14 t9.1)
            else (
              if t9.2 ≤ t9.1 then (
                K14 t9.1)
              else (
                K14 t9.2)))) (s.1 15).toNatClampNeg (fun j x => x.2 = nI j ∧ ((x.1 = -1 ∨ ∃ q, q < (s.1 15).toNatClampNeg ∧ x.1 = nI q ∧ GOm s q) ∧ ∀ i' m, (i' < i ∨ (i' = i ∧ m < j)) → m < (s.1 15).toNatClampNeg → GOc s i' m → (m : Int) ≤ x.1.toInt)) (fun K4 x => K4 (x.1, nI i + 1)) (by
          rintro j ⟨lb, cj⟩ hj ⟨rfl, hC, hD⟩
          have hg := m_goes n i (nI j) s (by omega) (hcar i hlt)
          have jT : (nI j).toInt = (j : Int) := nI_toInt (by omega)
          have st : ∀ (K4 : Int32 × Int32 → Option Int32) (self : Int32 × Int32 → Option Int32), (if (s.1 15) ≤ nI j then (K4 (lb, (nI i + 1))) else (cl (f_X8_goes n (nI i) (nI j) s) fun q12 =>
            jn (fun (t13 : Int32) => self (t13, (nI j + 1))) fun K14 => if q12 = 0 then (K14 lb) else (if nI j ≤ lb then (K14 lb) else (K14 (nI j))))) = (if GOc s i j then (if nI j ≤ lb then self (lb, nI (j + 1)) else self (nI j, nI (j + 1))) else self (lb, nI (j + 1))) := by
            intro K4 self
            rw [if_neg (by intro h; rw [e1] at h; exact nI_ge hj (by omega) h), hg, cl_some, jn_def, nI_succ]
            simp only [bo_0]
            by_cases h : GOc s i j
            · rw [if_pos h, ite_not_t h]
            · rw [if_neg h, ite_not_f h]
          by_cases hgo : GOc s i j
          · by_cases hle : nI j ≤ lb
            · have hle' := hle
              rw [le_i, jT] at hle'
              refine ⟨(lb, nI (j + 1)), ⟨rfl, hC, fun i' m h1 h2 h3 => ?_⟩, fun K4 self => (st K4 self).trans (by rw [if_pos hgo, if_pos hle])⟩
              by_cases e : i' = i ∧ m = j
              · show (m : Int) ≤ lb.toInt; omega
              · exact hD i' m (by omega) h2 h3
            · have hle' := hle
              rw [le_i, jT] at hle'
              refine ⟨(nI j, nI (j + 1)), ⟨rfl, Or.inr ⟨j, hj, rfl, ⟨i, hlt, hgo⟩⟩, fun i' m h1 h2 h3 => ?_⟩, fun K4 self => (st K4 self).trans (by rw [if_pos hgo, if_neg hle])⟩
              show (m : Int) ≤ (nI j).toInt
              rw [jT]
              by_cases e : i' = i ∧ m = j
              · omega
              · have : (m : Int) ≤ lb.toInt := hD i' m (by omega) h2 h3
                omega
          · refine ⟨(lb, nI (j + 1)), ⟨rfl, hC, fun i' m h1 h2 h3 => ?_⟩, fun K4 self => (st K4 self).trans (by rw [if_neg hgo])⟩
            by_cases e : i' = i ∧ m = j
            · obtain ⟨rfl, rfl⟩ := e
              exact absurd h3 hgo
            · exact hD i' m (by omega) h2 h3) (by
          rintro ⟨lb, cj⟩ ⟨rfl, hC⟩ K4 self
          show (if (s.1 15) ≤ nI (s.1 15).toNatClampNeg then _ else _) = _
          rw [if_pos (by rw [← e1]; exact Int32.le_refl _)]) n (by omega) (la, 0) ⟨rfl, hA, fun i' m h1 h2 h3 => hB i' m (by omega) h2 h3⟩
      refine ⟨(x.1, nI (i + 1)), ⟨rfl, x2, fun i' m h1 h2 h3 => x3 i' m (by omega) h2 h3⟩, fun _ self => ?_⟩
      show (if (s.1 6) ≤ nI i then _ else lp _ n (la, 0)) = _
      rw [if_neg (by intro h; rw [n1] at h; exact nI_ge hlt (by omega) h)]
      exact (hx self).trans (by rw [nI_succ])
    · rintro ⟨la, ci⟩ ⟨rfl, hC⟩ _ self
      show (if (s.1 6) ≤ nI (s.1 6).toNatClampNeg then _ else _) = _
      rw [if_pos (by rw [← n1]; exact Int32.le_refl _), hi, ck_t, bn_def, ck_t, bn_def]
  obtain ⟨x, ⟨-, hA, hB⟩, hx⟩ := key
  have hx := hx ()
  rcases hA with hA | ⟨q, q1, q2, q3⟩
  · rw [hA, if_neg (by rw [le_i, zm]; have := bf.1; omega)] at hx
    refine ⟨_, Or.inr ⟨fun m _ h2 ⟨i, h3, h4⟩ => ?_, rfl⟩, hx⟩
    have := hB i m h3 h2 h4
    rw [hA, zm] at this
    omega
  · have qT : (nI q).toInt = (q : Int) := nI_toInt (by omega)
    by_cases hf : s.2 3 a.toNatClampNeg ≤ x.1
    · rw [if_pos hf] at hx
      rw [q2, le_i, qT] at hf
      refine ⟨_, Or.inl ⟨q, q1, q3, fun m h1 h2 ⟨i, h3, h4⟩ => ?_, hf, by rw [q2]⟩, hx⟩
      have := hB i m h3 h2 h4
      rw [q2, qT] at this
      omega
    · rw [if_neg hf] at hx
      rw [q2, le_i, qT] at hf
      refine ⟨_, Or.inr ⟨fun m h1 h2 ⟨i, h3, h4⟩ => ?_, rfl⟩, hx⟩
      have := hB i m h3 h2 h4
      rw [q2, qT] at this
      omega
theorem op_latestUp (t0 : MS) (nw n : Nat) (hn : 125 ≤ n) (a : Int32) (c : CS) (s : MS) (hr : R t0 nw c s) : SIM0 (f_X7_latestUp n nw a c) (f_X8_latestUp n a s) := by
  obtain ⟨rH, rK, rC, rW, rP, rT, rX, rS, rM⟩ := hr
  have e0 := rH.1
  have i0 := rH.2.1
  unfold f_X7_latestUp f_X8_latestUp
  rw [btw, m_sort, cl_some, cl_some, e0]
  simp only [bo_0]
  by_cases h : 0 ≤ a ∧ a ≤ s.1 1 - 1
  case neg => rw [ite_not_f h, ite_not_f h]; exact ⟨_, rfl, rfl⟩
  obtain ⟨p1, p2, p3⟩ := sort_i i0 h
  rw [ite_not_t h, ite_not_t h, bn_def]
  obtain ⟨r, hr1, hr2⟩ := c_latestUp n nw hn a c s rH rC ⟨p1, p2⟩
  obtain ⟨q, hq1, hq2⟩ := m_latestUp n hn a _ _ s rH rC ⟨p1, p2⟩
  exact ⟨r, hr2, hq2.trans (by rw [LUP_one hr1 hq1])⟩
