-- THE RELATION, whole; what it reads of the reference's state
def AG (ks as : List Nat) (s s' : MS) : Prop := (∀ k ∈ ks, s'.1 k = s.1 k) ∧ ∀ k ∈ as, s'.2 k = s.2 k
/-- the image: L is LastCar's own, k the kept hill, h the hill -/
def RKept (L k h s : MS) : Prop :=
  L.1 2 = s.1 46 ∧ (s.1 46 = 0 ∨ s.1 46 = 1) ∧ IR (k.1 0) 0 6 ∧ (k.1 0).toInt ≤ (h.1 0).toInt ∧
  (s.1 46 = 1 → k.1 0 = s.1 51 ∧
    (∀ i : Nat, (i : Int) < (k.1 0).toInt → k.2 1 i = s.2 52 i ∧ k.2 2 i = s.2 53 i ∧ k.2 3 i = s.2 54 i ∧ k.2 4 i = s.2 55 i ∧ IR (s.2 52 i) 0 400 ∧ IR (s.2 53 i) 0 40 ∧ IR (s.2 54 i) 1 60 ∧ IR (s.2 55 i) 0 9) ∧
    (∀ i, i < 120 → k.2 5 i = s.2 56 i ∧ IR (s.2 56 i) 0 9) ∧
    k.1 6 = s.1 47 ∧ IR (s.1 47) 1 120 ∧ k.1 7 = s.1 48 ∧ IR (s.1 48) (-1) 119 ∧ (s.1 48 = -1 ∨ (k.1 8 = s.1 49 ∧ IR (s.1 49) 0 119)) ∧
    k.1 9 = s.1 50 ∧ IR (s.1 50) 0 5 ∧ (s.1 50).toInt < (s.1 21).toInt)
def RCars (C s : MS) : Prop :=
  C.1 0 = s.1 6 ∧ IR (s.1 6) 0 4 ∧ ∀ i : Nat, (i : Int) < (s.1 6).toInt → C.2 1 i = s.2 7 i ∧ C.2 2 i = s.2 8 i ∧ C.2 3 i = s.2 9 i ∧ IR (s.2 7 i) 1 60 ∧ IR (s.2 8 i) 1 30 ∧ IR (s.2 9 i) 0 119
def RWays (nw : Nat) (L Y s : MS) : Prop :=
  L.1 5 = nI nw ∧ s.1 10 = nI nw ∧ nw ≤ 8 ∧ ∀ i, i < nw → Y.2 0 i = s.2 11 i ∧ Y.2 1 i = s.2 12 i ∧ Y.2 2 i = s.2 13 i ∧ IR (s.2 11 i) 0 5 ∧ IR (s.2 12 i) 0 119 ∧ IR (s.2 13 i) 0 9
def RPlain (Y : MS) : Prop := Y.1 0 = 0 ∧ Y.1 1 = 0 ∧ Y.1 2 = 0
/-- the byte that a number of 0 .. 255 is -/
def sb (x : Int32) : Int32 := if x < 128 then x else x - 256
def RTape (P s : MS) : Prop :=
  P.1 1 = s.1 20 ∧ IR (s.1 20) 0 160 ∧ ∀ i : Nat, (i : Int) < (s.1 20).toInt → IR (P.2 0 i) 0 255 ∧ s.2 19 i = sb (P.2 0 i)
def RSheets (S : Nat → MS) (s : MS) : Prop :=
  ∀ i : Nat, i < 4 → (S i).1 0 = s.2 57 i ∧ IR (s.2 57 i) (-1) 2 ∧ (s.2 57 i = -1 ∨ ((S i).1 1 = s.2 58 i ∧ IR (s.2 58 i) 0 40 ∧ ∀ j : Nat, (j : Int) < (s.2 58 i).toInt → (S i).2 2 j = s.2 59 (40 * i + j)))
def RMisc (L h s : MS) : Prop := L.1 9 = s.1 21 ∧ IR (s.1 21) 1 6 ∧ s.1 18 = -1 ∧ (s.1 22).toInt < (s.1 21).toInt ∧ s.2 35 = st0_X8.2 35 ∧ s.2 36 = st0_X8.2 36
theorem AG_sp {ks as : List Nat} {s : MS} {k : Nat} {x : Int32} (h : k ∉ ks) : AG ks as s (sp s k x) :=
  ⟨fun j hj => by rw [sp1, if_neg (fun (e : j = k) => h (e ▸ hj))], fun j _ => by rw [sp2]⟩
theorem AG_ap {ks as : List Nat} {s : MS} {k i : Nat} {x : Int32} (h : k ∉ as) : AG ks as s (ap s k i x) :=
  ⟨fun j _ => by rw [ap1], fun j hj => by funext t; rw [ap2, if_neg (fun (e : j = k) => h (e ▸ hj))]⟩
theorem AG_ar {ks as : List Nat} {s : MS} {k : Nat} {f : Nat → Int32} (h : k ∉ as) : AG ks as s (ar s k f) :=
  ⟨fun j _ => by rw [ar1], fun j hj => by rw [ar2, if_neg (fun (e : j = k) => h (e ▸ hj))]⟩
theorem AG_rf {ks as : List Nat} {s : MS} : AG ks as s s := ⟨fun _ _ => rfl, fun _ _ => rfl⟩
theorem AG_tr {ks as : List Nat} {s t u : MS} (h1 : AG ks as s t) (h2 : AG ks as t u) : AG ks as s u :=
  ⟨fun k hk => (h2.1 k hk).trans (h1.1 k hk), fun k hk => (h2.2 k hk).trans (h1.2 k hk)⟩
theorem AG_sub {ks as ks' as' : List Nat} {s t : MS} (h : AG ks as s t) (h1 : ks'.all (fun k => ks.contains k) = true) (h2 : as'.all (fun k => as.contains k) = true) : AG ks' as' s t :=
  ⟨fun k hk => h.1 k (by have := List.all_eq_true.mp h1 k hk; simpa using this), fun k hk => h.2 k (by have := List.all_eq_true.mp h2 k hk; simpa using this)⟩
theorem RHill_ag {h s s' : MS} (hr : RHill h s) (g : AG [1, 15, 16, 17, 22] [2, 3, 4, 5, 14] s s') : RHill h s' := by
  unfold RHill at *
  rw [g.1 1 (by decide), g.1 15 (by decide), g.1 16 (by decide), g.1 17 (by decide), g.1 22 (by decide), g.2 2 (by decide), g.2 3 (by decide), g.2 4 (by decide), g.2 5 (by decide), g.2 14 (by decide)]
  exact hr
theorem RKept_ag {L k h s s' : MS} (hr : RKept L k h s) (g : AG [46, 47, 48, 49, 50, 51, 21] [52, 53, 54, 55, 56] s s') : RKept L k h s' := by
  unfold RKept at *
  rw [g.1 46 (by decide), g.1 47 (by decide), g.1 48 (by decide), g.1 49 (by decide), g.1 50 (by decide), g.1 51 (by decide), g.1 21 (by decide), g.2 52 (by decide), g.2 53 (by decide), g.2 54 (by decide), g.2 55 (by decide), g.2 56 (by decide)]
  exact hr
theorem RCars_ag {C s s' : MS} (hr : RCars C s) (g : AG [6] [7, 8, 9] s s') (hn : True) : RCars C s' := by
  unfold RCars at *
  rw [g.1 6 (by decide), g.2 7 (by decide), g.2 8 (by decide), g.2 9 (by decide)]
  exact hr
theorem RWays_ag {nw : Nat} {L Y s s' : MS} (hr : RWays nw L Y s) (g : AG [10] [11, 12, 13] s s') : RWays nw L Y s' := by
  unfold RWays at *
  rw [g.1 10 (by decide), g.2 11 (by decide), g.2 12 (by decide), g.2 13 (by decide)]
  exact hr
theorem RTape_ag {P s s' : MS} (hr : RTape P s) (g : AG [20] [19] s s') : RTape P s' := by
  unfold RTape at *
  rw [g.1 20 (by decide), g.2 19 (by decide)]
  exact hr
theorem RSheets_ag {S : Nat → MS} {s s' : MS} (hr : RSheets S s) (g : AG [] [57, 58, 59] s s') : RSheets S s' := by
  unfold RSheets at *
  rw [g.2 57 (by decide), g.2 58 (by decide), g.2 59 (by decide)]
  exact hr
theorem RMisc_ag {L h s s' : MS} (hr : RMisc L h s) (g : AG [21, 18, 22] [35, 36] s s') : RMisc L h s' := by
  unfold RMisc at *
  rw [g.1 21 (by decide), g.1 18 (by decide), g.1 22 (by decide), g.2 35 (by decide), g.2 36 (by decide)]
  exact hr
theorem nn_lt {x : Int32} {k : Nat} (h0 : 0 ≤ x.toInt) (h : x.toInt < (k : Int)) : x.toNatClampNeg < k := by
  rw [← Int32.toNat_toInt]; omega
theorem nn_eq {x : Int32} (h0 : 0 ≤ x.toInt) : (x.toNatClampNeg : Int) = x.toInt := by
  rw [← Int32.toNat_toInt]; omega
theorem inc_i (x : Int32) (h : 0 ≤ x.toInt) (h2 : x.toInt < 1000000) : (x + 1).toInt = x.toInt + 1 := by
  have o : (1 : Int32).toInt = 1 := by decide
  rw [add_i _ _ (by omega), o]
-- people
theorem RHill_add {a b : Int32} {h s : MS} (hr : RHill h s) (hb : 0 ≤ b) (ha : 0 ≤ a ∧ a ≤ 400) (h3 : b / 1000 ≤ 40) (h4 : 1 ≤ b / 10 - b / 10 / 100 * 100 ∧ b / 10 - b / 10 / 100 * 100 ≤ 60) (h5 : s.1 1 < 6) (h9 : IR (b - b / 10 * 10) 0 9) : RHill (hAdd a b h) (sAdd a b s) := by
  obtain ⟨e0, i0, ea, ba, es, e6, b6, e7, b7, e8, e9, b9⟩ := hr
  have z6 : (6 : Int32).toInt = 6 := by decide
  have z0 : (0 : Int32).toInt = 0 := by decide
  have z1 : (1 : Int32).toInt = 1 := by decide
  have z40 : (40 : Int32).toInt = 40 := by decide
  have z60 : (60 : Int32).toInt = 60 := by decide
  have z400 : (400 : Int32).toInt = 400 := by decide
  have hd : 0 ≤ b / 1000 := div_nn hb (by decide)
  rw [lt_i, z6] at h5
  rw [le_i, le_i, z0, z400] at ha
  rw [le_i, z40] at h3
  rw [le_i, le_i, z1, z60] at h4
  rw [le_i, z0] at hd
  have hn := nn_lt i0.1 (k := 6) (by omega)
  have hnn := nn_eq i0.1
  have hi := inc_i (s.1 1) i0.1 (by omega)
  have ex : (hAdd a b h).1 = (fun j => if j = 0 then s.1 1 + 1 else h.1 j) := by funext j; unfold hAdd; rw [sp1]; simp only [ap1, e0]
  have sx : (sAdd a b s).1 = (fun j => if j = 1 then s.1 1 + 1 else s.1 j) := by funext j; unfold sAdd; rw [sp1]; simp only [ap1]
  have hx : ∀ j t, (hAdd a b h).2 j t = if j = 4 then (if t = (s.1 1).toNatClampNeg then b - b / 10 * 10 else h.2 4 t) else if j = 3 then (if t = (s.1 1).toNatClampNeg then b / 10 - b / 10 / 100 * 100 else h.2 3 t) else if j = 2 then (if t = (s.1 1).toNatClampNeg then b / 1000 else h.2 2 t) else if j = 1 then (if t = (s.1 1).toNatClampNeg then a else h.2 1 t) else h.2 j t := by
    intro j t; unfold hAdd; rw [sp2]; simp only [ap2, e0]
    by_cases q4 : j = 4
    · subst q4; simp
    by_cases q3 : j = 3
    · subst q3; simp
    by_cases q2 : j = 2
    · subst q2; simp
    by_cases q1 : j = 1
    · subst q1; simp
    simp [q4, q3, q2, q1]
  have sx2 : ∀ j t, (sAdd a b s).2 j t = if j = 5 then (if t = (s.1 1).toNatClampNeg then b - b / 10 * 10 else s.2 5 t) else if j = 4 then (if t = (s.1 1).toNatClampNeg then b / 10 - b / 10 / 100 * 100 else s.2 4 t) else if j = 3 then (if t = (s.1 1).toNatClampNeg then b / 1000 else s.2 3 t) else if j = 2 then (if t = (s.1 1).toNatClampNeg then a else s.2 2 t) else s.2 j t := by
    intro j t; unfold sAdd; rw [sp2]; simp only [ap2]
    by_cases q4 : j = 5
    · subst q4; simp
    by_cases q3 : j = 4
    · subst q3; simp
    by_cases q2 : j = 3
    · subst q2; simp
    by_cases q1 : j = 2
    · subst q1; simp
    simp [q4, q3, q2, q1]
  unfold RHill
  simp only [ex, sx, hx, sx2]
  refine ⟨by simp, ⟨show (0 : Int) ≤ (s.1 1 + 1).toInt by omega, show (s.1 1 + 1).toInt ≤ (6 : Int) by omega⟩, ?_, ?_, ?_, by simpa using e6, by simpa using b6, by simpa using e7, by simpa using b7, by simpa using e8, by simpa using e9, by simpa using b9⟩
  · intro i h6
    obtain ⟨q1, q2, q3, q4⟩ := ea i h6
    by_cases e : i = (s.1 1).toNatClampNeg
    · simp [e]
    · simp [e, q1, q2, q3, q4]
  · intro i h6
    obtain ⟨q1, q2, q3, q4⟩ := ba i h6
    by_cases e : i = (s.1 1).toNatClampNeg
    · simp only [e, if_true, show (2 : Nat) ≠ 5 by decide, show (2 : Nat) ≠ 4 by decide, show (2 : Nat) ≠ 3 by decide, show (3 : Nat) ≠ 5 by decide, show (3 : Nat) ≠ 4 by decide, show (4 : Nat) ≠ 5 by decide, if_false]
      exact ⟨ha, ⟨hd, h3⟩, h9, fun _ => h4⟩
    · simp only [e, if_false, if_true, show (2 : Nat) ≠ 5 by decide, show (2 : Nat) ≠ 4 by decide, show (2 : Nat) ≠ 3 by decide, show (3 : Nat) ≠ 5 by decide, show (3 : Nat) ≠ 4 by decide, show (4 : Nat) ≠ 5 by decide]
      refine ⟨q1, q2, q3, fun hlt => q4 ?_⟩
      rw [hi] at hlt
      omega
  · intro i h6
    simpa using es i h6
-- texts
def stepR (x a w : Int32) : Prop := (1000 ≤ x.toInt ∧ x.toInt ≤ 10999 ∧ a = 1 ∧ w = x - 1000) ∨ (300 ≤ x.toInt ∧ x.toInt < 306 ∧ a = 2 ∧ w = x - 300) ∨ (x = 258 ∧ a = 3) ∨ (x = 259 ∧ a = 4) ∨ (x = 256 ∧ a = 5) ∨ (x = 257 ∧ a = 6) ∨ ((x = 43 ∨ x = 45 ∨ x = 42 ∨ x = 60 ∨ x = 61) ∧ a = x)
/-- how many numbers lie on the stack behind k steps from lo on -/
def dp (f : Nat → Int32) (lo : Nat) : Nat → Option Nat
  | 0 => some 0
  | k + 1 => match dp f lo k with
    | none => none
    | some d => if 300 ≤ f (lo + k) then some (d + 1) else if f (lo + k) = 258 ∨ f (lo + k) = 259 then (if 1 ≤ d then some d else none) else (if 2 ≤ d then some (d - 1) else none)
/-- text t of the reference is T -/
def TXT (T s : MS) (t : Nat) : Prop :=
  ∃ e0 e1 e2 : Nat, e0 ≤ e1 ∧ e1 ≤ e2 ∧ e2 ≤ 160 ∧ T.2 1 0 = 0 ∧ T.2 1 1 = nI e0 ∧ T.2 1 2 = nI e1 ∧ T.2 1 3 = nI e2 ∧
    s.2 25 (3 * t) = nI e0 ∧ s.2 25 (3 * t + 1) = nI e1 ∧ s.2 25 (3 * t + 2) = nI e2 ∧
    dp (T.2 0) 0 e0 = some 1 ∧ dp (T.2 0) e0 (e1 - e0) = some 1 ∧ dp (T.2 0) e1 (e2 - e1) = some 1 ∧
    ∀ k, k < e2 → stepR (T.2 0 k) (s.2 23 (170 * t + k)) (s.2 24 (170 * t + k))
def RTexts (t0 : MS) (T : Nat → MS) (s : MS) : Prop :=
  (T 0).2 0 = t0.2 0 ∧ (T 0).2 1 = t0.2 1 ∧ ∀ t : Nat, 1 ≤ t → (t : Int) < (s.1 21).toInt → TXT (T t) s t
theorem RTexts_ag {t0 : MS} {T : Nat → MS} {s s' : MS} (hr : RTexts t0 T s) (g : AG [21] [23, 24, 25] s s') : RTexts t0 T s' := by
  unfold RTexts TXT at *
  rw [g.1 21 (by decide), g.2 23 (by decide), g.2 24 (by decide), g.2 25 (by decide)]
  exact hr
def R (t0 : MS) (nw : Nat) (c : CS) (s : MS) : Prop :=
  RHill c.2.1 s ∧ RKept c.1 c.2.2.1 c.2.1 s ∧ RCars c.2.2.2.1 s ∧ RWays nw c.1 c.2.2.2.2.1 s ∧ RPlain c.2.2.2.2.2.1 ∧ RTape c.2.2.2.2.2.2.1 s ∧ RTexts t0 c.2.2.2.2.2.2.2.1 s ∧ RSheets c.2.2.2.2.2.2.2.2.1 s ∧ RMisc c.1 c.2.1 s
/-- both answer alike, and are alike then -/
def SIM {α : Type} (t0 : MS) (nw : Nat) (x : Option (α × CS)) (y : Option (α × MS)) : Prop := ∃ (r : α) (c : CS) (s : MS), x = some (r, c) ∧ y = some (r, s) ∧ R t0 nw c s
/-- both answer alike, and nothing changes -/
def SIM0 {α : Type} (x y : Option α) : Prop := ∃ r : α, x = some r ∧ y = some r
theorem RKept_h {L k h h' s : MS} (hr : RKept L k h s) (hh : (h.1 0).toInt ≤ (h'.1 0).toInt) : RKept L k h' s := by
  obtain ⟨a1, a2, a3, a4, a5⟩ := hr
  exact ⟨a1, a2, a3, by omega, a5⟩
theorem rem10 (b : Int32) (hb : 0 ≤ b) : IR (b - b / 10 * 10) 0 9 := by
  have z0 : (0 : Int32).toInt = 0 := by decide
  have z10 : (10 : Int32).toInt = 10 := by decide
  rw [le_i, z0] at hb
  have h1 := rng b
  have hd : (b / 10).toInt = b.toInt / 10 := by
    rw [div_i _ _ (by rw [z10]; omega), z10, Int.tdiv_eq_ediv_of_nonneg hb]
  have hm : (b / 10 * 10).toInt = b.toInt / 10 * 10 := by
    rw [mul_i _ _ (by rw [hd, z10]; omega), hd, z10]
  constructor
  · rw [sub_i _ _ (by rw [hm]; omega), hm]; omega
  · rw [sub_i _ _ (by rw [hm]; omega), hm]; omega
theorem AG_add (a b : Int32) (s : MS) (ks as : List Nat) (h1 : 1 ∉ ks) (h2 : 2 ∉ as) (h3 : 3 ∉ as) (h4 : 4 ∉ as) (h5 : 5 ∉ as) : AG ks as s (sAdd a b s) :=
  AG_tr (AG_ap h2) (AG_tr (AG_ap h3) (AG_tr (AG_ap h4) (AG_tr (AG_ap h5) (AG_sp h1))))
theorem op_people (t0 : MS) (nw n : Nat) (a b : Int32) (c : CS) (s : MS) (hr : R t0 nw c s) : SIM t0 nw (f_X7_people n nw a b c) (f_X8_people n a b s) := by
  have hr0 := hr
  obtain ⟨rH, rK, rC, rW, rP, rT, rX, rS, rM⟩ := hr
  have e0 := rH.1
  have i0 := rH.2.1
  unfold f_X7_people
  rw [addSort_eq n a b c.2.1 (by rw [e0]; exact i0), m_people_eq n a b s i0, cl_some]
  by_cases h1 : 0 ≤ b
  case neg => simp only [if_neg h1]; exact ⟨_, _, _, rfl, rfl, hr0⟩
  by_cases h2 : 0 ≤ a ∧ a ≤ 400
  case neg => simp only [if_pos h1, if_neg h2]; exact ⟨_, _, _, rfl, rfl, hr0⟩
  by_cases h3 : b / 1000 ≤ 40
  case neg => simp only [if_pos h1, if_pos h2, if_neg h3]; exact ⟨_, _, _, rfl, rfl, hr0⟩
  by_cases h4 : 1 ≤ b / 10 - b / 10 / 100 * 100 ∧ b / 10 - b / 10 / 100 * 100 ≤ 60
  case neg => simp only [if_pos h1, if_pos h2, if_pos h3, if_neg h4]; exact ⟨_, _, _, rfl, rfl, hr0⟩
  by_cases h5 : s.1 1 < 6
  case neg =>
    have h5' : ¬ c.2.1.1 0 < 6 := by rw [e0]; exact h5
    simp only [if_pos h1, if_pos h2, if_pos h3, if_pos h4, if_neg h5, if_neg h5']; exact ⟨_, _, _, rfl, rfl, hr0⟩
  have h5' : c.2.1.1 0 < 6 := by rw [e0]; exact h5
  simp only [if_pos h1, if_pos h2, if_pos h3, if_pos h4, if_pos h5, if_pos h5']
  have z6 : (6 : Int32).toInt = 6 := by decide
  refine ⟨c.2.1.1 0, _, sAdd a b s, rfl, by rw [e0], RHill_add rH h1 h2 h3 h4 h5 (rem10 b h1), RKept_ag (RKept_h rK ?_) (AG_add a b s _ _ (by decide) (by decide) (by decide) (by decide) (by decide)), RCars_ag rC (AG_add a b s _ _ (by decide) (by decide) (by decide) (by decide) (by decide)) trivial, RWays_ag rW (AG_add a b s _ _ (by decide) (by decide) (by decide) (by decide) (by decide)), rP, RTape_ag rT (AG_add a b s _ _ (by decide) (by decide) (by decide) (by decide) (by decide)), RTexts_ag rX (AG_add a b s _ _ (by decide) (by decide) (by decide) (by decide) (by decide)), RSheets_ag rS (AG_add a b s _ _ (by decide) (by decide) (by decide) (by decide) (by decide)), RMisc_ag rM (AG_add a b s _ _ (by decide) (by decide) (by decide) (by decide) (by decide))⟩
  show (c.2.1.1 0).toInt ≤ ((hAdd a b c.2.1).1 0).toInt
  have : (hAdd a b c.2.1).1 0 = c.2.1.1 0 + 1 := by unfold hAdd; rw [sp1, if_pos rfl]
  rw [this, e0]
  rw [lt_i, z6] at h5
  rw [inc_i _ i0.1 (by omega)]
  omega
