theorem law_pure (L : Nat) (xs : Nat → Int32) (hL : L ≤ 384) : ∃ (n : Nat) (t0 : MS), f_X7_firstRule n = some t0 ∧ f_law n L xs 0 (st0_C t0) st0_X8 = some () := by
  obtain ⟨t0, ht, h0⟩ := t0_ok
  refine ⟨NF, t0, ht, ?_⟩
  rw [law_eq]
  have z6 : (6 : Int32).toInt = 6 := by decide
  have tI : ∀ k : Nat, k < 1000 → (nI k).toInt = (k : Int) := fun k hk => nI_toInt (by omega)
  refine Exists.elim (lp_inv (F := fun K2 (t1 : Int32 × Nat × CS × MS × Nat) =>
      ck (decide (t1.2.2.2.2 < 65)) <| ck (decide (t1.2.1 < 100)) <|
      if ((nI L) - 6) < t1.1 then some () else
        ck (ib t1.1 L) <| bn (xs (Int32.toNatClampNeg t1.1)) fun x4 =>
        lwJ NF L xs t1 (fun (t5 : Nat × CS × MS × Nat) => K2 ((t1.1 + 6), t5.1, t5.2.1, t5.2.2.1, t5.2.2.2)) x4)
    (fun x => x.2.2.2.2 ≤ 64 ∧ x.1 = nI (6 * x.2.2.2.2) ∧ R t0 x.2.1 x.2.2.1 x.2.2.2.1) (fun x => 65 - x.2.2.2.2) (fun _ => True) ?_ NF (0, 0, st0_C t0, st0_X8, 0) ⟨show 0 ≤ 64 by decide, rfl, R_start t0⟩ (show 65 - 0 < 4000 by decide)) (fun r h => h.2)
  · rintro ⟨i, nw, c, s, j⟩ ⟨hj, hi, hr⟩
    have hj : j ≤ 64 := hj
    have hi : i = nI (6 * j) := hi
    have hr : R t0 nw c s := hr
    have hw : nw < 100 := by have := hr.2.2.2.1.2.2.1; omega
    have c1 : decide (j < 65) = true := decide_eq_true (by omega)
    have c2 : decide (nw < 100) = true := decide_eq_true hw
    by_cases q : (nI L) - 6 < i
    · right
      refine ⟨(), trivial, fun self => ?_⟩
      show ck (decide (j < 65)) (ck (decide (nw < 100)) (if (nI L) - 6 < i then some () else _)) = some ()
      rw [c1, c2, ck_t, ck_t, if_pos q]
    · left
      have hle : 6 * j + 6 ≤ L := by
        rw [hi, lt_i, sub_i _ _ (by rw [tI L (by omega), z6]; omega), tI L (by omega), tI _ (by omega), z6] at q
        omega
      have I : ∀ d, d < 6 → ib (i + nI d) L = true := fun d hd => by
        rw [hi, nI_ad]
        exact ib_j (by omega) (by omega)
      have I0 : ib i L = true := by
        rw [hi]
        exact ib_j (by omega) (by omega)
      obtain ⟨nw', c', s', hR, h⟩ := lw_turn t0 h0 L xs (i, nw, c, s, j) hr (I 1 (by decide)) (I 2 (by decide)) (I 3 (by decide)) (I 4 (by decide)) (I 5 (by decide)) (xs i.toNatClampNeg)
      refine ⟨(i + 6, nw', c', s', j + 1), ⟨show j + 1 ≤ 64 by omega, ?_, hR⟩, show 65 - (j + 1) < 65 - j by omega, fun self => ?_⟩
      · show i + 6 = nI (6 * (j + 1))
        rw [hi, show (6 : Int32) = nI 6 by decide, nI_ad]
        exact congrArg nI (show 6 * j + 6 = 6 * (j + 1) by omega)
      · show ck (decide (j < 65)) (ck (decide (nw < 100)) (if (nI L) - 6 < i then some () else ck (ib i L) (lwJ NF L xs (i, nw, c, s, j) (fun (t5 : Nat × CS × MS × Nat) => self (i + 6, t5.1, t5.2.1, t5.2.2.1, t5.2.2.2)) (xs i.toNatClampNeg)))) = _
        rw [c1, c2, ck_t, ck_t, if_neg q, I0, ck_t, h]
