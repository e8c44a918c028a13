-- VALUES, whole: text 0 too
def stz (T N : MS) : Nat → Int32 × Int32 × MS
  | 0 => (0, 0, T)
  | 1 => (1, 1, ap T 2 0 (N.2 0 4))
  | 2 => (2, 2, ap (ap T 2 0 (N.2 0 4)) 2 1 3)
  | 3 => (1, 3, ap (ap (ap T 2 0 (N.2 0 4)) 2 1 3) 2 0 (N.2 0 4 * 3))
  | 4 => (2, 4, ap (ap (ap (ap T 2 0 (N.2 0 4)) 2 1 3) 2 0 (N.2 0 4 * 3)) 2 1 (N.2 0 5))
  | _ => (1, 5, ap (ap (ap (ap (ap T 2 0 (N.2 0 4)) 2 1 3) 2 0 (N.2 0 4 * 3)) 2 1 (N.2 0 5)) 2 0 (N.2 0 4 * 3 - N.2 0 5))
theorem ap_o (T : MS) (i : Nat) (x : Int32) (k j : Nat) (h : k ≠ 2) : (ap T 2 i x).2 k j = T.2 k j := by rw [ap2, if_neg h]
theorem joinM (n : Nat) (a b : Int32) : f_X5_joined n 42 a b = some (a * b) := rfl
theorem joinS (n : Nat) (a b : Int32) : f_X5_joined n 45 a b = some (a - b) := rfl
theorem val_zero (n : Nat) (hn : 170 ≤ n) (t0 T N s : MS) (p : Nat) (h0 : T0OK t0) (e22 : s.1 22 = 0) (hT0 : T.2 0 = t0.2 0) (hT1 : T.2 1 = t0.2 1) (hp : p < 3) (hf : ∀ i, i < 6 → N.2 0 i = s.2 34 i) : ∃ (v : Int32) (T' s' : MS), f_X5_value n (nI p) T N = some (v, T') ∧ f_X8_gives n (nI p) s = some (v, s') ∧ VK T T' s s' := by
  obtain ⟨b0, b1, b2, b3, d0, d1, d2, d3, d4, d5, d6⟩ := h0
  rw [← hT1] at b0 b1 b2 b3
  rw [← hT0] at d0 d1 d2 d3 d4 d5 d6
  have hp' : p = 0 ∨ p = 1 ∨ p = 2 := by omega
  rcases hp' with rfl | rfl | rfl
  · refine ⟨N.2 0 4 * 3 - N.2 0 5, ap (ap (ap (ap (ap T 2 0 (N.2 0 4)) 2 1 3) 2 0 (N.2 0 4 * 3)) 2 1 (N.2 0 5)) 2 0 (N.2 0 4 * 3 - N.2 0 5), s, ?_, ?_, ⟨rfl, ?_, ?_, rfl, fun _ _ => rfl⟩⟩
    · have : f_X5_value n (nI 0) T N = lp (vF n 0 N) n (stz T N 0) := by
        rw [value_lp, show nI 0 = 0 from rfl, show ib 0 4 = true by decide, ck_t, bn_def, show (0 : Int32).toNatClampNeg = 0 by decide, b0]
        rfl
      rw [this]
      refine lp_fn 5 (stz T N) _ (fun j hj self => ?_) (fun self => ?_) n (by omega)
      · have hj' : j = 0 ∨ j = 1 ∨ j = 2 ∨ j = 3 ∨ j = 4 := by omega
        rcases hj' with rfl | rfl | rfl | rfl | rfl
        · show vF n 0 N self (0, 0, T) = self (1, 1, ap T 2 0 (N.2 0 4))
          unfold vF
          dsimp only
          rw [show (0 : Int32) + 1 = 1 by decide, show ib 1 4 = true by decide, ck_t, show (1 : Int32).toNatClampNeg = 1 by decide, bn_def, b1, if_neg (show ¬ (5 : Int32) ≤ 0 by decide), show ib 0 160 = true by decide, ck_t, show (0 : Int32).toNatClampNeg = 0 by decide, bn_def, d0]
          simp only [jn_def]
          rw [if_neg (show ¬ (304 : Int32) < 300 by decide), if_pos (show (0 : Int32) < 160 by decide), if_pos (show (304 : Int32) < 1000 by decide), show (304 : Int32) - 300 = 4 by decide, show ib 4 6 = true by decide, ck_t, show (4 : Int32).toNatClampNeg = 4 by decide, bn_def, ck_t, bn_def]
        · show vF n 0 N self (1, 1, ap T 2 0 (N.2 0 4)) = self (2, 2, ap (ap T 2 0 (N.2 0 4)) 2 1 3)
          unfold vF
          dsimp only
          rw [show (0 : Int32) + 1 = 1 by decide, show ib 1 4 = true by decide, ck_t, show (1 : Int32).toNatClampNeg = 1 by decide, bn_def, ap_o _ _ _ _ _ (by decide), b1, if_neg (show ¬ (5 : Int32) ≤ 1 by decide), show ib 1 160 = true by decide, ck_t, bn_def, ap_o _ _ _ _ _ (by decide), d1]
          simp only [jn_def]
          rw [if_neg (show ¬ (1003 : Int32) < 300 by decide), if_pos (show (1 : Int32) < 160 by decide), if_neg (show ¬ (1003 : Int32) < 1000 by decide), show (1003 : Int32) - 1000 = 3 by decide, ck_t, bn_def, show (1 : Int32) + 1 = 2 by decide]
        · show vF n 0 N self (2, 2, ap (ap T 2 0 (N.2 0 4)) 2 1 3) = self (1, 3, ap (ap (ap T 2 0 (N.2 0 4)) 2 1 3) 2 0 (N.2 0 4 * 3))
          unfold vF
          dsimp only
          rw [show (0 : Int32) + 1 = 1 by decide, show ib 1 4 = true by decide, ck_t, show (1 : Int32).toNatClampNeg = 1 by decide, bn_def, ap_o _ _ _ _ _ (by decide), ap_o _ _ _ _ _ (by decide), b1, if_neg (show ¬ (5 : Int32) ≤ 2 by decide), show ib 2 160 = true by decide, ck_t, show (2 : Int32).toNatClampNeg = 2 by decide, bn_def, ap_o _ _ _ _ _ (by decide), ap_o _ _ _ _ _ (by decide), d2]
          simp only [jn_def]
          rw [if_pos (show (42 : Int32) < 300 by decide), if_neg (show ¬ (42 : Int32) = 258 by decide), if_neg (show ¬ (42 : Int32) = 259 by decide), if_pos (show (2 : Int32) ≤ 2 by decide), show (2 : Int32) + (-1) = 1 by decide, show (1 : Int32) - 1 = 0 by decide, show ib 0 160 = true by decide, ck_t, show (0 : Int32).toNatClampNeg = 0 by decide, show (1 : Int32).toNatClampNeg = 1 by decide, bn_def, show ib 1 160 = true by decide, ck_t, bn_def, joinM, cl_some, ck_t, bn_def, ap2, if_pos rfl, if_neg (by decide), ap2, if_pos rfl, if_pos rfl, ap2, if_pos rfl, if_pos rfl, show (2 : Int32) + 1 = 3 by decide]
        · show vF n 0 N self (1, 3, ap (ap (ap T 2 0 (N.2 0 4)) 2 1 3) 2 0 (N.2 0 4 * 3)) = self (2, 4, ap (ap (ap (ap T 2 0 (N.2 0 4)) 2 1 3) 2 0 (N.2 0 4 * 3)) 2 1 (N.2 0 5))
          unfold vF
          dsimp only
          rw [show (0 : Int32) + 1 = 1 by decide, show ib 1 4 = true by decide, ck_t, show (1 : Int32).toNatClampNeg = 1 by decide, bn_def, ap_o _ _ _ _ _ (by decide), ap_o _ _ _ _ _ (by decide), ap_o _ _ _ _ _ (by decide), b1, if_neg (show ¬ (5 : Int32) ≤ 3 by decide), show ib 3 160 = true by decide, ck_t, show (3 : Int32).toNatClampNeg = 3 by decide, bn_def, ap_o _ _ _ _ _ (by decide), ap_o _ _ _ _ _ (by decide), ap_o _ _ _ _ _ (by decide), d3]
          simp only [jn_def]
          rw [if_neg (show ¬ (305 : Int32) < 300 by decide), if_pos (show (1 : Int32) < 160 by decide), if_pos (show (305 : Int32) < 1000 by decide), show (305 : Int32) - 300 = 5 by decide, show ib 5 6 = true by decide, ck_t, show (5 : Int32).toNatClampNeg = 5 by decide, bn_def, show ib 1 160 = true by decide, ck_t, bn_def, show (1 : Int32) + 1 = 2 by decide, show (3 : Int32) + 1 = 4 by decide]
        · show vF n 0 N self (2, 4, ap (ap (ap (ap T 2 0 (N.2 0 4)) 2 1 3) 2 0 (N.2 0 4 * 3)) 2 1 (N.2 0 5)) = self (1, 5, ap (ap (ap (ap (ap T 2 0 (N.2 0 4)) 2 1 3) 2 0 (N.2 0 4 * 3)) 2 1 (N.2 0 5)) 2 0 (N.2 0 4 * 3 - N.2 0 5))
          unfold vF
          dsimp only
          rw [show (0 : Int32) + 1 = 1 by decide, show ib 1 4 = true by decide, ck_t, show (1 : Int32).toNatClampNeg = 1 by decide, bn_def, ap_o _ _ _ _ _ (by decide), ap_o _ _ _ _ _ (by decide), ap_o _ _ _ _ _ (by decide), ap_o _ _ _ _ _ (by decide), b1, if_neg (show ¬ (5 : Int32) ≤ 4 by decide), show ib 4 160 = true by decide, ck_t, show (4 : Int32).toNatClampNeg = 4 by decide, bn_def, ap_o _ _ _ _ _ (by decide), ap_o _ _ _ _ _ (by decide), ap_o _ _ _ _ _ (by decide), ap_o _ _ _ _ _ (by decide), d4]
          simp only [jn_def]
          rw [if_pos (show (45 : Int32) < 300 by decide), if_neg (show ¬ (45 : Int32) = 258 by decide), if_neg (show ¬ (45 : Int32) = 259 by decide), if_pos (show (2 : Int32) ≤ 2 by decide), show (2 : Int32) + (-1) = 1 by decide, show (1 : Int32) - 1 = 0 by decide, show ib 0 160 = true by decide, ck_t, show (0 : Int32).toNatClampNeg = 0 by decide, show (1 : Int32).toNatClampNeg = 1 by decide, bn_def, show ib 1 160 = true by decide, ck_t, bn_def, joinS, cl_some, ck_t, bn_def, ap2, if_pos rfl, if_neg (by decide), ap2, if_pos rfl, if_pos rfl, ap2, if_pos rfl, if_pos rfl, show (4 : Int32) + 1 = 5 by decide]
      · show vF n 0 N self (1, 5, ap (ap (ap (ap (ap T 2 0 (N.2 0 4)) 2 1 3) 2 0 (N.2 0 4 * 3)) 2 1 (N.2 0 5)) 2 0 (N.2 0 4 * 3 - N.2 0 5)) = _
        unfold vF
        dsimp only
        rw [show (0 : Int32) + 1 = 1 by decide, show ib 1 4 = true by decide, ck_t, show (1 : Int32).toNatClampNeg = 1 by decide, bn_def, ap_o _ _ _ _ _ (by decide), ap_o _ _ _ _ _ (by decide), ap_o _ _ _ _ _ (by decide), ap_o _ _ _ _ _ (by decide), ap_o _ _ _ _ _ (by decide), b1, if_pos (Int32.le_refl _), if_pos (Int32.le_refl _), show (1 : Int32) - 1 = 0 by decide, show ib 0 160 = true by decide, ck_t, show (0 : Int32).toNatClampNeg = 0 by decide, bn_def, ap2, if_pos rfl, if_pos rfl]
    · unfold f_X8_gives
      rw [if_pos e22, if_pos (show nI 0 = 0 from rfl), show ib 4 6 = true by decide, ck_t, bn_def, show ib 5 6 = true by decide, ck_t, bn_def, show (4 : Int32).toNatClampNeg = 4 by decide, show (5 : Int32).toNatClampNeg = 5 by decide, hf 4 (by omega), hf 5 (by omega)]
    · funext u; rw [ap2, if_neg (by decide), ap2, if_neg (by decide), ap2, if_neg (by decide), ap2, if_neg (by decide), ap2, if_neg (by decide)]
    · funext u; rw [ap2, if_neg (by decide), ap2, if_neg (by decide), ap2, if_neg (by decide), ap2, if_neg (by decide), ap2, if_neg (by decide)]
  · refine ⟨0, ap T 2 0 0, s, ?_, ?_, ⟨rfl, ?_, ?_, rfl, fun _ _ => rfl⟩⟩
    · obtain ⟨m, rfl⟩ : ∃ m, n = m + 2 := ⟨n - 2, by omega⟩
      rw [value_lp, show nI 1 = 1 from rfl, show ib 1 4 = true by decide, ck_t, bn_def, show (1 : Int32).toNatClampNeg = 1 by decide, b1, lp_s]
      have st : ∀ self, vF (m + 2) 1 N self (0, 5, T) = self (1, 6, ap T 2 0 0) := by
        intro self
        unfold vF
        dsimp only
        rw [show (1 : Int32) + 1 = 2 by decide, show ib 2 4 = true by decide, ck_t, show (2 : Int32).toNatClampNeg = 2 by decide, bn_def, b2, if_neg (show ¬ (6 : Int32) ≤ 5 by decide), show ib 5 160 = true by decide, ck_t, show (5 : Int32).toNatClampNeg = 5 by decide, bn_def, d5]
        simp only [jn_def]
        rw [if_neg (show ¬ (1000 : Int32) < 300 by decide), if_pos (show (0 : Int32) < 160 by decide), if_neg (show ¬ (1000 : Int32) < 1000 by decide), show ib 0 160 = true by decide, ck_t, show (0 : Int32).toNatClampNeg = 0 by decide, show (1000 : Int32) - 1000 = 0 by decide, bn_def, show (0 : Int32) + 1 = 1 by decide, show (5 : Int32) + 1 = 6 by decide]
      rw [st, lp_s]
      unfold vF
      dsimp only
      rw [show (1 : Int32) + 1 = 2 by decide, show ib 2 4 = true by decide, ck_t, show (2 : Int32).toNatClampNeg = 2 by decide, bn_def, ap_o _ _ _ _ _ (by decide), b2, if_pos (Int32.le_refl _), if_pos (Int32.le_refl _), show (1 : Int32) - 1 = 0 by decide, show ib 0 160 = true by decide, ck_t, show (0 : Int32).toNatClampNeg = 0 by decide, bn_def, ap2, if_pos rfl, if_pos rfl]
    · unfold f_X8_gives
      rw [if_pos e22, if_neg (by decide), if_pos (show nI 1 = 1 from rfl)]
    · funext u; rw [ap2, if_neg (by decide)]
    · funext u; rw [ap2, if_neg (by decide)]
  · refine ⟨1, ap T 2 0 1, s, ?_, ?_, ⟨rfl, ?_, ?_, rfl, fun _ _ => rfl⟩⟩
    · obtain ⟨m, rfl⟩ : ∃ m, n = m + 2 := ⟨n - 2, by omega⟩
      rw [value_lp, show nI 2 = 2 from rfl, show ib 2 4 = true by decide, ck_t, bn_def, show (2 : Int32).toNatClampNeg = 2 by decide, b2, lp_s]
      have st : ∀ self, vF (m + 2) 2 N self (0, 6, T) = self (1, 7, ap T 2 0 1) := by
        intro self
        unfold vF
        dsimp only
        rw [show (2 : Int32) + 1 = 3 by decide, show ib 3 4 = true by decide, ck_t, show (3 : Int32).toNatClampNeg = 3 by decide, bn_def, b3, if_neg (show ¬ (7 : Int32) ≤ 6 by decide), show ib 6 160 = true by decide, ck_t, show (6 : Int32).toNatClampNeg = 6 by decide, bn_def, d6]
        simp only [jn_def]
        rw [if_neg (show ¬ (1001 : Int32) < 300 by decide), if_pos (show (0 : Int32) < 160 by decide), if_neg (show ¬ (1001 : Int32) < 1000 by decide), show ib 0 160 = true by decide, ck_t, show (0 : Int32).toNatClampNeg = 0 by decide, show (1001 : Int32) - 1000 = 1 by decide, bn_def, show (0 : Int32) + 1 = 1 by decide, show (6 : Int32) + 1 = 7 by decide]
      rw [st, lp_s]
      unfold vF
      dsimp only
      rw [show (2 : Int32) + 1 = 3 by decide, show ib 3 4 = true by decide, ck_t, show (3 : Int32).toNatClampNeg = 3 by decide, bn_def, ap_o _ _ _ _ _ (by decide), b3, if_pos (Int32.le_refl _), if_pos (Int32.le_refl _), show (1 : Int32) - 1 = 0 by decide, show ib 0 160 = true by decide, ck_t, show (0 : Int32).toNatClampNeg = 0 by decide, bn_def, ap2, if_pos rfl, if_pos rfl]
    · unfold f_X8_gives
      rw [if_pos e22, if_neg (by decide), if_neg (by decide)]
    · funext u; rw [ap2, if_neg (by decide)]
    · funext u; rw [ap2, if_neg (by decide)]
theorem val_eq (n : Nat) (hn : 170 ≤ n) (t0 T N s : MS) (p : Nat) (h0 : T0OK t0) (hT : TOK t0 T s) (hp : p < 3) (hf : ∀ i, i < 6 → N.2 0 i = s.2 34 i) : ∃ (v : Int32) (T' s' : MS), f_X5_value n (nI p) T N = some (v, T') ∧ f_X8_gives n (nI p) s = some (v, s') ∧ VK T T' s s' := by
  rcases hT with ⟨a1, a2, a3⟩ | ⟨t, a1, a2, a3, a4⟩
  · exact val_zero n hn t0 T N s p h0 a1 a2 a3 hp hf
  · exact val_text n hn T N s t p a2 a1 a3 hp a4 hf
