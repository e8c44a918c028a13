def rmX7_wayAt : Room := { frames := 1, cells := 0, slots := 0, locals := 22 }
set_option maxHeartbeats 4000000 in
set_option maxRecDepth 100000 in
theorem c_X7_wayAt (g : GT) (l : Launch) (o : Nat) (a : Nat → Nat → Nat) (nw : Nat) (n : Nat) (a1 : Int32) (c : CS) (q : Option Nat) (hf : f_X7_wayAt n nw a1 c = some q) : CQ g l yX7_wayAt cX7_wayAt 2 (some (.object "LastCar$Way")) rmX7_wayAt [.ref o, .int a1] (wC g o a nw c) (q.map (a 4)) (wC g o a nw c) := by
  refine CQ_intro RX7 rfl (by decide +kernel) (Nat.le_of_ble_eq_true rfl) ?_
  intro p e s m args below meth c9 A ls Q hQ X hl hG
  have hl : lv_has ls 2 [(0, .ref o), (1, .int a1)] := hl
  have hG : GM g A s.heap s.heap [] [wX7 g o a nw c.1, wX2 g (a 0 0) (a 1) c.2.1, wX2 g (a 0 1) (a 2) c.2.2.1, wX0 g (a 0 3) (a 3) c.2.2.2.1, wYs g a nw c.2.2.2.2.1, wX6 g (a 0 6) (a 6) c.2.2.2.2.2.1, wX4 g (a 0 7) (a 9) c.2.2.2.2.2.2.1, wTs g a c.2.2.2.2.2.2.2.1, wSs g a c.2.2.2.2.2.2.2.2.1, wX1 g (a 0 11) (a 5) c.2.2.2.2.2.2.2.2.2.1, wF g (a 5 3) 6 c.2.2.2.2.2.2.2.2.2.2] := hG
  have hx := X.1
  have hb := X.2.1
  have hown := X.2.2.2.1
  unfold f_X7_wayAt at hf
  refine lv_iload_n hx hb dX7_wayAt_0 rfl (lv_at hl 1 rfl) ?_
  refine lv_iconst (v := 0) hx hb dX7_wayAt_1 (by decide) ?_
  refine lv_aload_n hx hb dX7_wayAt_2 rfl (lv_at hl 0 rfl) ?_
  refine G_7_36 X hG 0 rfl dX7_wayAt_3 ?_
  refine lv_iconst (v := 1) hx hb dX7_wayAt_6 (by decide) ?_
  refine lv_isub hx hb dX7_wayAt_7 ?_
  obtain ⟨q1, hq1, hf⟩ := cl_inv hf
  refine r_callSi (bc := []) (br := [wX7 g o a nw c.1, wX2 g (a 0 0) (a 1) c.2.1, wX2 g (a 0 1) (a 2) c.2.2.1, wX0 g (a 0 3) (a 3) c.2.2.2.1, wYs g a nw c.2.2.2.2.1, wX6 g (a 0 6) (a 6) c.2.2.2.2.2.1, wX4 g (a 0 7) (a 9) c.2.2.2.2.2.2.1, wTs g a c.2.2.2.2.2.2.2.1, wSs g a c.2.2.2.2.2.2.2.2.1, wX1 g (a 0 11) (a 5) c.2.2.2.2.2.2.2.2.2.1, wF g (a 5 3) 6 c.2.2.2.2.2.2.2.2.2.2]) (bs' := [wX7 g o a nw c.1, wX2 g (a 0 0) (a 1) c.2.1, wX2 g (a 0 1) (a 2) c.2.2.1, wX0 g (a 0 3) (a 3) c.2.2.2.1, wYs g a nw c.2.2.2.2.1, wX6 g (a 0 6) (a 6) c.2.2.2.2.2.1, wX4 g (a 0 7) (a 9) c.2.2.2.2.2.2.1, wTs g a c.2.2.2.2.2.2.2.1, wSs g a c.2.2.2.2.2.2.2.2.1, wX1 g (a 0 11) (a 5) c.2.2.2.2.2.2.2.2.2.1, wF g (a 5 3) 6 c.2.2.2.2.2.2.2.2.2.2]) (As := [.int a1, .int 0, .int ((c.1.1 5) - 1)]) (rest := []) X hG hl.1 (c_X7_between g l n a1 0 ((c.1.1 5) - 1) q1 hq1) (List.Perm.refl _) (List.Perm.refl _) lk_X7_between ls_X7_between ml_7_106 rfl rfl ⟨Nat.le_of_ble_eq_true rfl, Nat.le_of_ble_eq_true rfl⟩ rfl rfl (Nat.le_of_ble_eq_true rfl) ⟨Nat.zero_le _, Nat.zero_le _⟩ dX7_wayAt_8 (fun H locs hG => ?_)
  refine lv_if_eq (tgt := 23) hx hb dX7_wayAt_11 (by decide) (fun hc2 => ?_) (fun hc2 => ?_)
  · replace hf := ite_t hf hc2
    refine lv_null hx hb dX7_wayAt_23 ?_
    have hq9 := Option.some.inj hf
    subst hq9
    subst hQ
    exact r_qret X hG (by first | exact Or.inl ⟨_, rfl⟩ | exact Or.inr ⟨_, rfl⟩) dX7_wayAt_24
  · replace hf := ite_f hf hc2
    refine lv_aload_n hx hb dX7_wayAt_14 rfl (lv_at hl 0 rfl) ?_
    refine G_7_32 X hG 0 rfl dX7_wayAt_15 ?_
    refine lv_iload_n hx hb dX7_wayAt_18 rfl (lv_at hl 1 rfl) ?_
    refine r_aaldq 5 X hG 0 1 rfl rfl rfl hf dX7_wayAt_19 (fun hb3 hf => ?_)
    obtain ⟨hw4, hf⟩ := ck_inv hf
    replace hw4 := of_decide_eq_true hw4
    refine W.eq (g2 := F0 m 20 ls [.ref (a 4 (Int32.toNatClampNeg a1))]) (by simp only [if_pos hw4]; rfl) ?_
    refine lv_goto (tgt := 24) hx hb dX7_wayAt_20 (by decide) ?_
    have hq9 := Option.some.inj hf
    subst hq9
    subst hQ
    exact r_qret X hG (by first | exact Or.inl ⟨_, rfl⟩ | exact Or.inr ⟨_, rfl⟩) dX7_wayAt_24
def rmX7_isSortOrAll : Room := { frames := 1, cells := 0, slots := 0, locals := 22 }
set_option maxHeartbeats 4000000 in
set_option maxRecDepth 100000 in
theorem c_X7_isSortOrAll (g : GT) (l : Launch) (o : Nat) (a : Nat → Nat → Nat) (nw : Nat) (n : Nat) (a1 : Int32) (c : CS) (q : Int32) (hf : f_X7_isSortOrAll n nw a1 c = some q) : CI g l yX7_isSortOrAll cX7_isSortOrAll 2 (some .boolean) rmX7_isSortOrAll [.ref o, .int a1] (wC g o a nw c) q (wC g o a nw c) := by
  refine CI_intro RX7 rfl (by decide +kernel) (Nat.le_of_ble_eq_true rfl) ?_
  intro p e s m args below meth c9 A ls Q hQ X hl hG
  have hl : lv_has ls 2 [(0, .ref o), (1, .int a1)] := hl
  have hG : GM g A s.heap s.heap [] [wX7 g o a nw c.1, wX2 g (a 0 0) (a 1) c.2.1, wX2 g (a 0 1) (a 2) c.2.2.1, wX0 g (a 0 3) (a 3) c.2.2.2.1, wYs g a nw c.2.2.2.2.1, wX6 g (a 0 6) (a 6) c.2.2.2.2.2.1, wX4 g (a 0 7) (a 9) c.2.2.2.2.2.2.1, wTs g a c.2.2.2.2.2.2.2.1, wSs g a c.2.2.2.2.2.2.2.2.1, wX1 g (a 0 11) (a 5) c.2.2.2.2.2.2.2.2.2.1, wF g (a 5 3) 6 c.2.2.2.2.2.2.2.2.2.2] := hG
  have hx := X.1
  have hb := X.2.1
  have hown := X.2.2.2.1
  unfold f_X7_isSortOrAll at hf
  refine lv_iload_n hx hb dX7_isSortOrAll_0 rfl (lv_at hl 1 rfl) ?_
  refine lv_iconst (v := (-1)) hx hb dX7_isSortOrAll_1 (by decide) ?_
  refine lv_aload_n hx hb dX7_isSortOrAll_2 rfl (lv_at hl 0 rfl) ?_
  refine G_7_10 X hG 0 rfl dX7_isSortOrAll_3 ?_
  refine G_7_216 X hG 1 rfl dX7_isSortOrAll_6 ?_
  refine lv_iconst (v := 1) hx hb dX7_isSortOrAll_9 (by decide) ?_
  refine lv_isub hx hb dX7_isSortOrAll_10 ?_
  obtain ⟨q1, hq1, hf⟩ := cl_inv hf
  refine r_callSi (bc := []) (br := [wX7 g o a nw c.1, wX2 g (a 0 0) (a 1) c.2.1, wX2 g (a 0 1) (a 2) c.2.2.1, wX0 g (a 0 3) (a 3) c.2.2.2.1, wYs g a nw c.2.2.2.2.1, wX6 g (a 0 6) (a 6) c.2.2.2.2.2.1, wX4 g (a 0 7) (a 9) c.2.2.2.2.2.2.1, wTs g a c.2.2.2.2.2.2.2.1, wSs g a c.2.2.2.2.2.2.2.2.1, wX1 g (a 0 11) (a 5) c.2.2.2.2.2.2.2.2.2.1, wF g (a 5 3) 6 c.2.2.2.2.2.2.2.2.2.2]) (bs' := [wX7 g o a nw c.1, wX2 g (a 0 0) (a 1) c.2.1, wX2 g (a 0 1) (a 2) c.2.2.1, wX0 g (a 0 3) (a 3) c.2.2.2.1, wYs g a nw c.2.2.2.2.1, wX6 g (a 0 6) (a 6) c.2.2.2.2.2.1, wX4 g (a 0 7) (a 9) c.2.2.2.2.2.2.1, wTs g a c.2.2.2.2.2.2.2.1, wSs g a c.2.2.2.2.2.2.2.2.1, wX1 g (a 0 11) (a 5) c.2.2.2.2.2.2.2.2.2.1, wF g (a 5 3) 6 c.2.2.2.2.2.2.2.2.2.2]) (As := [.int a1, .int (-1), .int ((c.2.1.1 0) - 1)]) (rest := []) X hG hl.1 (c_X7_between g l n a1 (-1) ((c.2.1.1 0) - 1) q1 hq1) (List.Perm.refl _) (List.Perm.refl _) lk_X7_between ls_X7_between ml_7_106 rfl rfl ⟨Nat.le_of_ble_eq_true rfl, Nat.le_of_ble_eq_true rfl⟩ rfl rfl (Nat.le_of_ble_eq_true rfl) ⟨Nat.zero_le _, Nat.zero_le _⟩ dX7_isSortOrAll_11 (fun H locs hG => ?_)
  obtain ⟨hz, hf⟩ := ck_inv hf
  have hq9 := Option.some.inj hf
  subst hq9
  subst hQ
  exact r_zret X hG (of_decide_eq_true hz) dX7_isSortOrAll_14
def rmX7_told : Room := { frames := 2, cells := 0, slots := 0, locals := 43 }
set_option maxHeartbeats 4000000 in
set_option maxRecDepth 100000 in
theorem c_X7_told (g : GT) (l : Launch) (o : Nat) (a : Nat → Nat → Nat) (nw : Nat) (n : Nat) (a1 : Int32) (a2 : Int32) (a3 : Int32) (c : CS) (q : Int32) (hf : f_X7_told n nw a1 a2 a3 c = some q) : CI g l yX7_told cX7_told 5 (some .int) rmX7_told [.ref o, .int a1, .int a2, .int a3] (wC g o a nw c) q (wC g o a nw c) := by
  refine CI_intro RX7 rfl (by decide +kernel) (Nat.le_of_ble_eq_true rfl) ?_
  intro p e s m args below meth c9 A ls Q hQ X hl hG
  have hl : lv_has ls 5 [(0, .ref o), (1, .int a1), (2, .int a2), (3, .int a3)] := hl
  have hG : GM g A s.heap s.heap [] [wX7 g o a nw c.1, wX2 g (a 0 0) (a 1) c.2.1, wX2 g (a 0 1) (a 2) c.2.2.1, wX0 g (a 0 3) (a 3) c.2.2.2.1, wYs g a nw c.2.2.2.2.1, wX6 g (a 0 6) (a 6) c.2.2.2.2.2.1, wX4 g (a 0 7) (a 9) c.2.2.2.2.2.2.1, wTs g a c.2.2.2.2.2.2.2.1, wSs g a c.2.2.2.2.2.2.2.2.1, wX1 g (a 0 11) (a 5) c.2.2.2.2.2.2.2.2.2.1, wF g (a 5 3) 6 c.2.2.2.2.2.2.2.2.2.2] := hG
  have hx := X.1
  have hb := X.2.1
  have hown := X.2.2.2.1
  unfold f_X7_told at hf
  refine lv_aload_n hx hb dX7_told_0 rfl (lv_at hl 0 rfl) ?_
  refine lv_iload_n hx hb dX7_told_1 rfl (lv_at hl 1 rfl) ?_
  obtain ⟨q1, hq1, hf⟩ := cl_inv hf
  refine r_callVq (bc := [wX7 g o a nw c.1, wX2 g (a 0 0) (a 1) c.2.1, wX2 g (a 0 1) (a 2) c.2.2.1, wX0 g (a 0 3) (a 3) c.2.2.2.1, wYs g a nw c.2.2.2.2.1, wX6 g (a 0 6) (a 6) c.2.2.2.2.2.1, wX4 g (a 0 7) (a 9) c.2.2.2.2.2.2.1, wTs g a c.2.2.2.2.2.2.2.1, wSs g a c.2.2.2.2.2.2.2.2.1, wX1 g (a 0 11) (a 5) c.2.2.2.2.2.2.2.2.2.1, wF g (a 5 3) 6 c.2.2.2.2.2.2.2.2.2.2]) (br := []) (bs' := [wX7 g o a nw c.1, wX2 g (a 0 0) (a 1) c.2.1, wX2 g (a 0 1) (a 2) c.2.2.1, wX0 g (a 0 3) (a 3) c.2.2.2.1, wYs g a nw c.2.2.2.2.1, wX6 g (a 0 6) (a 6) c.2.2.2.2.2.1, wX4 g (a 0 7) (a 9) c.2.2.2.2.2.2.1, wTs g a c.2.2.2.2.2.2.2.1, wSs g a c.2.2.2.2.2.2.2.2.1, wX1 g (a 0 11) (a 5) c.2.2.2.2.2.2.2.2.2.1, wF g (a 5 3) 6 c.2.2.2.2.2.2.2.2.2.2]) (As := [.int a1]) (rest := []) X hG hl.1 (c_X7_wayAt g l o a nw n a1 (c.1, c.2.1, c.2.2.1, c.2.2.2.1, c.2.2.2.2.1, c.2.2.2.2.2.1, c.2.2.2.2.2.2.1, c.2.2.2.2.2.2.2.1, c.2.2.2.2.2.2.2.2.1, c.2.2.2.2.2.2.2.2.2.1, c.2.2.2.2.2.2.2.2.2.2) q1 hq1) (List.Perm.refl _) (List.Perm.refl _) lk_X7_wayAt lv_X7_wayAt ml_7_139 (j := 0) (k := 0) rfl rfl rfl rfl rfl ⟨Nat.le_of_ble_eq_true rfl, Nat.le_of_ble_eq_true rfl⟩ rfl rfl (Nat.le_of_ble_eq_true rfl) ⟨Nat.zero_le _, Nat.zero_le _⟩ dX7_told_2 (fun H locs hG => ?_)
  rcases q1 with _ | w2
  · replace hf := oc_n hf
    refine W.eq (g2 := F0 m 5 ls [.null]) rfl ?_
    refine lv_astoreN (lv' := [(4, .null), (0, .ref o), (1, .int a1), (2, .int a2), (3, .int a3)]) hx hb dX7_told_5 hl (by decide) rfl (fun ls hl => ?_)
    refine lv_aloadN hx hb dX7_told_7 (lv_at hl 0 rfl) ?_
    refine lv_ifnullN (tgt := 19) hx hb dX7_told_9 (by decide) ?_
    refine lv_bipush (v := (-2)) hx hb dX7_told_19 (by decide) ?_
    have hq9 := Option.some.inj hf
    subst hq9
    subst hQ
    exact r_iret X hG dX7_told_21
  · replace hf := oc_s hf
    obtain ⟨hw3, hf⟩ := ck_inv hf
    replace hw3 := of_decide_eq_true hw3
    refine W.eq (g2 := F0 m 5 ls [.ref (a 4 w2)]) rfl ?_
    refine lv_astore (lv' := [(4, .ref (a 4 w2)), (0, .ref o), (1, .int a1), (2, .int a2), (3, .int a3)]) hx hb dX7_told_5 hl (by decide) rfl (fun ls hl => ?_)
    refine lv_aload hx hb dX7_told_7 (lv_at hl 0 rfl) ?_
    refine lv_ifnull hx hb dX7_told_9 ?_
    refine lv_iload_n hx hb dX7_told_12 rfl (lv_at hl 3 rfl) ?_
    obtain ⟨q4, hq4, hf⟩ := cl_inv hf
    refine r_callSi (bc := []) (br := [wX7 g o a nw c.1, wX2 g (a 0 0) (a 1) c.2.1, wX2 g (a 0 1) (a 2) c.2.2.1, wX0 g (a 0 3) (a 3) c.2.2.2.1, wYs g a nw c.2.2.2.2.1, wX6 g (a 0 6) (a 6) c.2.2.2.2.2.1, wX4 g (a 0 7) (a 9) c.2.2.2.2.2.2.1, wTs g a c.2.2.2.2.2.2.2.1, wSs g a c.2.2.2.2.2.2.2.2.1, wX1 g (a 0 11) (a 5) c.2.2.2.2.2.2.2.2.2.1, wF g (a 5 3) 6 c.2.2.2.2.2.2.2.2.2.2]) (bs' := [wX7 g o a nw c.1, wX2 g (a 0 0) (a 1) c.2.1, wX2 g (a 0 1) (a 2) c.2.2.1, wX0 g (a 0 3) (a 3) c.2.2.2.1, wYs g a nw c.2.2.2.2.1, wX6 g (a 0 6) (a 6) c.2.2.2.2.2.1, wX4 g (a 0 7) (a 9) c.2.2.2.2.2.2.1, wTs g a c.2.2.2.2.2.2.2.1, wSs g a c.2.2.2.2.2.2.2.2.1, wX1 g (a 0 11) (a 5) c.2.2.2.2.2.2.2.2.2.1, wF g (a 5 3) 6 c.2.2.2.2.2.2.2.2.2.2]) (As := [.int a2]) (rest := []) X hG hl.1 (c_X7_isMinute g l n a2 q4 hq4) (List.Perm.refl _) (List.Perm.refl _) lk_X7_isMinute ls_X7_isMinute ml_7_110 rfl rfl ⟨Nat.le_of_ble_eq_true rfl, Nat.le_of_ble_eq_true rfl⟩ rfl rfl (Nat.le_of_ble_eq_true rfl) ⟨Nat.zero_le _, Nat.zero_le _⟩ dX7_told_13 (fun H locs hG => ?_)
    refine lv_if_ne (tgt := 22) hx hb dX7_told_16 (by decide) (fun hc5 => ?_) (fun hc5 => ?_)
    · replace hf := ite_f hf hc5
      refine lv_iload_n hx hb dX7_told_22 rfl (lv_at hl 4 rfl) ?_
      by_cases hk6_0 : a3 = 0
      · replace hf := ite_t hf hk6_0
        refine r_tsi (tgt := 56) (off := 33) X dX7_told_23 hk6_0 (by decide +kernel) (by decide +kernel) (by decide) ?_
        refine lv_aload hx hb dX7_told_56 (lv_at hl 0 rfl) ?_
        refine r_get X hG 4 w2 rfl (Y_get hw3) rfl 0 (by decide) inX6 (TW_at 165 (by decide +kernel) (by decide +kernel)) rfl dX7_told_58 ?_
        have hq9 := Option.some.inj hf
        subst hq9
        subst hQ
        exact r_iret X hG dX7_told_61
      · replace hf := ite_f hf hk6_0
        by_cases hk6_1 : a3 = 1
        · replace hf := ite_t hf hk6_1
          refine r_tsi (tgt := 62) (off := 39) X dX7_told_23 hk6_1 (by decide +kernel) (by decide +kernel) (by decide) ?_
          refine lv_aload hx hb dX7_told_62 (lv_at hl 0 rfl) ?_
          refine r_get X hG 4 w2 rfl (Y_get hw3) rfl 1 (by decide) inX6 (TW_at 167 (by decide +kernel) (by decide +kernel)) rfl dX7_told_64 ?_
          have hq9 := Option.some.inj hf
          subst hq9
          subst hQ
          exact r_iret X hG dX7_told_67
        · replace hf := ite_f hf hk6_1
          by_cases hk6_2 : a3 = 2
          · replace hf := ite_t hf hk6_2
            refine r_tsi (tgt := 68) (off := 45) X dX7_told_23 hk6_2 (by decide +kernel) (by decide +kernel) (by decide) ?_
            refine lv_aload hx hb dX7_told_68 (lv_at hl 0 rfl) ?_
            refine r_get X hG 4 w2 rfl (Y_get hw3) rfl 2 (by decide) inX6 (TW_at 169 (by decide +kernel) (by decide +kernel)) rfl dX7_told_70 ?_
            have hq9 := Option.some.inj hf
            subst hq9
            subst hQ
            exact r_iret X hG dX7_told_73
          · replace hf := ite_f hf hk6_2
            by_cases hk6_3 : a3 = 3
            · replace hf := ite_t hf hk6_3
              refine r_tsi (tgt := 74) (off := 51) X dX7_told_23 hk6_3 (by decide +kernel) (by decide +kernel) (by decide) ?_
              refine lv_aload hx hb dX7_told_74 (lv_at hl 0 rfl) ?_
              refine lv_iload_n hx hb dX7_told_76 rfl (lv_at hl 3 rfl) ?_
              refine lv_aload hx hb dX7_told_77 (lv_at hl 0 rfl) ?_
              refine r_get X hG 4 w2 rfl (Y_get hw3) rfl 1 (by decide) inX6 (TW_at 167 (by decide +kernel) (by decide +kernel)) rfl dX7_told_79 ?_
              obtain ⟨q7, hq7, hf⟩ := cl_inv hf
              refine r_callVi (bc := [wX6 g (a 4 w2) (a 6) (wy c.2.2.2.2.1 w2)]) (br := [wX7 g o a nw c.1, wX2 g (a 0 0) (a 1) c.2.1, wX2 g (a 0 1) (a 2) c.2.2.1, wX0 g (a 0 3) (a 3) c.2.2.2.1, (wYs g a nw c.2.2.2.2.1).eraseIdx w2, wX6 g (a 0 6) (a 6) c.2.2.2.2.2.1, wX4 g (a 0 7) (a 9) c.2.2.2.2.2.2.1, wTs g a c.2.2.2.2.2.2.2.1, wSs g a c.2.2.2.2.2.2.2.2.1, wX1 g (a 0 11) (a 5) c.2.2.2.2.2.2.2.2.2.1, wF g (a 5 3) 6 c.2.2.2.2.2.2.2.2.2.2]) (bs' := [wX7 g o a nw c.1, wX2 g (a 0 0) (a 1) c.2.1, wX2 g (a 0 1) (a 2) c.2.2.1, wX0 g (a 0 3) (a 3) c.2.2.2.1, wYs g a nw c.2.2.2.2.1, wX6 g (a 0 6) (a 6) c.2.2.2.2.2.1, wX4 g (a 0 7) (a 9) c.2.2.2.2.2.2.1, wTs g a c.2.2.2.2.2.2.2.1, wSs g a c.2.2.2.2.2.2.2.2.1, wX1 g (a 0 11) (a 5) c.2.2.2.2.2.2.2.2.2.1, wF g (a 5 3) 6 c.2.2.2.2.2.2.2.2.2.2]) (As := [.int a2, .int (c.2.2.2.2.1.2 1 w2)]) (rest := []) X hG hl.1 (c_X6_callsIn g l (a 4 w2) (a 6) n a2 (c.2.2.2.2.1.2 1 w2) (wy c.2.2.2.2.1 w2) q7 hq7) ((focus_perm 4 rfl (Y_focus hw3)).trans (blk_perm2 [4, 0, 1, 2, 3, 5, 6, 7, 8, 9, 10, 11] 12 rfl rfl (by decide)).flatten) ((blk_perm2 [1, 2, 3, 4, 0, 5, 6, 7, 8, 9, 10, 11] 12 rfl rfl (by decide)).flatten.trans (focus_perm 4 rfl (Y_focus hw3)).symm) lk_X6_callsIn lv_X6_callsIn ml_7_152 (j := 4) (k := w2) rfl (Y_get hw3) rfl rfl rfl ⟨Nat.le_of_ble_eq_true rfl, Nat.le_of_ble_eq_true rfl⟩ rfl rfl (Nat.le_of_ble_eq_true rfl) ⟨Nat.zero_le _, Nat.zero_le _⟩ dX7_told_82 (fun H locs hG => ?_)
              have hq9 := Option.some.inj hf
              subst hq9
              subst hQ
              exact r_iret X hG dX7_told_85
            · replace hf := ite_f hf hk6_3
              by_cases hk6_4 : a3 = 4
              · replace hf := ite_t hf hk6_4
                refine r_tsi (tgt := 86) (off := 63) X dX7_told_23 hk6_4 (by decide +kernel) (by decide +kernel) (by decide) ?_
                refine lv_aload hx hb dX7_told_86 (lv_at hl 0 rfl) ?_
                refine lv_iload_n hx hb dX7_told_88 rfl (lv_at hl 3 rfl) ?_
                refine lv_aload hx hb dX7_told_89 (lv_at hl 0 rfl) ?_
                refine r_get X hG 4 w2 rfl (Y_get hw3) rfl 1 (by decide) inX6 (TW_at 167 (by decide +kernel) (by decide +kernel)) rfl dX7_told_91 ?_
                obtain ⟨q8, hq8, hf⟩ := cl_inv hf
                refine r_callVi (bc := [wX6 g (a 4 w2) (a 6) (wy c.2.2.2.2.1 w2)]) (br := [wX7 g o a nw c.1, wX2 g (a 0 0) (a 1) c.2.1, wX2 g (a 0 1) (a 2) c.2.2.1, wX0 g (a 0 3) (a 3) c.2.2.2.1, (wYs g a nw c.2.2.2.2.1).eraseIdx w2, wX6 g (a 0 6) (a 6) c.2.2.2.2.2.1, wX4 g (a 0 7) (a 9) c.2.2.2.2.2.2.1, wTs g a c.2.2.2.2.2.2.2.1, wSs g a c.2.2.2.2.2.2.2.2.1, wX1 g (a 0 11) (a 5) c.2.2.2.2.2.2.2.2.2.1, wF g (a 5 3) 6 c.2.2.2.2.2.2.2.2.2.2]) (bs' := [wX7 g o a nw c.1, wX2 g (a 0 0) (a 1) c.2.1, wX2 g (a 0 1) (a 2) c.2.2.1, wX0 g (a 0 3) (a 3) c.2.2.2.1, wYs g a nw c.2.2.2.2.1, wX6 g (a 0 6) (a 6) c.2.2.2.2.2.1, wX4 g (a 0 7) (a 9) c.2.2.2.2.2.2.1, wTs g a c.2.2.2.2.2.2.2.1, wSs g a c.2.2.2.2.2.2.2.2.1, wX1 g (a 0 11) (a 5) c.2.2.2.2.2.2.2.2.2.1, wF g (a 5 3) 6 c.2.2.2.2.2.2.2.2.2.2]) (As := [.int a2, .int (c.2.2.2.2.1.2 1 w2)]) (rest := []) X hG hl.1 (c_X6_asksIn g l (a 4 w2) (a 6) n a2 (c.2.2.2.2.1.2 1 w2) (wy c.2.2.2.2.1 w2) q8 hq8) ((focus_perm 4 rfl (Y_focus hw3)).trans (blk_perm2 [4, 0, 1, 2, 3, 5, 6, 7, 8, 9, 10, 11] 12 rfl rfl (by decide)).flatten) ((blk_perm2 [1, 2, 3, 4, 0, 5, 6, 7, 8, 9, 10, 11] 12 rfl rfl (by decide)).flatten.trans (focus_perm 4 rfl (Y_focus hw3)).symm) lk_X6_asksIn lv_X6_asksIn ml_7_155 (j := 4) (k := w2) rfl (Y_get hw3) rfl rfl rfl ⟨Nat.le_of_ble_eq_true rfl, Nat.le_of_ble_eq_true rfl⟩ rfl rfl (Nat.le_of_ble_eq_true rfl) ⟨Nat.zero_le _, Nat.zero_le _⟩ dX7_told_94 (fun H locs hG => ?_)
                have hq9 := Option.some.inj hf
                subst hq9
                subst hQ
                exact r_iret X hG dX7_told_97
              · replace hf := ite_f hf hk6_4
                refine r_tso (tgt := 98) X dX7_told_23 (ks := [0, 1, 2, 3, 4]) (List.forall_mem_cons.mpr ⟨hk6_0, List.forall_mem_cons.mpr ⟨hk6_1, List.forall_mem_cons.mpr ⟨hk6_2, List.forall_mem_cons.mpr ⟨hk6_3, List.forall_mem_cons.mpr ⟨hk6_4, List.forall_mem_nil _⟩⟩⟩⟩⟩) (by decide +kernel) (by decide) ?_
                refine lv_bipush (v := (-2)) hx hb dX7_told_98 (by decide) ?_
                have hq9 := Option.some.inj hf
                subst hq9
                subst hQ
                exact r_iret X hG dX7_told_100
    · replace hf := ite_t hf hc5
      refine lv_bipush (v := (-2)) hx hb dX7_told_19 (by decide) ?_
      have hq9 := Option.some.inj hf
      subst hq9
      subst hQ
      exact r_iret X hG dX7_told_21
def rmX7_must : Room := { frames := 2, cells := 0, slots := 0, locals := 47 }
set_option maxHeartbeats 4000000 in
set_option maxRecDepth 100000 in
theorem c_X7_must (g : GT) (l : Launch) (o : Nat) (a : Nat → Nat → Nat) (nw : Nat) (n : Nat) (c : CS) (q : Int32) (hf : f_X7_must n nw c = some q) : CI g l yX7_must cX7_must 3 (some .int) rmX7_must [.ref o] (wC g o a nw c) q (wC g o a nw c) := by
  refine CI_intro RX7 rfl (by decide +kernel) (Nat.le_of_ble_eq_true rfl) ?_
  intro p e s m args below meth c9 A ls Q hQ X hl hG
  have hl : lv_has ls 3 [(0, .ref o)] := hl
  have hG : GM g A s.heap s.heap [] [wX7 g o a nw c.1, wX2 g (a 0 0) (a 1) c.2.1, wX2 g (a 0 1) (a 2) c.2.2.1, wX0 g (a 0 3) (a 3) c.2.2.2.1, wYs g a nw c.2.2.2.2.1, wX6 g (a 0 6) (a 6) c.2.2.2.2.2.1, wX4 g (a 0 7) (a 9) c.2.2.2.2.2.2.1, wTs g a c.2.2.2.2.2.2.2.1, wSs g a c.2.2.2.2.2.2.2.2.1, wX1 g (a 0 11) (a 5) c.2.2.2.2.2.2.2.2.2.1, wF g (a 5 3) 6 c.2.2.2.2.2.2.2.2.2.2] := hG
  have hx := X.1
  have hb := X.2.1
  have hown := X.2.2.2.1
  unfold f_X7_must at hf
  refine lv_iconst (v := 0) hx hb dX7_must_0 (by decide) ?_
  refine lv_istore_n (lv' := [(1, .int 0), (0, .ref o)]) hx hb dX7_must_1 rfl hl (by decide) rfl (fun ls hl => ?_)
  refine lv_iconst (v := 0) hx hb dX7_must_2 (by decide) ?_
  refine lv_istore_n (lv' := [(2, .int 0), (1, .int 0), (0, .ref o)]) hx hb dX7_must_3 rfl hl (by decide) rfl (fun ls hl => ?_)
  refine lp_go (P := fun (t1 : Int32 × Int32) => ∀ (H : Heap) (locs : List Loc) (ls : Array Slot), GM g A s.heap H locs [wX7 g o a nw c.1, wX2 g (a 0 0) (a 1) c.2.1, wX2 g (a 0 1) (a 2) c.2.2.1, wX0 g (a 0 3) (a 3) c.2.2.2.1, wYs g a nw c.2.2.2.2.1, wX6 g (a 0 6) (a 6) c.2.2.2.2.2.1, wX4 g (a 0 7) (a 9) c.2.2.2.2.2.2.1, wTs g a c.2.2.2.2.2.2.2.1, wSs g a c.2.2.2.2.2.2.2.2.1, wX1 g (a 0 11) (a 5) c.2.2.2.2.2.2.2.2.2.1, wF g (a 5 3) 6 c.2.2.2.2.2.2.2.2.2.2] → lv_has ls 3 [(0, .ref o), (1, .int t1.1), (2, .int t1.2)] → W p l e rmX7_must s m args below meth c9 H locs 0 0 Q (F0 m 4 ls [])) hf (fun K2 hK2 t1 hf H locs ls hG hl => ?_) _ _ _ hG (lv_sub hl [2, 1, 0] rfl)
  refine lv_iload_n hx hb dX7_must_4 rfl (lv_at hl 2 rfl) ?_
  refine lv_aload_n hx hb dX7_must_5 rfl (lv_at hl 0 rfl) ?_
  refine G_7_10 X hG 0 rfl dX7_must_6 ?_
  refine G_7_122 X hG 1 rfl dX7_must_9 ?_
  refine lv_icmp_ge (tgt := 43) hx hb dX7_must_12 (by decide) (fun hc3 => ?_) (fun hc3 => ?_)
  · replace hf := ite_t hf hc3
    refine lv_iload_n hx hb dX7_must_43 rfl (lv_at hl 1 rfl) ?_
    refine lv_aload_n hx hb dX7_must_44 rfl (lv_at hl 0 rfl) ?_
    refine G_7_10 X hG 0 rfl dX7_must_45 ?_
    obtain ⟨q4, hq4, hf⟩ := cl_inv hf
    refine r_callVi (bc := [wX2 g (a 0 0) (a 1) c.2.1]) (br := [wX7 g o a nw c.1, wX2 g (a 0 1) (a 2) c.2.2.1, wX0 g (a 0 3) (a 3) c.2.2.2.1, wYs g a nw c.2.2.2.2.1, wX6 g (a 0 6) (a 6) c.2.2.2.2.2.1, wX4 g (a 0 7) (a 9) c.2.2.2.2.2.2.1, wTs g a c.2.2.2.2.2.2.2.1, wSs g a c.2.2.2.2.2.2.2.2.1, wX1 g (a 0 11) (a 5) c.2.2.2.2.2.2.2.2.2.1, wF g (a 5 3) 6 c.2.2.2.2.2.2.2.2.2.2]) (bs' := [wX7 g o a nw c.1, wX2 g (a 0 0) (a 1) c.2.1, wX2 g (a 0 1) (a 2) c.2.2.1, wX0 g (a 0 3) (a 3) c.2.2.2.1, wYs g a nw c.2.2.2.2.1, wX6 g (a 0 6) (a 6) c.2.2.2.2.2.1, wX4 g (a 0 7) (a 9) c.2.2.2.2.2.2.1, wTs g a c.2.2.2.2.2.2.2.1, wSs g a c.2.2.2.2.2.2.2.2.1, wX1 g (a 0 11) (a 5) c.2.2.2.2.2.2.2.2.2.1, wF g (a 5 3) 6 c.2.2.2.2.2.2.2.2.2.2]) (As := []) (rest := [.int t1.1]) X hG hl.1 (c_X2_allUp g l (a 0 0) (a 1) n c.2.1 q4 hq4) ((blk_perm2 [1, 0, 2, 3, 4, 5, 6, 7, 8, 9, 10] 11 rfl rfl (by decide)).flatten) ((blk_perm2 [1, 0, 2, 3, 4, 5, 6, 7, 8, 9, 10] 11 rfl rfl (by decide)).flatten) lk_X2_allUp lv_X2_allUp ml_7_213 (j := 1) (k := 0) rfl rfl rfl rfl rfl ⟨Nat.le_of_ble_eq_true rfl, Nat.le_of_ble_eq_true rfl⟩ rfl rfl (Nat.le_of_ble_eq_true rfl) ⟨Nat.zero_le _, Nat.zero_le _⟩ dX7_must_48 (fun H locs hG => ?_)
    refine lv_isub hx hb dX7_must_51 ?_
    have hq9 := Option.some.inj hf
    subst hq9
    subst hQ
    exact r_iret X hG dX7_must_52
  · replace hf := ite_f hf hc3
    refine lv_aload_n hx hb dX7_must_15 rfl (lv_at hl 0 rfl) ?_
    refine G_7_10 X hG 0 rfl dX7_must_16 ?_
    refine lv_iload_n hx hb dX7_must_19 rfl (lv_at hl 2 rfl) ?_
    obtain ⟨q5, hq5, hf⟩ := cl_inv hf
    refine r_callVi (bc := [wX2 g (a 0 0) (a 1) c.2.1]) (br := [wX7 g o a nw c.1, wX2 g (a 0 1) (a 2) c.2.2.1, wX0 g (a 0 3) (a 3) c.2.2.2.1, wYs g a nw c.2.2.2.2.1, wX6 g (a 0 6) (a 6) c.2.2.2.2.2.1, wX4 g (a 0 7) (a 9) c.2.2.2.2.2.2.1, wTs g a c.2.2.2.2.2.2.2.1, wSs g a c.2.2.2.2.2.2.2.2.1, wX1 g (a 0 11) (a 5) c.2.2.2.2.2.2.2.2.2.1, wF g (a 5 3) 6 c.2.2.2.2.2.2.2.2.2.2]) (bs' := [wX7 g o a nw c.1, wX2 g (a 0 0) (a 1) c.2.1, wX2 g (a 0 1) (a 2) c.2.2.1, wX0 g (a 0 3) (a 3) c.2.2.2.1, wYs g a nw c.2.2.2.2.1, wX6 g (a 0 6) (a 6) c.2.2.2.2.2.1, wX4 g (a 0 7) (a 9) c.2.2.2.2.2.2.1, wTs g a c.2.2.2.2.2.2.2.1, wSs g a c.2.2.2.2.2.2.2.2.1, wX1 g (a 0 11) (a 5) c.2.2.2.2.2.2.2.2.2.1, wF g (a 5 3) 6 c.2.2.2.2.2.2.2.2.2.2]) (As := [.int t1.2]) (rest := []) X hG hl.1 (c_X2_isShutIn g l (a 0 0) (a 1) n t1.2 c.2.1 q5 hq5) ((blk_perm2 [1, 0, 2, 3, 4, 5, 6, 7, 8, 9, 10] 11 rfl rfl (by decide)).flatten) ((blk_perm2 [1, 0, 2, 3, 4, 5, 6, 7, 8, 9, 10] 11 rfl rfl (by decide)).flatten) lk_X2_isShutIn lv_X2_isShutIn ml_7_207 (j := 1) (k := 0) rfl rfl rfl rfl rfl ⟨Nat.le_of_ble_eq_true rfl, Nat.le_of_ble_eq_true rfl⟩ rfl rfl (Nat.le_of_ble_eq_true rfl) ⟨Nat.zero_le _, Nat.zero_le _⟩ dX7_must_20 (fun H locs hG => ?_)
    refine jn_use (P := fun (t6 : Int32) => ∀ (H : Heap) (locs : List Loc) (ls : Array Slot), GM g A s.heap H locs [wX7 g o a nw c.1, wX2 g (a 0 0) (a 1) c.2.1, wX2 g (a 0 1) (a 2) c.2.2.1, wX0 g (a 0 3) (a 3) c.2.2.2.1, wYs g a nw c.2.2.2.2.1, wX6 g (a 0 6) (a 6) c.2.2.2.2.2.1, wX4 g (a 0 7) (a 9) c.2.2.2.2.2.2.1, wTs g a c.2.2.2.2.2.2.2.1, wSs g a c.2.2.2.2.2.2.2.2.1, wX1 g (a 0 11) (a 5) c.2.2.2.2.2.2.2.2.2.1, wF g (a 5 3) 6 c.2.2.2.2.2.2.2.2.2.2] → lv_has ls 3 [(0, .ref o), (1, .int t6), (2, .int t1.2)] → W p l e rmX7_must s m args below meth c9 H locs 0 0 Q (F0 m 37 ls [])) hf (fun t6 hf H locs ls hG hl => ?_) (fun K7 hK7 hf => ?_)
    · refine lv_iinc (v := (t1.2 + 1)) (lv' := [(2, .int (t1.2 + 1)), (0, .ref o), (1, .int t6)]) hx hb dX7_must_37 hl (k := 2) rfl rfl (by decide) rfl (fun ls hl => ?_)
      refine lv_goto (tgt := 4) hx hb dX7_must_40 (by decide) ?_
      exact hK2 _ hf _ _ _ hG (lv_sub hl [1, 2, 0] rfl)
    refine lv_if_ne (tgt := 37) hx hb dX7_must_23 (by decide) (fun hc8 => ?_) (fun hc8 => ?_)
    · replace hf := ite_f hf hc8
      exact hK7 _ hf _ _ _ hG (lv_sub hl [0, 1, 2] rfl)
    · replace hf := ite_t hf hc8
      refine lv_iload_n hx hb dX7_must_26 rfl (lv_at hl 1 rfl) ?_
      refine lv_aload_n hx hb dX7_must_27 rfl (lv_at hl 0 rfl) ?_
      refine G_7_26 X hG 0 rfl dX7_must_28 ?_
      refine lv_iload_n hx hb dX7_must_31 rfl (lv_at hl 2 rfl) ?_
      obtain ⟨q9, hq9, hf⟩ := cl_inv hf
      refine r_callVi (bc := [wX0 g (a 0 3) (a 3) c.2.2.2.1]) (br := [wX7 g o a nw c.1, wX2 g (a 0 0) (a 1) c.2.1, wX2 g (a 0 1) (a 2) c.2.2.1, wYs g a nw c.2.2.2.2.1, wX6 g (a 0 6) (a 6) c.2.2.2.2.2.1, wX4 g (a 0 7) (a 9) c.2.2.2.2.2.2.1, wTs g a c.2.2.2.2.2.2.2.1, wSs g a c.2.2.2.2.2.2.2.2.1, wX1 g (a 0 11) (a 5) c.2.2.2.2.2.2.2.2.2.1, wF g (a 5 3) 6 c.2.2.2.2.2.2.2.2.2.2]) (bs' := [wX7 g o a nw c.1, wX2 g (a 0 0) (a 1) c.2.1, wX2 g (a 0 1) (a 2) c.2.2.1, wX0 g (a 0 3) (a 3) c.2.2.2.1, wYs g a nw c.2.2.2.2.1, wX6 g (a 0 6) (a 6) c.2.2.2.2.2.1, wX4 g (a 0 7) (a 9) c.2.2.2.2.2.2.1, wTs g a c.2.2.2.2.2.2.2.1, wSs g a c.2.2.2.2.2.2.2.2.1, wX1 g (a 0 11) (a 5) c.2.2.2.2.2.2.2.2.2.1, wF g (a 5 3) 6 c.2.2.2.2.2.2.2.2.2.2]) (As := [.int t1.2]) (rest := [.int t1.1]) X hG hl.1 (c_X0_roomIn g l (a 0 3) (a 3) n t1.2 c.2.2.2.1 q9 hq9) ((blk_perm2 [3, 0, 1, 2, 4, 5, 6, 7, 8, 9, 10] 11 rfl rfl (by decide)).flatten) ((blk_perm2 [1, 2, 3, 0, 4, 5, 6, 7, 8, 9, 10] 11 rfl rfl (by decide)).flatten) lk_X0_roomIn lv_X0_roomIn ml_7_210 (j := 3) (k := 0) rfl rfl rfl rfl rfl ⟨Nat.le_of_ble_eq_true rfl, Nat.le_of_ble_eq_true rfl⟩ rfl rfl (Nat.le_of_ble_eq_true rfl) ⟨Nat.zero_le _, Nat.zero_le _⟩ dX7_must_32 (fun H locs hG => ?_)
      refine lv_iadd hx hb dX7_must_35 ?_
      refine r_bni hf (fun x10 hf => ?_)
      refine lv_istore_n (lv' := [(1, .int x10), (0, .ref o), (2, .int t1.2)]) hx hb dX7_must_36 rfl hl (by decide) rfl (fun ls hl => ?_)
      exact hK7 _ hf _ _ _ hG (lv_sub hl [1, 0, 2] rfl)
def rmX7_latestUp : Room := { frames := 2, cells := 0, slots := 0, locals := 47 }
set_option maxHeartbeats 4000000 in
set_option maxRecDepth 100000 in
theorem c_X7_latestUp (g : GT) (l : Launch) (o : Nat) (a : Nat → Nat → Nat) (nw : Nat) (n : Nat) (a1 : Int32) (c : CS) (q : Int32) (hf : f_X7_latestUp n nw a1 c = some q) : CI g l yX7_latestUp cX7_latestUp 3 (some .int) rmX7_latestUp [.ref o, .int a1] (wC g o a nw c) q (wC g o a nw c) := by
  refine CI_intro RX7 rfl (by decide +kernel) (Nat.le_of_ble_eq_true rfl) ?_
  intro p e s m args below meth c9 A ls Q hQ X hl hG
  have hl : lv_has ls 3 [(0, .ref o), (1, .int a1)] := hl
  have hG : GM g A s.heap s.heap [] [wX7 g o a nw c.1, wX2 g (a 0 0) (a 1) c.2.1, wX2 g (a 0 1) (a 2) c.2.2.1, wX0 g (a 0 3) (a 3) c.2.2.2.1, wYs g a nw c.2.2.2.2.1, wX6 g (a 0 6) (a 6) c.2.2.2.2.2.1, wX4 g (a 0 7) (a 9) c.2.2.2.2.2.2.1, wTs g a c.2.2.2.2.2.2.2.1, wSs g a c.2.2.2.2.2.2.2.2.1, wX1 g (a 0 11) (a 5) c.2.2.2.2.2.2.2.2.2.1, wF g (a 5 3) 6 c.2.2.2.2.2.2.2.2.2.2] := hG
  have hx := X.1
  have hb := X.2.1
  have hown := X.2.2.2.1
  unfold f_X7_latestUp at hf
  refine lv_iload_n hx hb dX7_latestUp_0 rfl (lv_at hl 1 rfl) ?_
  refine lv_iconst (v := 0) hx hb dX7_latestUp_1 (by decide) ?_
  refine lv_aload_n hx hb dX7_latestUp_2 rfl (lv_at hl 0 rfl) ?_
  refine G_7_10 X hG 0 rfl dX7_latestUp_3 ?_
  refine G_7_216 X hG 1 rfl dX7_latestUp_6 ?_
  refine lv_iconst (v := 1) hx hb dX7_latestUp_9 (by decide) ?_
  refine lv_isub hx hb dX7_latestUp_10 ?_
  obtain ⟨q1, hq1, hf⟩ := cl_inv hf
  refine r_callSi (bc := []) (br := [wX7 g o a nw c.1, wX2 g (a 0 0) (a 1) c.2.1, wX2 g (a 0 1) (a 2) c.2.2.1, wX0 g (a 0 3) (a 3) c.2.2.2.1, wYs g a nw c.2.2.2.2.1, wX6 g (a 0 6) (a 6) c.2.2.2.2.2.1, wX4 g (a 0 7) (a 9) c.2.2.2.2.2.2.1, wTs g a c.2.2.2.2.2.2.2.1, wSs g a c.2.2.2.2.2.2.2.2.1, wX1 g (a 0 11) (a 5) c.2.2.2.2.2.2.2.2.2.1, wF g (a 5 3) 6 c.2.2.2.2.2.2.2.2.2.2]) (bs' := [wX7 g o a nw c.1, wX2 g (a 0 0) (a 1) c.2.1, wX2 g (a 0 1) (a 2) c.2.2.1, wX0 g (a 0 3) (a 3) c.2.2.2.1, wYs g a nw c.2.2.2.2.1, wX6 g (a 0 6) (a 6) c.2.2.2.2.2.1, wX4 g (a 0 7) (a 9) c.2.2.2.2.2.2.1, wTs g a c.2.2.2.2.2.2.2.1, wSs g a c.2.2.2.2.2.2.2.2.1, wX1 g (a 0 11) (a 5) c.2.2.2.2.2.2.2.2.2.1, wF g (a 5 3) 6 c.2.2.2.2.2.2.2.2.2.2]) (As := [.int a1, .int 0, .int ((c.2.1.1 0) - 1)]) (rest := []) X hG hl.1 (c_X7_between g l n a1 0 ((c.2.1.1 0) - 1) q1 hq1) (List.Perm.refl _) (List.Perm.refl _) lk_X7_between ls_X7_between ml_7_106 rfl rfl ⟨Nat.le_of_ble_eq_true rfl, Nat.le_of_ble_eq_true rfl⟩ rfl rfl (Nat.le_of_ble_eq_true rfl) ⟨Nat.zero_le _, Nat.zero_le _⟩ dX7_latestUp_11 (fun H locs hG => ?_)
  refine lv_if_ne (tgt := 20) hx hb dX7_latestUp_14 (by decide) (fun hc2 => ?_) (fun hc2 => ?_)
  · replace hf := ite_f hf hc2
    refine lv_aload_n hx hb dX7_latestUp_20 rfl (lv_at hl 0 rfl) ?_
    refine G_7_10 X hG 0 rfl dX7_latestUp_21 ?_
    refine G_7_122 X hG 1 rfl dX7_latestUp_24 ?_
    refine lv_iconst (v := 1) hx hb dX7_latestUp_27 (by decide) ?_
    refine lv_isub hx hb dX7_latestUp_28 ?_
    refine r_bni hf (fun x3 hf => ?_)
    refine lv_istore_n (lv' := [(2, .int x3), (0, .ref o), (1, .int a1)]) hx hb dX7_latestUp_29 rfl hl (by decide) rfl (fun ls hl => ?_)
    refine lp_go (P := fun (t4 : Int32) => ∀ (H : Heap) (locs : List Loc) (ls : Array Slot), GM g A s.heap H locs [wX7 g o a nw c.1, wX2 g (a 0 0) (a 1) c.2.1, wX2 g (a 0 1) (a 2) c.2.2.1, wX0 g (a 0 3) (a 3) c.2.2.2.1, wYs g a nw c.2.2.2.2.1, wX6 g (a 0 6) (a 6) c.2.2.2.2.2.1, wX4 g (a 0 7) (a 9) c.2.2.2.2.2.2.1, wTs g a c.2.2.2.2.2.2.2.1, wSs g a c.2.2.2.2.2.2.2.2.1, wX1 g (a 0 11) (a 5) c.2.2.2.2.2.2.2.2.2.1, wF g (a 5 3) 6 c.2.2.2.2.2.2.2.2.2.2] → lv_has ls 3 [(0, .ref o), (1, .int a1), (2, .int t4)] → W p l e rmX7_latestUp s m args below meth c9 H locs 0 0 Q (F0 m 30 ls [])) hf (fun K5 hK5 t4 hf H locs ls hG hl => ?_) _ _ _ hG (lv_sub hl [1, 2, 0] rfl)
    refine lv_iload_n hx hb dX7_latestUp_30 rfl (lv_at hl 2 rfl) ?_
    refine lv_aload_n hx hb dX7_latestUp_31 rfl (lv_at hl 0 rfl) ?_
    refine G_7_10 X hG 0 rfl dX7_latestUp_32 ?_
    refine G_7_219 X hG 1 rfl dX7_latestUp_35 ?_
    refine lv_iload_n hx hb dX7_latestUp_38 rfl (lv_at hl 1 rfl) ?_
    refine r_iald X hG 1 2 rfl rfl hf dX7_latestUp_39 (fun x6 hf => ?_)
    refine lv_icmp_lt (tgt := 83) hx hb dX7_latestUp_40 (by decide) (fun hc7 => ?_) (fun hc7 => ?_)
    · replace hf := ite_t hf hc7
      refine lv_iconst (v := (-1)) hx hb dX7_latestUp_83 (by decide) ?_
      have hq9 := Option.some.inj hf
      subst hq9
      subst hQ
      exact r_iret X hG dX7_latestUp_84
    · replace hf := ite_f hf hc7
      refine lv_aload_n hx hb dX7_latestUp_43 rfl (lv_at hl 0 rfl) ?_
      refine G_7_10 X hG 0 rfl dX7_latestUp_44 ?_
      refine lv_iload_n hx hb dX7_latestUp_47 rfl (lv_at hl 2 rfl) ?_
      obtain ⟨q8, hq8, hf⟩ := cl_inv hf
      refine r_callVi (bc := [wX2 g (a 0 0) (a 1) c.2.1]) (br := [wX7 g o a nw c.1, wX2 g (a 0 1) (a 2) c.2.2.1, wX0 g (a 0 3) (a 3) c.2.2.2.1, wYs g a nw c.2.2.2.2.1, wX6 g (a 0 6) (a 6) c.2.2.2.2.2.1, wX4 g (a 0 7) (a 9) c.2.2.2.2.2.2.1, wTs g a c.2.2.2.2.2.2.2.1, wSs g a c.2.2.2.2.2.2.2.2.1, wX1 g (a 0 11) (a 5) c.2.2.2.2.2.2.2.2.2.1, wF g (a 5 3) 6 c.2.2.2.2.2.2.2.2.2.2]) (bs' := [wX7 g o a nw c.1, wX2 g (a 0 0) (a 1) c.2.1, wX2 g (a 0 1) (a 2) c.2.2.1, wX0 g (a 0 3) (a 3) c.2.2.2.1, wYs g a nw c.2.2.2.2.1, wX6 g (a 0 6) (a 6) c.2.2.2.2.2.1, wX4 g (a 0 7) (a 9) c.2.2.2.2.2.2.1, wTs g a c.2.2.2.2.2.2.2.1, wSs g a c.2.2.2.2.2.2.2.2.1, wX1 g (a 0 11) (a 5) c.2.2.2.2.2.2.2.2.2.1, wF g (a 5 3) 6 c.2.2.2.2.2.2.2.2.2.2]) (As := [.int t4]) (rest := []) X hG hl.1 (c_X2_isShutIn g l (a 0 0) (a 1) n t4 c.2.1 q8 hq8) ((blk_perm2 [1, 0, 2, 3, 4, 5, 6, 7, 8, 9, 10] 11 rfl rfl (by decide)).flatten) ((blk_perm2 [1, 0, 2, 3, 4, 5, 6, 7, 8, 9, 10] 11 rfl rfl (by decide)).flatten) lk_X2_isShutIn lv_X2_isShutIn ml_7_207 (j := 1) (k := 0) rfl rfl rfl rfl rfl ⟨Nat.le_of_ble_eq_true rfl, Nat.le_of_ble_eq_true rfl⟩ rfl rfl (Nat.le_of_ble_eq_true rfl) ⟨Nat.zero_le _, Nat.zero_le _⟩ dX7_latestUp_48 (fun H locs hG => ?_)
      refine jn_use (P := fun (t9 : Unit) => ∀ (H : Heap) (locs : List Loc) (ls : Array Slot), GM g A s.heap H locs [wX7 g o a nw c.1, wX2 g (a 0 0) (a 1) c.2.1, wX2 g (a 0 1) (a 2) c.2.2.1, wX0 g (a 0 3) (a 3) c.2.2.2.1, wYs g a nw c.2.2.2.2.1, wX6 g (a 0 6) (a 6) c.2.2.2.2.2.1, wX4 g (a 0 7) (a 9) c.2.2.2.2.2.2.1, wTs g a c.2.2.2.2.2.2.2.1, wSs g a c.2.2.2.2.2.2.2.2.1, wX1 g (a 0 11) (a 5) c.2.2.2.2.2.2.2.2.2.1, wF g (a 5 3) 6 c.2.2.2.2.2.2.2.2.2.2] → lv_has ls 3 [(0, .ref o), (1, .int a1), (2, .int t4)] → W p l e rmX7_latestUp s m args below meth c9 H locs 0 0 Q (F0 m 77 ls [])) hf (fun t9 hf H locs ls hG hl => ?_) (fun K10 hK10 hf => ?_)
      · refine lv_iinc (v := (t4 + (-1))) (lv' := [(2, .int (t4 + (-1))), (0, .ref o), (1, .int a1)]) hx hb dX7_latestUp_77 hl (k := 2) rfl rfl (by decide) rfl (fun ls hl => ?_)
        refine lv_goto (tgt := 30) hx hb dX7_latestUp_80 (by decide) ?_
        exact hK5 _ hf _ _ _ hG (lv_sub hl [1, 2, 0] rfl)
      refine lv_if_ne (tgt := 77) hx hb dX7_latestUp_51 (by decide) (fun hc11 => ?_) (fun hc11 => ?_)
      · replace hf := ite_f hf hc11
        exact hK10 _ hf _ _ _ hG (lv_sub hl [0, 1, 2] rfl)
      · replace hf := ite_t hf hc11
        refine lv_aload_n hx hb dX7_latestUp_54 rfl (lv_at hl 0 rfl) ?_
        refine G_7_26 X hG 0 rfl dX7_latestUp_55 ?_
        refine lv_iload_n hx hb dX7_latestUp_58 rfl (lv_at hl 2 rfl) ?_
        obtain ⟨q12, hq12, hf⟩ := cl_inv hf
        refine r_callVi (bc := [wX0 g (a 0 3) (a 3) c.2.2.2.1]) (br := [wX7 g o a nw c.1, wX2 g (a 0 0) (a 1) c.2.1, wX2 g (a 0 1) (a 2) c.2.2.1, wYs g a nw c.2.2.2.2.1, wX6 g (a 0 6) (a 6) c.2.2.2.2.2.1, wX4 g (a 0 7) (a 9) c.2.2.2.2.2.2.1, wTs g a c.2.2.2.2.2.2.2.1, wSs g a c.2.2.2.2.2.2.2.2.1, wX1 g (a 0 11) (a 5) c.2.2.2.2.2.2.2.2.2.1, wF g (a 5 3) 6 c.2.2.2.2.2.2.2.2.2.2]) (bs' := [wX7 g o a nw c.1, wX2 g (a 0 0) (a 1) c.2.1, wX2 g (a 0 1) (a 2) c.2.2.1, wX0 g (a 0 3) (a 3) c.2.2.2.1, wYs g a nw c.2.2.2.2.1, wX6 g (a 0 6) (a 6) c.2.2.2.2.2.1, wX4 g (a 0 7) (a 9) c.2.2.2.2.2.2.1, wTs g a c.2.2.2.2.2.2.2.1, wSs g a c.2.2.2.2.2.2.2.2.1, wX1 g (a 0 11) (a 5) c.2.2.2.2.2.2.2.2.2.1, wF g (a 5 3) 6 c.2.2.2.2.2.2.2.2.2.2]) (As := [.int t4]) (rest := []) X hG hl.1 (c_X0_roomIn g l (a 0 3) (a 3) n t4 c.2.2.2.1 q12 hq12) ((blk_perm2 [3, 0, 1, 2, 4, 5, 6, 7, 8, 9, 10] 11 rfl rfl (by decide)).flatten) ((blk_perm2 [1, 2, 3, 0, 4, 5, 6, 7, 8, 9, 10] 11 rfl rfl (by decide)).flatten) lk_X0_roomIn lv_X0_roomIn ml_7_210 (j := 3) (k := 0) rfl rfl rfl rfl rfl ⟨Nat.le_of_ble_eq_true rfl, Nat.le_of_ble_eq_true rfl⟩ rfl rfl (Nat.le_of_ble_eq_true rfl) ⟨Nat.zero_le _, Nat.zero_le _⟩ dX7_latestUp_59 (fun H locs hG => ?_)
        refine lv_if_le (tgt := 77) hx hb dX7_latestUp_62 (by decide) (fun hc13 => ?_) (fun hc13 => ?_)
        · replace hf := ite_t hf hc13
          exact hK10 _ hf _ _ _ hG (lv_sub hl [0, 1, 2] rfl)
        · replace hf := ite_f hf hc13
          refine lv_iload_n hx hb dX7_latestUp_65 rfl (lv_at hl 2 rfl) ?_
          refine lv_aload_n hx hb dX7_latestUp_66 rfl (lv_at hl 0 rfl) ?_
          refine G_7_10 X hG 0 rfl dX7_latestUp_67 ?_
          refine G_7_219 X hG 1 rfl dX7_latestUp_70 ?_
          refine lv_iload_n hx hb dX7_latestUp_73 rfl (lv_at hl 1 rfl) ?_
          refine r_iald X hG 1 2 rfl rfl hf dX7_latestUp_74 (fun x14 hf => ?_)
          refine lv_isub hx hb dX7_latestUp_75 ?_
          have hq9 := Option.some.inj hf
          subst hq9
          subst hQ
          exact r_iret X hG dX7_latestUp_76
  · replace hf := ite_t hf hc2
    refine lv_bipush (v := (-2)) hx hb dX7_latestUp_17 (by decide) ?_
    have hq9 := Option.some.inj hf
    subst hq9
    subst hQ
    exact r_iret X hG dX7_latestUp_19
def rmX7_count : Room := { frames := 1, cells := 0, slots := 0, locals := 22 }
set_option maxHeartbeats 4000000 in
set_option maxRecDepth 100000 in
theorem c_X7_count (g : GT) (l : Launch) (o : Nat) (a : Nat → Nat → Nat) (nw : Nat) (n : Nat) (a1 : Int32) (c : CS) (q : Int32) (hf : f_X7_count n nw a1 c = some q) : CI g l yX7_count cX7_count 2 (some .int) rmX7_count [.ref o, .int a1] (wC g o a nw c) q (wC g o a nw c) := by
  refine CI_intro RX7 rfl (by decide +kernel) (Nat.le_of_ble_eq_true rfl) ?_
  intro p e s m args below meth c9 A ls Q hQ X hl hG
  have hl : lv_has ls 2 [(0, .ref o), (1, .int a1)] := hl
  have hG : GM g A s.heap s.heap [] [wX7 g o a nw c.1, wX2 g (a 0 0) (a 1) c.2.1, wX2 g (a 0 1) (a 2) c.2.2.1, wX0 g (a 0 3) (a 3) c.2.2.2.1, wYs g a nw c.2.2.2.2.1, wX6 g (a 0 6) (a 6) c.2.2.2.2.2.1, wX4 g (a 0 7) (a 9) c.2.2.2.2.2.2.1, wTs g a c.2.2.2.2.2.2.2.1, wSs g a c.2.2.2.2.2.2.2.2.1, wX1 g (a 0 11) (a 5) c.2.2.2.2.2.2.2.2.2.1, wF g (a 5 3) 6 c.2.2.2.2.2.2.2.2.2.2] := hG
  have hx := X.1
  have hb := X.2.1
  have hown := X.2.2.2.1
  unfold f_X7_count at hf
  refine lv_iload_n hx hb dX7_count_0 rfl (lv_at hl 1 rfl) ?_
  by_cases hk1_0 : a1 = 0
  · replace hf := ite_t hf hk1_0
    refine r_tsi (tgt := 48) (off := 47) X dX7_count_1 hk1_0 (by decide +kernel) (by decide +kernel) (by decide) ?_
    refine lv_aload_n hx hb dX7_count_48 rfl (lv_at hl 0 rfl) ?_
    refine G_7_10 X hG 0 rfl dX7_count_49 ?_
    refine G_7_216 X hG 1 rfl dX7_count_52 ?_
    have hq9 := Option.some.inj hf
    subst hq9
    subst hQ
    exact r_iret X hG dX7_count_55
  · replace hf := ite_f hf hk1_0
    by_cases hk1_1 : a1 = 1
    · replace hf := ite_t hf hk1_1
      refine r_tsi (tgt := 56) (off := 55) X dX7_count_1 hk1_1 (by decide +kernel) (by decide +kernel) (by decide) ?_
      refine lv_aload_n hx hb dX7_count_56 rfl (lv_at hl 0 rfl) ?_
      refine G_7_26 X hG 0 rfl dX7_count_57 ?_
      refine G_7_184 X hG 3 rfl dX7_count_60 ?_
      have hq9 := Option.some.inj hf
      subst hq9
      subst hQ
      exact r_iret X hG dX7_count_63
    · replace hf := ite_f hf hk1_1
      by_cases hk1_2 : a1 = 2
      · replace hf := ite_t hf hk1_2
        refine r_tsi (tgt := 64) (off := 63) X dX7_count_1 hk1_2 (by decide +kernel) (by decide +kernel) (by decide) ?_
        refine lv_aload_n hx hb dX7_count_64 rfl (lv_at hl 0 rfl) ?_
        refine G_7_36 X hG 0 rfl dX7_count_65 ?_
        have hq9 := Option.some.inj hf
        subst hq9
        subst hQ
        exact r_iret X hG dX7_count_68
      · replace hf := ite_f hf hk1_2
        by_cases hk1_3 : a1 = 3
        · replace hf := ite_t hf hk1_3
          refine r_tsi (tgt := 69) (off := 68) X dX7_count_1 hk1_3 (by decide +kernel) (by decide +kernel) (by decide) ?_
          refine lv_aload_n hx hb dX7_count_69 rfl (lv_at hl 0 rfl) ?_
          refine G_7_10 X hG 0 rfl dX7_count_70 ?_
          refine G_7_122 X hG 1 rfl dX7_count_73 ?_
          have hq9 := Option.some.inj hf
          subst hq9
          subst hQ
          exact r_iret X hG dX7_count_76
        · replace hf := ite_f hf hk1_3
          by_cases hk1_4 : a1 = 4
          · replace hf := ite_t hf hk1_4
            refine r_tsi (tgt := 77) (off := 76) X dX7_count_1 hk1_4 (by decide +kernel) (by decide +kernel) (by decide) ?_
            refine lv_aload_n hx hb dX7_count_77 rfl (lv_at hl 0 rfl) ?_
            refine G_7_60 X hG 0 rfl dX7_count_78 ?_
            have hq9 := Option.some.inj hf
            subst hq9
            subst hQ
            exact r_iret X hG dX7_count_81
          · replace hf := ite_f hf hk1_4
            by_cases hk1_5 : a1 = 5
            · replace hf := ite_t hf hk1_5
              refine r_tsi (tgt := 82) (off := 81) X dX7_count_1 hk1_5 (by decide +kernel) (by decide +kernel) (by decide) ?_
              refine lv_aload_n hx hb dX7_count_82 rfl (lv_at hl 0 rfl) ?_
              refine G_7_50 X hG 0 rfl dX7_count_83 ?_
              refine G_7_158 X hG 6 rfl dX7_count_86 ?_
              have hq9 := Option.some.inj hf
              subst hq9
              subst hQ
              exact r_iret X hG dX7_count_89
            · replace hf := ite_f hf hk1_5
              by_cases hk1_6 : a1 = 6
              · replace hf := ite_t hf hk1_6
                refine r_tsi (tgt := 90) (off := 89) X dX7_count_1 hk1_6 (by decide +kernel) (by decide +kernel) (by decide) ?_
                refine lv_aload_n hx hb dX7_count_90 rfl (lv_at hl 0 rfl) ?_
                refine G_7_10 X hG 0 rfl dX7_count_91 ?_
                refine G_7_164 X hG 1 rfl dX7_count_94 ?_
                have hq9 := Option.some.inj hf
                subst hq9
                subst hQ
                exact r_iret X hG dX7_count_97
              · replace hf := ite_f hf hk1_6
                by_cases hk1_7 : a1 = 7
                · replace hf := ite_t hf hk1_7
                  refine r_tsi (tgt := 98) (off := 97) X dX7_count_1 hk1_7 (by decide +kernel) (by decide +kernel) (by decide) ?_
                  refine lv_aload_n hx hb dX7_count_98 rfl (lv_at hl 0 rfl) ?_
                  refine G_7_10 X hG 0 rfl dX7_count_99 ?_
                  obtain ⟨q2, hq2, hf⟩ := cl_inv hf
                  refine r_callVi (bc := [wX2 g (a 0 0) (a 1) c.2.1]) (br := [wX7 g o a nw c.1, wX2 g (a 0 1) (a 2) c.2.2.1, wX0 g (a 0 3) (a 3) c.2.2.2.1, wYs g a nw c.2.2.2.2.1, wX6 g (a 0 6) (a 6) c.2.2.2.2.2.1, wX4 g (a 0 7) (a 9) c.2.2.2.2.2.2.1, wTs g a c.2.2.2.2.2.2.2.1, wSs g a c.2.2.2.2.2.2.2.2.1, wX1 g (a 0 11) (a 5) c.2.2.2.2.2.2.2.2.2.1, wF g (a 5 3) 6 c.2.2.2.2.2.2.2.2.2.2]) (bs' := [wX7 g o a nw c.1, wX2 g (a 0 0) (a 1) c.2.1, wX2 g (a 0 1) (a 2) c.2.2.1, wX0 g (a 0 3) (a 3) c.2.2.2.1, wYs g a nw c.2.2.2.2.1, wX6 g (a 0 6) (a 6) c.2.2.2.2.2.1, wX4 g (a 0 7) (a 9) c.2.2.2.2.2.2.1, wTs g a c.2.2.2.2.2.2.2.1, wSs g a c.2.2.2.2.2.2.2.2.1, wX1 g (a 0 11) (a 5) c.2.2.2.2.2.2.2.2.2.1, wF g (a 5 3) 6 c.2.2.2.2.2.2.2.2.2.2]) (As := []) (rest := []) X hG hl.1 (c_X2_allUp g l (a 0 0) (a 1) n c.2.1 q2 hq2) ((blk_perm2 [1, 0, 2, 3, 4, 5, 6, 7, 8, 9, 10] 11 rfl rfl (by decide)).flatten) ((blk_perm2 [1, 0, 2, 3, 4, 5, 6, 7, 8, 9, 10] 11 rfl rfl (by decide)).flatten) lk_X2_allUp lv_X2_allUp ml_7_213 (j := 1) (k := 0) rfl rfl rfl rfl rfl ⟨Nat.le_of_ble_eq_true rfl, Nat.le_of_ble_eq_true rfl⟩ rfl rfl (Nat.le_of_ble_eq_true rfl) ⟨Nat.zero_le _, Nat.zero_le _⟩ dX7_count_102 (fun H locs hG => ?_)
                  have hq9 := Option.some.inj hf
                  subst hq9
                  subst hQ
                  exact r_iret X hG dX7_count_105
                · replace hf := ite_f hf hk1_7
                  refine r_tso (tgt := 106) X dX7_count_1 (ks := [0, 1, 2, 3, 4, 5, 6, 7]) (List.forall_mem_cons.mpr ⟨hk1_0, List.forall_mem_cons.mpr ⟨hk1_1, List.forall_mem_cons.mpr ⟨hk1_2, List.forall_mem_cons.mpr ⟨hk1_3, List.forall_mem_cons.mpr ⟨hk1_4, List.forall_mem_cons.mpr ⟨hk1_5, List.forall_mem_cons.mpr ⟨hk1_6, List.forall_mem_cons.mpr ⟨hk1_7, List.forall_mem_nil _⟩⟩⟩⟩⟩⟩⟩⟩) (by decide +kernel) (by decide) ?_
                  refine lv_bipush (v := (-2)) hx hb dX7_count_106 (by decide) ?_
                  have hq9 := Option.some.inj hf
                  subst hq9
                  subst hQ
                  exact r_iret X hG dX7_count_108
def rmX7_taken : Room := { frames := 2, cells := 0, slots := 0, locals := 45 }
set_option maxHeartbeats 4000000 in
set_option maxRecDepth 100000 in
theorem c_X7_taken (g : GT) (l : Launch) (o : Nat) (a : Nat → Nat → Nat) (nw : Nat) (n : Nat) (a1 : Int32) (a2 : Int32) (c : CS) (q : Int32) (hf : f_X7_taken n nw a1 a2 c = some q) : CI g l yX7_taken cX7_taken 4 (some .int) rmX7_taken [.ref o, .int a1, .int a2] (wC g o a nw c) q (wC g o a nw c) := by
  refine CI_intro RX7 rfl (by decide +kernel) (Nat.le_of_ble_eq_true rfl) ?_
  intro p e s m args below meth c9 A ls Q hQ X hl hG
  have hl : lv_has ls 4 [(0, .ref o), (1, .int a1), (2, .int a2)] := hl
  have hG : GM g A s.heap s.heap [] [wX7 g o a nw c.1, wX2 g (a 0 0) (a 1) c.2.1, wX2 g (a 0 1) (a 2) c.2.2.1, wX0 g (a 0 3) (a 3) c.2.2.2.1, wYs g a nw c.2.2.2.2.1, wX6 g (a 0 6) (a 6) c.2.2.2.2.2.1, wX4 g (a 0 7) (a 9) c.2.2.2.2.2.2.1, wTs g a c.2.2.2.2.2.2.2.1, wSs g a c.2.2.2.2.2.2.2.2.1, wX1 g (a 0 11) (a 5) c.2.2.2.2.2.2.2.2.2.1, wF g (a 5 3) 6 c.2.2.2.2.2.2.2.2.2.2] := hG
  have hx := X.1
  have hb := X.2.1
  have hown := X.2.2.2.1
  unfold f_X7_taken at hf
  refine lv_iload_n hx hb dX7_taken_0 rfl (lv_at hl 2 rfl) ?_
  refine lv_iconst (v := 0) hx hb dX7_taken_1 (by decide) ?_
  refine lv_iconst (v := 5) hx hb dX7_taken_2 (by decide) ?_
  obtain ⟨q1, hq1, hf⟩ := cl_inv hf
  refine r_callSi (bc := []) (br := [wX7 g o a nw c.1, wX2 g (a 0 0) (a 1) c.2.1, wX2 g (a 0 1) (a 2) c.2.2.1, wX0 g (a 0 3) (a 3) c.2.2.2.1, wYs g a nw c.2.2.2.2.1, wX6 g (a 0 6) (a 6) c.2.2.2.2.2.1, wX4 g (a 0 7) (a 9) c.2.2.2.2.2.2.1, wTs g a c.2.2.2.2.2.2.2.1, wSs g a c.2.2.2.2.2.2.2.2.1, wX1 g (a 0 11) (a 5) c.2.2.2.2.2.2.2.2.2.1, wF g (a 5 3) 6 c.2.2.2.2.2.2.2.2.2.2]) (bs' := [wX7 g o a nw c.1, wX2 g (a 0 0) (a 1) c.2.1, wX2 g (a 0 1) (a 2) c.2.2.1, wX0 g (a 0 3) (a 3) c.2.2.2.1, wYs g a nw c.2.2.2.2.1, wX6 g (a 0 6) (a 6) c.2.2.2.2.2.1, wX4 g (a 0 7) (a 9) c.2.2.2.2.2.2.1, wTs g a c.2.2.2.2.2.2.2.1, wSs g a c.2.2.2.2.2.2.2.2.1, wX1 g (a 0 11) (a 5) c.2.2.2.2.2.2.2.2.2.1, wF g (a 5 3) 6 c.2.2.2.2.2.2.2.2.2.2]) (As := [.int a2, .int 0, .int 5]) (rest := []) X hG hl.1 (c_X7_between g l n a2 0 5 q1 hq1) (List.Perm.refl _) (List.Perm.refl _) lk_X7_between ls_X7_between ml_7_106 rfl rfl ⟨Nat.le_of_ble_eq_true rfl, Nat.le_of_ble_eq_true rfl⟩ rfl rfl (Nat.le_of_ble_eq_true rfl) ⟨Nat.zero_le _, Nat.zero_le _⟩ dX7_taken_3 (fun H locs hG => ?_)
  refine lv_if_ne (tgt := 12) hx hb dX7_taken_6 (by decide) (fun hc2 => ?_) (fun hc2 => ?_)
  · replace hf := ite_f hf hc2
    refine lv_aload_n hx hb dX7_taken_12 rfl (lv_at hl 0 rfl) ?_
    refine lv_iload_n hx hb dX7_taken_13 rfl (lv_at hl 1 rfl) ?_
    obtain ⟨q3, hq3, hf⟩ := cl_inv hf
    refine r_callVq (bc := [wX7 g o a nw c.1, wX2 g (a 0 0) (a 1) c.2.1, wX2 g (a 0 1) (a 2) c.2.2.1, wX0 g (a 0 3) (a 3) c.2.2.2.1, wYs g a nw c.2.2.2.2.1, wX6 g (a 0 6) (a 6) c.2.2.2.2.2.1, wX4 g (a 0 7) (a 9) c.2.2.2.2.2.2.1, wTs g a c.2.2.2.2.2.2.2.1, wSs g a c.2.2.2.2.2.2.2.2.1, wX1 g (a 0 11) (a 5) c.2.2.2.2.2.2.2.2.2.1, wF g (a 5 3) 6 c.2.2.2.2.2.2.2.2.2.2]) (br := []) (bs' := [wX7 g o a nw c.1, wX2 g (a 0 0) (a 1) c.2.1, wX2 g (a 0 1) (a 2) c.2.2.1, wX0 g (a 0 3) (a 3) c.2.2.2.1, wYs g a nw c.2.2.2.2.1, wX6 g (a 0 6) (a 6) c.2.2.2.2.2.1, wX4 g (a 0 7) (a 9) c.2.2.2.2.2.2.1, wTs g a c.2.2.2.2.2.2.2.1, wSs g a c.2.2.2.2.2.2.2.2.1, wX1 g (a 0 11) (a 5) c.2.2.2.2.2.2.2.2.2.1, wF g (a 5 3) 6 c.2.2.2.2.2.2.2.2.2.2]) (As := [.int a1]) (rest := []) X hG hl.1 (c_X7_wayAt g l o a nw n a1 (c.1, c.2.1, c.2.2.1, c.2.2.2.1, c.2.2.2.2.1, c.2.2.2.2.2.1, c.2.2.2.2.2.2.1, c.2.2.2.2.2.2.2.1, c.2.2.2.2.2.2.2.2.1, c.2.2.2.2.2.2.2.2.2.1, c.2.2.2.2.2.2.2.2.2.2) q3 hq3) (List.Perm.refl _) (List.Perm.refl _) lk_X7_wayAt lv_X7_wayAt ml_7_139 (j := 0) (k := 0) rfl rfl rfl rfl rfl ⟨Nat.le_of_ble_eq_true rfl, Nat.le_of_ble_eq_true rfl⟩ rfl rfl (Nat.le_of_ble_eq_true rfl) ⟨Nat.zero_le _, Nat.zero_le _⟩ dX7_taken_14 (fun H locs hG => ?_)
    rcases q3 with _ | w4
    · replace hf := oc_n hf
      refine W.eq (g2 := F0 m 17 ls [.null]) rfl ?_
      refine lv_astore_nN (lv' := [(3, .null), (0, .ref o), (1, .int a1), (2, .int a2)]) hx hb dX7_taken_17 rfl hl (by decide) rfl (fun ls hl => ?_)
      refine lv_aload_nN hx hb dX7_taken_18 rfl (lv_at hl 0 rfl) ?_
      refine lv_ifnonnullN hx hb dX7_taken_19 ?_
      refine lv_bipush (v := (-11)) hx hb dX7_taken_22 (by decide) ?_
      have hq9 := Option.some.inj hf
      subst hq9
      subst hQ
      exact r_iret X hG dX7_taken_24
    · replace hf := oc_s hf
      obtain ⟨hw5, hf⟩ := ck_inv hf
      replace hw5 := of_decide_eq_true hw5
      refine W.eq (g2 := F0 m 17 ls [.ref (a 4 w4)]) rfl ?_
      refine lv_astore_n (lv' := [(3, .ref (a 4 w4)), (0, .ref o), (1, .int a1), (2, .int a2)]) hx hb dX7_taken_17 rfl hl (by decide) rfl (fun ls hl => ?_)
      refine lv_aload_n hx hb dX7_taken_18 rfl (lv_at hl 0 rfl) ?_
      refine lv_ifnonnull (tgt := 25) hx hb dX7_taken_19 (by decide) ?_
      refine lv_aload_n hx hb dX7_taken_25 rfl (lv_at hl 0 rfl) ?_
      refine lv_iload_n hx hb dX7_taken_26 rfl (lv_at hl 3 rfl) ?_
      obtain ⟨q6, hq6, hf⟩ := cl_inv hf
      refine r_callVi (bc := [wX6 g (a 4 w4) (a 6) (wy c.2.2.2.2.1 w4)]) (br := [wX7 g o a nw c.1, wX2 g (a 0 0) (a 1) c.2.1, wX2 g (a 0 1) (a 2) c.2.2.1, wX0 g (a 0 3) (a 3) c.2.2.2.1, (wYs g a nw c.2.2.2.2.1).eraseIdx w4, wX6 g (a 0 6) (a 6) c.2.2.2.2.2.1, wX4 g (a 0 7) (a 9) c.2.2.2.2.2.2.1, wTs g a c.2.2.2.2.2.2.2.1, wSs g a c.2.2.2.2.2.2.2.2.1, wX1 g (a 0 11) (a 5) c.2.2.2.2.2.2.2.2.2.1, wF g (a 5 3) 6 c.2.2.2.2.2.2.2.2.2.2]) (bs' := [wX7 g o a nw c.1, wX2 g (a 0 0) (a 1) c.2.1, wX2 g (a 0 1) (a 2) c.2.2.1, wX0 g (a 0 3) (a 3) c.2.2.2.1, wYs g a nw c.2.2.2.2.1, wX6 g (a 0 6) (a 6) c.2.2.2.2.2.1, wX4 g (a 0 7) (a 9) c.2.2.2.2.2.2.1, wTs g a c.2.2.2.2.2.2.2.1, wSs g a c.2.2.2.2.2.2.2.2.1, wX1 g (a 0 11) (a 5) c.2.2.2.2.2.2.2.2.2.1, wF g (a 5 3) 6 c.2.2.2.2.2.2.2.2.2.2]) (As := [.int a2]) (rest := []) X hG hl.1 (c_X6_isUnder g l (a 4 w4) (a 6) n a2 (wy c.2.2.2.2.1 w4) q6 hq6) ((focus_perm 4 rfl (Y_focus hw5)).trans (blk_perm2 [4, 0, 1, 2, 3, 5, 6, 7, 8, 9, 10, 11] 12 rfl rfl (by decide)).flatten) ((blk_perm2 [1, 2, 3, 4, 0, 5, 6, 7, 8, 9, 10, 11] 12 rfl rfl (by decide)).flatten.trans (focus_perm 4 rfl (Y_focus hw5)).symm) lk_X6_isUnder lv_X6_isUnder ml_7_269 (j := 4) (k := w4) rfl (Y_get hw5) rfl rfl rfl ⟨Nat.le_of_ble_eq_true rfl, Nat.le_of_ble_eq_true rfl⟩ rfl rfl (Nat.le_of_ble_eq_true rfl) ⟨Nat.zero_le _, Nat.zero_le _⟩ dX7_taken_27 (fun H locs hG => ?_)
      refine lv_if_eq (tgt := 40) hx hb dX7_taken_30 (by decide) (fun hc7 => ?_) (fun hc7 => ?_)
      · replace hf := ite_t hf hc7
        refine lv_bipush (v := (-13)) hx hb dX7_taken_40 (by decide) ?_
        have hq9 := Option.some.inj hf
        subst hq9
        subst hQ
        exact r_iret X hG dX7_taken_42
      · replace hf := ite_f hf hc7
        refine lv_aload_n hx hb dX7_taken_33 rfl (lv_at hl 0 rfl) ?_
        refine r_get X hG 4 w4 rfl (Y_get hw5) rfl 2 (by decide) inX6 (TW_at 169 (by decide +kernel) (by decide +kernel)) rfl dX7_taken_34 ?_
        refine lv_goto (tgt := 42) hx hb dX7_taken_37 (by decide) ?_
        have hq9 := Option.some.inj hf
        subst hq9
        subst hQ
        exact r_iret X hG dX7_taken_42
  · replace hf := ite_t hf hc2
    refine lv_bipush (v := (-2)) hx hb dX7_taken_9 (by decide) ?_
    have hq9 := Option.some.inj hf
    subst hq9
    subst hQ
    exact r_iret X hG dX7_taken_11
def rmX7_runDay : Room := { frames := 5, cells := 0, slots := 0, locals := 131 }
set_option maxHeartbeats 4000000 in
set_option maxRecDepth 100000 in
theorem c_X7_runDay (g : GT) (l : Launch) (o : Nat) (a : Nat → Nat → Nat) (nw : Nat) (n : Nat) (a1 : Nat) (c : CS) (q : CS) (hf : f_X7_runDay n nw a1 c = some q) (ha1 : a1 < nw) : CV g l yX7_runDay cX7_runDay 2 none rmX7_runDay [.ref o, .ref (a 4 a1)] (wC g o a nw c) (wC g o a nw q) := by
  refine CV_intro RX7 rfl (by decide +kernel) (Nat.le_of_ble_eq_true rfl) ?_
  intro p e s m args below meth c9 A ls Q hQ X hl hG
  have hl : lv_has ls 2 [(0, .ref o), (1, .ref (a 4 a1))] := hl
  have hG : GM g A s.heap s.heap [] [wX7 g o a nw c.1, wX2 g (a 0 0) (a 1) c.2.1, wX2 g (a 0 1) (a 2) c.2.2.1, wX0 g (a 0 3) (a 3) c.2.2.2.1, wYs g a nw c.2.2.2.2.1, wX6 g (a 0 6) (a 6) c.2.2.2.2.2.1, wX4 g (a 0 7) (a 9) c.2.2.2.2.2.2.1, wTs g a c.2.2.2.2.2.2.2.1, wSs g a c.2.2.2.2.2.2.2.2.1, wX1 g (a 0 11) (a 5) c.2.2.2.2.2.2.2.2.2.1, wF g (a 5 3) 6 c.2.2.2.2.2.2.2.2.2.2] := hG
  have hx := X.1
  have hb := X.2.1
  have hown := X.2.2.2.1
  unfold f_X7_runDay at hf
  refine lv_aload_n hx hb dX7_runDay_0 rfl (lv_at hl 0 rfl) ?_
  refine G_7_72 X hG 0 rfl dX7_runDay_1 ?_
  refine lv_aload_n hx hb dX7_runDay_4 rfl (lv_at hl 1 rfl) ?_
  refine lv_aload_n hx hb dX7_runDay_5 rfl (lv_at hl 1 rfl) ?_
  refine r_get X hG 4 a1 rfl (Y_get ha1) rfl 1 (by decide) inX6 (TW_at 167 (by decide +kernel) (by decide +kernel)) rfl dX7_runDay_6 ?_
  refine lv_aload_n hx hb dX7_runDay_9 rfl (lv_at hl 0 rfl) ?_
  refine G_7_10 X hG 0 rfl dX7_runDay_10 ?_
  obtain ⟨q1, hq1, hf⟩ := cl_inv hf
  refine r_callVv (bc := [wX1 g (a 0 11) (a 5) c.2.2.2.2.2.2.2.2.2.1, wX6 g (a 4 a1) (a 6) (wy c.2.2.2.2.1 a1), wX2 g (a 0 0) (a 1) c.2.1]) (br := [wX7 g o a nw c.1, wX2 g (a 0 1) (a 2) c.2.2.1, wX0 g (a 0 3) (a 3) c.2.2.2.1, (wYs g a nw c.2.2.2.2.1).eraseIdx a1, wX6 g (a 0 6) (a 6) c.2.2.2.2.2.1, wX4 g (a 0 7) (a 9) c.2.2.2.2.2.2.1, wTs g a c.2.2.2.2.2.2.2.1, wSs g a c.2.2.2.2.2.2.2.2.1, wF g (a 5 3) 6 c.2.2.2.2.2.2.2.2.2.2]) (bs' := [wX7 g o a nw c.1, wX2 g (a 0 0) (a 1) c.2.1, wX2 g (a 0 1) (a 2) c.2.2.1, wX0 g (a 0 3) (a 3) c.2.2.2.1, wYs g a nw c.2.2.2.2.1, wX6 g (a 0 6) (a 6) c.2.2.2.2.2.1, wX4 g (a 0 7) (a 9) c.2.2.2.2.2.2.1, wTs g a c.2.2.2.2.2.2.2.1, wSs g a c.2.2.2.2.2.2.2.2.1, wX1 g (a 0 11) (a 5) q1, wF g (a 5 3) 6 c.2.2.2.2.2.2.2.2.2.2]) (As := [.ref (a 4 a1), .int (c.2.2.2.2.1.2 1 a1), .ref (a 0 0)]) (rest := []) X hG hl.1 (c_X1_hearWay g l (a 0 11) (a 5) (a 4 a1) (a 6) (a 0 0) (a 1) n (c.2.2.2.2.1.2 1 a1) c.2.2.2.2.2.2.2.2.2.1 (wy c.2.2.2.2.1 a1) c.2.1 q1 hq1) ((focus_perm 4 rfl (Y_focus ha1)).trans (blk_perm2 [10, 4, 1, 0, 2, 3, 5, 6, 7, 8, 9, 11] 12 rfl rfl (by decide)).flatten) ((blk_perm2 [3, 2, 4, 5, 1, 6, 7, 8, 9, 10, 0, 11] 12 rfl rfl (by decide)).flatten.trans (focus_perm 4 rfl (Y_focus ha1)).symm) lk_X1_hearWay lv_X1_hearWay ml_7_231 (j := 9) (k := 0) rfl rfl rfl rfl rfl ⟨Nat.le_of_ble_eq_true rfl, Nat.le_of_ble_eq_true rfl⟩ rfl rfl (Nat.le_of_ble_eq_true rfl) ⟨Nat.zero_le _, Nat.zero_le _⟩ dX7_runDay_13 (fun H locs hG => ?_)
  refine lv_aload_n hx hb dX7_runDay_16 rfl (lv_at hl 0 rfl) ?_
  refine G_7_72 X hG 0 rfl dX7_runDay_17 ?_
  refine lv_aload_n hx hb dX7_runDay_20 rfl (lv_at hl 0 rfl) ?_
  refine G_7_10 X hG 0 rfl dX7_runDay_21 ?_
  refine lv_aload_n hx hb dX7_runDay_24 rfl (lv_at hl 0 rfl) ?_
  refine G_7_26 X hG 0 rfl dX7_runDay_25 ?_
  refine lv_aload_n hx hb dX7_runDay_28 rfl (lv_at hl 0 rfl) ?_
  refine G_7_26 X hG 0 rfl dX7_runDay_29 ?_
  refine G_7_184 X hG 3 rfl dX7_runDay_32 ?_
  refine lv_aload_n hx hb dX7_runDay_35 rfl (lv_at hl 0 rfl) ?_
  refine G_7_56 X hG 0 rfl dX7_runDay_36 ?_
  refine lv_aload_n hx hb dX7_runDay_39 rfl (lv_at hl 0 rfl) ?_
  refine G_7_10 X hG 0 rfl dX7_runDay_40 ?_
  refine G_7_164 X hG 1 rfl dX7_runDay_43 ?_
  refine r_aaldq 3 X hG 0 2 rfl rfl rfl hf dX7_runDay_46 (fun hb2 hf => ?_)
  refine W.eq (g2 := F0 m 47 ls [.ref (a 7 (Int32.toNatClampNeg (c.2.1.1 9))), .int (c.2.2.2.1.1 0), .ref (a 0 3), .ref (a 0 0), .ref (a 0 11)]) rfl ?_
  obtain ⟨q3, hq3, hf⟩ := cl_inv hf
  refine r_callVv (bc := [wX1 g (a 0 11) (a 5) q1, wF g (a 5 3) 6 c.2.2.2.2.2.2.2.2.2.2, wX2 g (a 0 0) (a 1) c.2.1, wX0 g (a 0 3) (a 3) c.2.2.2.1, wX5 g (a 7 (Int32.toNatClampNeg (c.2.1.1 9))) (a (20 + (Int32.toNatClampNeg (c.2.1.1 9)))) (c.2.2.2.2.2.2.2.1 (Int32.toNatClampNeg (c.2.1.1 9)))]) (br := [wX7 g o a nw c.1, wX2 g (a 0 1) (a 2) c.2.2.1, wYs g a nw c.2.2.2.2.1, wX6 g (a 0 6) (a 6) c.2.2.2.2.2.1, wX4 g (a 0 7) (a 9) c.2.2.2.2.2.2.1, wTsR g a c.2.2.2.2.2.2.2.1 (Int32.toNatClampNeg (c.2.1.1 9)), wSs g a c.2.2.2.2.2.2.2.2.1]) (bs' := [wX7 g o a nw c.1, wX2 g (a 0 0) (a 1) c.2.1, wX2 g (a 0 1) (a 2) c.2.2.1, wX0 g (a 0 3) (a 3) c.2.2.2.1, wYs g a nw c.2.2.2.2.1, wX6 g (a 0 6) (a 6) c.2.2.2.2.2.1, wX4 g (a 0 7) (a 9) c.2.2.2.2.2.2.1, wTs g a (va_up c.2.2.2.2.2.2.2.1 (Int32.toNatClampNeg (c.2.1.1 9)) q3.2.2), wSs g a c.2.2.2.2.2.2.2.2.1, wX1 g (a 0 11) (a 5) q3.1, wF g (a 5 3) 6 q3.2.1]) (As := [.ref (a 0 0), .ref (a 0 3), .int (c.2.2.2.1.1 0), .ref (a 7 (Int32.toNatClampNeg (c.2.1.1 9)))]) (rest := []) X hG hl.1 (c_X1_run g l (a 0 11) (a 5) (a 0 0) (a 1) (a 0 3) (a 3) (a 7 (Int32.toNatClampNeg (c.2.1.1 9))) (a (20 + (Int32.toNatClampNeg (c.2.1.1 9)))) n (c.2.2.2.1.1 0) q1 c.2.2.2.2.2.2.2.2.2.2 c.2.1 c.2.2.2.1 (c.2.2.2.2.2.2.2.1 (Int32.toNatClampNeg (c.2.1.1 9))) q3 hq3) ((focus_perm 7 rfl (T_focus (ib_lt hb2))).trans (blk_perm2 [10, 11, 1, 3, 7, 0, 2, 4, 5, 6, 8, 9] 12 rfl rfl (by decide)).flatten) ((blk_perm2 [5, 2, 6, 3, 7, 8, 9, 4, 10, 11, 0, 1] 12 rfl rfl (by decide)).flatten.trans (focus_perm 7 rfl (T_focus2 (ib_lt hb2) _ _)).symm) lk_X1_run lv_X1_run ml_7_239 (j := 9) (k := 0) rfl rfl rfl rfl rfl ⟨Nat.le_of_ble_eq_true rfl, Nat.le_of_ble_eq_true rfl⟩ rfl rfl (Nat.le_of_ble_eq_true rfl) ⟨Nat.zero_le _, Nat.zero_le _⟩ dX7_runDay_47 (fun H locs hG => ?_)
  have hq9 := Option.some.inj hf
  subst hq9
  subst hQ
  exact r_vret X hG dX7_runDay_50
def rmX7_leftBy : Room := { frames := 5, cells := 0, slots := 0, locals := 131 }
set_option maxHeartbeats 4000000 in
set_option maxRecDepth 100000 in
theorem c_X7_leftBy (g : GT) (l : Launch) (o : Nat) (a : Nat → Nat → Nat) (nw : Nat) (n : Nat) (a1 : Nat) (a2 : Int32) (a3 : Int32) (c : CS) (q : Int32 × CS) (hf : f_X7_leftBy n nw a1 a2 a3 c = some q) (ha1 : a1 < nw) : CI g l yX7_leftBy cX7_leftBy 4 (some .int) rmX7_leftBy [.ref o, .ref (a 4 a1), .int a2, .int a3] (wC g o a nw c) q.1 (wC g o a nw q.2) := by
  refine CI_intro RX7 rfl (by decide +kernel) (Nat.le_of_ble_eq_true rfl) ?_
  intro p e s m args below meth c9 A ls Q hQ X hl hG
  have hl : lv_has ls 4 [(0, .ref o), (1, .ref (a 4 a1)), (2, .int a2), (3, .int a3)] := hl
  have hG : GM g A s.heap s.heap [] [wX7 g o a nw c.1, wX2 g (a 0 0) (a 1) c.2.1, wX2 g (a 0 1) (a 2) c.2.2.1, wX0 g (a 0 3) (a 3) c.2.2.2.1, wYs g a nw c.2.2.2.2.1, wX6 g (a 0 6) (a 6) c.2.2.2.2.2.1, wX4 g (a 0 7) (a 9) c.2.2.2.2.2.2.1, wTs g a c.2.2.2.2.2.2.2.1, wSs g a c.2.2.2.2.2.2.2.2.1, wX1 g (a 0 11) (a 5) c.2.2.2.2.2.2.2.2.2.1, wF g (a 5 3) 6 c.2.2.2.2.2.2.2.2.2.2] := hG
  have hx := X.1
  have hb := X.2.1
  have hown := X.2.2.2.1
  unfold f_X7_leftBy at hf
  refine lv_aload_n hx hb dX7_leftBy_0 rfl (lv_at hl 0 rfl) ?_
  refine G_7_72 X hG 0 rfl dX7_leftBy_1 ?_
  refine lv_aload_n hx hb dX7_leftBy_4 rfl (lv_at hl 1 rfl) ?_
  refine lv_iload_n hx hb dX7_leftBy_5 rfl (lv_at hl 2 rfl) ?_
  refine lv_aload_n hx hb dX7_leftBy_6 rfl (lv_at hl 0 rfl) ?_
  refine G_7_10 X hG 0 rfl dX7_leftBy_7 ?_
  obtain ⟨q1, hq1, hf⟩ := cl_inv hf
  refine r_callVv (bc := [wX1 g (a 0 11) (a 5) c.2.2.2.2.2.2.2.2.2.1, wX6 g (a 4 a1) (a 6) (wy c.2.2.2.2.1 a1), wX2 g (a 0 0) (a 1) c.2.1]) (br := [wX7 g o a nw c.1, wX2 g (a 0 1) (a 2) c.2.2.1, wX0 g (a 0 3) (a 3) c.2.2.2.1, (wYs g a nw c.2.2.2.2.1).eraseIdx a1, wX6 g (a 0 6) (a 6) c.2.2.2.2.2.1, wX4 g (a 0 7) (a 9) c.2.2.2.2.2.2.1, wTs g a c.2.2.2.2.2.2.2.1, wSs g a c.2.2.2.2.2.2.2.2.1, wF g (a 5 3) 6 c.2.2.2.2.2.2.2.2.2.2]) (bs' := [wX7 g o a nw c.1, wX2 g (a 0 0) (a 1) c.2.1, wX2 g (a 0 1) (a 2) c.2.2.1, wX0 g (a 0 3) (a 3) c.2.2.2.1, wYs g a nw c.2.2.2.2.1, wX6 g (a 0 6) (a 6) c.2.2.2.2.2.1, wX4 g (a 0 7) (a 9) c.2.2.2.2.2.2.1, wTs g a c.2.2.2.2.2.2.2.1, wSs g a c.2.2.2.2.2.2.2.2.1, wX1 g (a 0 11) (a 5) q1, wF g (a 5 3) 6 c.2.2.2.2.2.2.2.2.2.2]) (As := [.ref (a 4 a1), .int a2, .ref (a 0 0)]) (rest := []) X hG hl.1 (c_X1_hearWay g l (a 0 11) (a 5) (a 4 a1) (a 6) (a 0 0) (a 1) n a2 c.2.2.2.2.2.2.2.2.2.1 (wy c.2.2.2.2.1 a1) c.2.1 q1 hq1) ((focus_perm 4 rfl (Y_focus ha1)).trans (blk_perm2 [10, 4, 1, 0, 2, 3, 5, 6, 7, 8, 9, 11] 12 rfl rfl (by decide)).flatten) ((blk_perm2 [3, 2, 4, 5, 1, 6, 7, 8, 9, 10, 0, 11] 12 rfl rfl (by decide)).flatten.trans (focus_perm 4 rfl (Y_focus ha1)).symm) lk_X1_hearWay lv_X1_hearWay ml_7_231 (j := 9) (k := 0) rfl rfl rfl rfl rfl ⟨Nat.le_of_ble_eq_true rfl, Nat.le_of_ble_eq_true rfl⟩ rfl rfl (Nat.le_of_ble_eq_true rfl) ⟨Nat.zero_le _, Nat.zero_le _⟩ dX7_leftBy_10 (fun H locs hG => ?_)
  refine lv_aload_n hx hb dX7_leftBy_13 rfl (lv_at hl 0 rfl) ?_
  refine G_7_72 X hG 0 rfl dX7_leftBy_14 ?_
  refine lv_aload_n hx hb dX7_leftBy_17 rfl (lv_at hl 0 rfl) ?_
  refine G_7_10 X hG 0 rfl dX7_leftBy_18 ?_
  refine lv_aload_n hx hb dX7_leftBy_21 rfl (lv_at hl 0 rfl) ?_
  refine G_7_26 X hG 0 rfl dX7_leftBy_22 ?_
  refine lv_aload_n hx hb dX7_leftBy_25 rfl (lv_at hl 0 rfl) ?_
  refine G_7_26 X hG 0 rfl dX7_leftBy_26 ?_
  refine G_7_184 X hG 3 rfl dX7_leftBy_29 ?_
  refine lv_iload_n hx hb dX7_leftBy_32 rfl (lv_at hl 3 rfl) ?_
  refine lv_iadd hx hb dX7_leftBy_33 ?_
  refine lv_aload_n hx hb dX7_leftBy_34 rfl (lv_at hl 0 rfl) ?_
  refine G_7_56 X hG 0 rfl dX7_leftBy_35 ?_
  refine lv_aload_n hx hb dX7_leftBy_38 rfl (lv_at hl 0 rfl) ?_
  refine G_7_10 X hG 0 rfl dX7_leftBy_39 ?_
  refine G_7_164 X hG 1 rfl dX7_leftBy_42 ?_
  refine r_aaldq 3 X hG 0 2 rfl rfl rfl hf dX7_leftBy_45 (fun hb2 hf => ?_)
  refine W.eq (g2 := F0 m 46 ls [.ref (a 7 (Int32.toNatClampNeg (c.2.1.1 9))), .int ((c.2.2.2.1.1 0) + a3), .ref (a 0 3), .ref (a 0 0), .ref (a 0 11)]) rfl ?_
  obtain ⟨q3, hq3, hf⟩ := cl_inv hf
  refine r_callVv (bc := [wX1 g (a 0 11) (a 5) q1, wF g (a 5 3) 6 c.2.2.2.2.2.2.2.2.2.2, wX2 g (a 0 0) (a 1) c.2.1, wX0 g (a 0 3) (a 3) c.2.2.2.1, wX5 g (a 7 (Int32.toNatClampNeg (c.2.1.1 9))) (a (20 + (Int32.toNatClampNeg (c.2.1.1 9)))) (c.2.2.2.2.2.2.2.1 (Int32.toNatClampNeg (c.2.1.1 9)))]) (br := [wX7 g o a nw c.1, wX2 g (a 0 1) (a 2) c.2.2.1, wYs g a nw c.2.2.2.2.1, wX6 g (a 0 6) (a 6) c.2.2.2.2.2.1, wX4 g (a 0 7) (a 9) c.2.2.2.2.2.2.1, wTsR g a c.2.2.2.2.2.2.2.1 (Int32.toNatClampNeg (c.2.1.1 9)), wSs g a c.2.2.2.2.2.2.2.2.1]) (bs' := [wX7 g o a nw c.1, wX2 g (a 0 0) (a 1) c.2.1, wX2 g (a 0 1) (a 2) c.2.2.1, wX0 g (a 0 3) (a 3) c.2.2.2.1, wYs g a nw c.2.2.2.2.1, wX6 g (a 0 6) (a 6) c.2.2.2.2.2.1, wX4 g (a 0 7) (a 9) c.2.2.2.2.2.2.1, wTs g a (va_up c.2.2.2.2.2.2.2.1 (Int32.toNatClampNeg (c.2.1.1 9)) q3.2.2), wSs g a c.2.2.2.2.2.2.2.2.1, wX1 g (a 0 11) (a 5) q3.1, wF g (a 5 3) 6 q3.2.1]) (As := [.ref (a 0 0), .ref (a 0 3), .int ((c.2.2.2.1.1 0) + a3), .ref (a 7 (Int32.toNatClampNeg (c.2.1.1 9)))]) (rest := []) X hG hl.1 (c_X1_run g l (a 0 11) (a 5) (a 0 0) (a 1) (a 0 3) (a 3) (a 7 (Int32.toNatClampNeg (c.2.1.1 9))) (a (20 + (Int32.toNatClampNeg (c.2.1.1 9)))) n ((c.2.2.2.1.1 0) + a3) q1 c.2.2.2.2.2.2.2.2.2.2 c.2.1 c.2.2.2.1 (c.2.2.2.2.2.2.2.1 (Int32.toNatClampNeg (c.2.1.1 9))) q3 hq3) ((focus_perm 7 rfl (T_focus (ib_lt hb2))).trans (blk_perm2 [10, 11, 1, 3, 7, 0, 2, 4, 5, 6, 8, 9] 12 rfl rfl (by decide)).flatten) ((blk_perm2 [5, 2, 6, 3, 7, 8, 9, 4, 10, 11, 0, 1] 12 rfl rfl (by decide)).flatten.trans (focus_perm 7 rfl (T_focus2 (ib_lt hb2) _ _)).symm) lk_X1_run lv_X1_run ml_7_239 (j := 9) (k := 0) rfl rfl rfl rfl rfl ⟨Nat.le_of_ble_eq_true rfl, Nat.le_of_ble_eq_true rfl⟩ rfl rfl (Nat.le_of_ble_eq_true rfl) ⟨Nat.zero_le _, Nat.zero_le _⟩ dX7_leftBy_46 (fun H locs hG => ?_)
  refine lv_aload_n hx hb dX7_leftBy_49 rfl (lv_at hl 0 rfl) ?_
  refine G_7_72 X hG 0 rfl dX7_leftBy_50 ?_
  refine lv_aload_n hx hb dX7_leftBy_53 rfl (lv_at hl 0 rfl) ?_
  refine G_7_10 X hG 0 rfl dX7_leftBy_54 ?_
  refine lv_iconst (v := (-1)) hx hb dX7_leftBy_57 (by decide) ?_
  obtain ⟨q4, hq4, hf⟩ := cl_inv hf
  refine r_callVi (bc := [wX1 g (a 0 11) (a 5) q3.1, wX2 g (a 0 0) (a 1) c.2.1]) (br := [wX7 g o a nw c.1, wX2 g (a 0 1) (a 2) c.2.2.1, wX0 g (a 0 3) (a 3) c.2.2.2.1, wYs g a nw c.2.2.2.2.1, wX6 g (a 0 6) (a 6) c.2.2.2.2.2.1, wX4 g (a 0 7) (a 9) c.2.2.2.2.2.2.1, wTs g a (va_up c.2.2.2.2.2.2.2.1 (Int32.toNatClampNeg (c.2.1.1 9)) q3.2.2), wSs g a c.2.2.2.2.2.2.2.2.1, wF g (a 5 3) 6 q3.2.1]) (bs' := [wX7 g o a nw c.1, wX2 g (a 0 0) (a 1) c.2.1, wX2 g (a 0 1) (a 2) c.2.2.1, wX0 g (a 0 3) (a 3) c.2.2.2.1, wYs g a nw c.2.2.2.2.1, wX6 g (a 0 6) (a 6) c.2.2.2.2.2.1, wX4 g (a 0 7) (a 9) c.2.2.2.2.2.2.1, wTs g a (va_up c.2.2.2.2.2.2.2.1 (Int32.toNatClampNeg (c.2.1.1 9)) q3.2.2), wSs g a c.2.2.2.2.2.2.2.2.1, wX1 g (a 0 11) (a 5) q3.1, wF g (a 5 3) 6 q3.2.1]) (As := [.ref (a 0 0), .int (-1)]) (rest := []) X hG hl.1 (c_X1_leftOf g l (a 0 11) (a 5) (a 0 0) (a 1) n (-1) q3.1 c.2.1 q4 hq4) ((blk_perm2 [9, 1, 0, 2, 3, 4, 5, 6, 7, 8, 10] 11 rfl rfl (by decide)).flatten) ((blk_perm2 [2, 1, 3, 4, 5, 6, 7, 8, 9, 0, 10] 11 rfl rfl (by decide)).flatten) lk_X1_leftOf lv_X1_leftOf ml_7_174 (j := 9) (k := 0) rfl rfl rfl rfl rfl ⟨Nat.le_of_ble_eq_true rfl, Nat.le_of_ble_eq_true rfl⟩ rfl rfl (Nat.le_of_ble_eq_true rfl) ⟨Nat.zero_le _, Nat.zero_le _⟩ dX7_leftBy_58 (fun H locs hG => ?_)
  have hq9 := Option.some.inj hf
  subst hq9
  subst hQ
  exact r_iret X hG dX7_leftBy_61
def rmX7_people : Room := { frames := 3, cells := 0, slots := 0, locals := 68 }
set_option maxHeartbeats 4000000 in
set_option maxRecDepth 100000 in
theorem c_X7_people (g : GT) (l : Launch) (o : Nat) (a : Nat → Nat → Nat) (nw : Nat) (n : Nat) (a1 : Int32) (a2 : Int32) (c : CS) (q : Int32 × CS) (hf : f_X7_people n nw a1 a2 c = some q) : CI g l yX7_people cX7_people 3 (some .int) rmX7_people [.ref o, .int a1, .int a2] (wC g o a nw c) q.1 (wC g o a nw q.2) := by
  refine CI_intro RX7 rfl (by decide +kernel) (Nat.le_of_ble_eq_true rfl) ?_
  intro p e s m args below meth c9 A ls Q hQ X hl hG
  have hl : lv_has ls 3 [(0, .ref o), (1, .int a1), (2, .int a2)] := hl
  have hG : GM g A s.heap s.heap [] [wX7 g o a nw c.1, wX2 g (a 0 0) (a 1) c.2.1, wX2 g (a 0 1) (a 2) c.2.2.1, wX0 g (a 0 3) (a 3) c.2.2.2.1, wYs g a nw c.2.2.2.2.1, wX6 g (a 0 6) (a 6) c.2.2.2.2.2.1, wX4 g (a 0 7) (a 9) c.2.2.2.2.2.2.1, wTs g a c.2.2.2.2.2.2.2.1, wSs g a c.2.2.2.2.2.2.2.2.1, wX1 g (a 0 11) (a 5) c.2.2.2.2.2.2.2.2.2.1, wF g (a 5 3) 6 c.2.2.2.2.2.2.2.2.2.2] := hG
  have hx := X.1
  have hb := X.2.1
  have hown := X.2.2.2.1
  unfold f_X7_people at hf
  refine lv_aload_n hx hb dX7_people_0 rfl (lv_at hl 0 rfl) ?_
  refine G_7_10 X hG 0 rfl dX7_people_1 ?_
  refine lv_iload_n hx hb dX7_people_4 rfl (lv_at hl 1 rfl) ?_
  refine lv_iload_n hx hb dX7_people_5 rfl (lv_at hl 2 rfl) ?_
  obtain ⟨q1, hq1, hf⟩ := cl_inv hf
  refine r_callVi (bc := [wX2 g (a 0 0) (a 1) c.2.1]) (br := [wX7 g o a nw c.1, wX2 g (a 0 1) (a 2) c.2.2.1, wX0 g (a 0 3) (a 3) c.2.2.2.1, wYs g a nw c.2.2.2.2.1, wX6 g (a 0 6) (a 6) c.2.2.2.2.2.1, wX4 g (a 0 7) (a 9) c.2.2.2.2.2.2.1, wTs g a c.2.2.2.2.2.2.2.1, wSs g a c.2.2.2.2.2.2.2.2.1, wX1 g (a 0 11) (a 5) c.2.2.2.2.2.2.2.2.2.1, wF g (a 5 3) 6 c.2.2.2.2.2.2.2.2.2.2]) (bs' := [wX7 g o a nw c.1, wX2 g (a 0 0) (a 1) q1.2, wX2 g (a 0 1) (a 2) c.2.2.1, wX0 g (a 0 3) (a 3) c.2.2.2.1, wYs g a nw c.2.2.2.2.1, wX6 g (a 0 6) (a 6) c.2.2.2.2.2.1, wX4 g (a 0 7) (a 9) c.2.2.2.2.2.2.1, wTs g a c.2.2.2.2.2.2.2.1, wSs g a c.2.2.2.2.2.2.2.2.1, wX1 g (a 0 11) (a 5) c.2.2.2.2.2.2.2.2.2.1, wF g (a 5 3) 6 c.2.2.2.2.2.2.2.2.2.2]) (As := [.int a1, .int a2]) (rest := []) X hG hl.1 (c_X2_addSort g l (a 0 0) (a 1) n a1 a2 c.2.1 q1 hq1) ((blk_perm2 [1, 0, 2, 3, 4, 5, 6, 7, 8, 9, 10] 11 rfl rfl (by decide)).flatten) ((blk_perm2 [1, 0, 2, 3, 4, 5, 6, 7, 8, 9, 10] 11 rfl rfl (by decide)).flatten) lk_X2_addSort lv_X2_addSort ml_7_102 (j := 1) (k := 0) rfl rfl rfl rfl rfl ⟨Nat.le_of_ble_eq_true rfl, Nat.le_of_ble_eq_true rfl⟩ rfl rfl (Nat.le_of_ble_eq_true rfl) ⟨Nat.zero_le _, Nat.zero_le _⟩ dX7_people_6 (fun H locs hG => ?_)
  have hq9 := Option.some.inj hf
  subst hq9
  subst hQ
  exact r_iret X hG dX7_people_9
def rmX7_car : Room := { frames := 2, cells := 0, slots := 0, locals := 42 }
set_option maxHeartbeats 4000000 in
set_option maxRecDepth 100000 in
theorem c_X7_car (g : GT) (l : Launch) (o : Nat) (a : Nat → Nat → Nat) (nw : Nat) (n : Nat) (a1 : Int32) (a2 : Int32) (a3 : Int32) (c : CS) (q : Int32 × CS) (hf : f_X7_car n nw a1 a2 a3 c = some q) : CI g l yX7_car cX7_car 4 (some .int) rmX7_car [.ref o, .int a1, .int a2, .int a3] (wC g o a nw c) q.1 (wC g o a nw q.2) := by
  refine CI_intro RX7 rfl (by decide +kernel) (Nat.le_of_ble_eq_true rfl) ?_
  intro p e s m args below meth c9 A ls Q hQ X hl hG
  have hl : lv_has ls 4 [(0, .ref o), (1, .int a1), (2, .int a2), (3, .int a3)] := hl
  have hG : GM g A s.heap s.heap [] [wX7 g o a nw c.1, wX2 g (a 0 0) (a 1) c.2.1, wX2 g (a 0 1) (a 2) c.2.2.1, wX0 g (a 0 3) (a 3) c.2.2.2.1, wYs g a nw c.2.2.2.2.1, wX6 g (a 0 6) (a 6) c.2.2.2.2.2.1, wX4 g (a 0 7) (a 9) c.2.2.2.2.2.2.1, wTs g a c.2.2.2.2.2.2.2.1, wSs g a c.2.2.2.2.2.2.2.2.1, wX1 g (a 0 11) (a 5) c.2.2.2.2.2.2.2.2.2.1, wF g (a 5 3) 6 c.2.2.2.2.2.2.2.2.2.2] := hG
  have hx := X.1
  have hb := X.2.1
  have hown := X.2.2.2.1
  unfold f_X7_car at hf
  refine lv_iload_n hx hb dX7_car_0 rfl (lv_at hl 1 rfl) ?_
  refine lv_iconst (v := 1) hx hb dX7_car_1 (by decide) ?_
  refine lv_bipush (v := 60) hx hb dX7_car_2 (by decide) ?_
  obtain ⟨q1, hq1, hf⟩ := cl_inv hf
  refine r_callSi (bc := []) (br := [wX7 g o a nw c.1, wX2 g (a 0 0) (a 1) c.2.1, wX2 g (a 0 1) (a 2) c.2.2.1, wX0 g (a 0 3) (a 3) c.2.2.2.1, wYs g a nw c.2.2.2.2.1, wX6 g (a 0 6) (a 6) c.2.2.2.2.2.1, wX4 g (a 0 7) (a 9) c.2.2.2.2.2.2.1, wTs g a c.2.2.2.2.2.2.2.1, wSs g a c.2.2.2.2.2.2.2.2.1, wX1 g (a 0 11) (a 5) c.2.2.2.2.2.2.2.2.2.1, wF g (a 5 3) 6 c.2.2.2.2.2.2.2.2.2.2]) (bs' := [wX7 g o a nw c.1, wX2 g (a 0 0) (a 1) c.2.1, wX2 g (a 0 1) (a 2) c.2.2.1, wX0 g (a 0 3) (a 3) c.2.2.2.1, wYs g a nw c.2.2.2.2.1, wX6 g (a 0 6) (a 6) c.2.2.2.2.2.1, wX4 g (a 0 7) (a 9) c.2.2.2.2.2.2.1, wTs g a c.2.2.2.2.2.2.2.1, wSs g a c.2.2.2.2.2.2.2.2.1, wX1 g (a 0 11) (a 5) c.2.2.2.2.2.2.2.2.2.1, wF g (a 5 3) 6 c.2.2.2.2.2.2.2.2.2.2]) (As := [.int a1, .int 1, .int 60]) (rest := []) X hG hl.1 (c_X7_between g l n a1 1 60 q1 hq1) (List.Perm.refl _) (List.Perm.refl _) lk_X7_between ls_X7_between ml_7_106 rfl rfl ⟨Nat.le_of_ble_eq_true rfl, Nat.le_of_ble_eq_true rfl⟩ rfl rfl (Nat.le_of_ble_eq_true rfl) ⟨Nat.zero_le _, Nat.zero_le _⟩ dX7_car_4 (fun H locs hG => ?_)
  refine lv_if_eq (tgt := 27) hx hb dX7_car_7 (by decide) (fun hc2 => ?_) (fun hc2 => ?_)
  · replace hf := ite_t hf hc2
    refine lv_bipush (v := (-2)) hx hb dX7_car_27 (by decide) ?_
    have hq9 := Option.some.inj hf
    subst hq9
    subst hQ
    exact r_iret X hG dX7_car_29
  · replace hf := ite_f hf hc2
    refine lv_iload_n hx hb dX7_car_10 rfl (lv_at hl 2 rfl) ?_
    refine lv_iconst (v := 1) hx hb dX7_car_11 (by decide) ?_
    refine lv_bipush (v := 30) hx hb dX7_car_12 (by decide) ?_
    obtain ⟨q3, hq3, hf⟩ := cl_inv hf
    refine r_callSi (bc := []) (br := [wX7 g o a nw c.1, wX2 g (a 0 0) (a 1) c.2.1, wX2 g (a 0 1) (a 2) c.2.2.1, wX0 g (a 0 3) (a 3) c.2.2.2.1, wYs g a nw c.2.2.2.2.1, wX6 g (a 0 6) (a 6) c.2.2.2.2.2.1, wX4 g (a 0 7) (a 9) c.2.2.2.2.2.2.1, wTs g a c.2.2.2.2.2.2.2.1, wSs g a c.2.2.2.2.2.2.2.2.1, wX1 g (a 0 11) (a 5) c.2.2.2.2.2.2.2.2.2.1, wF g (a 5 3) 6 c.2.2.2.2.2.2.2.2.2.2]) (bs' := [wX7 g o a nw c.1, wX2 g (a 0 0) (a 1) c.2.1, wX2 g (a 0 1) (a 2) c.2.2.1, wX0 g (a 0 3) (a 3) c.2.2.2.1, wYs g a nw c.2.2.2.2.1, wX6 g (a 0 6) (a 6) c.2.2.2.2.2.1, wX4 g (a 0 7) (a 9) c.2.2.2.2.2.2.1, wTs g a c.2.2.2.2.2.2.2.1, wSs g a c.2.2.2.2.2.2.2.2.1, wX1 g (a 0 11) (a 5) c.2.2.2.2.2.2.2.2.2.1, wF g (a 5 3) 6 c.2.2.2.2.2.2.2.2.2.2]) (As := [.int a2, .int 1, .int 30]) (rest := []) X hG hl.1 (c_X7_between g l n a2 1 30 q3 hq3) (List.Perm.refl _) (List.Perm.refl _) lk_X7_between ls_X7_between ml_7_106 rfl rfl ⟨Nat.le_of_ble_eq_true rfl, Nat.le_of_ble_eq_true rfl⟩ rfl rfl (Nat.le_of_ble_eq_true rfl) ⟨Nat.zero_le _, Nat.zero_le _⟩ dX7_car_14 (fun H locs hG => ?_)
    refine lv_if_eq (tgt := 27) hx hb dX7_car_17 (by decide) (fun hc4 => ?_) (fun hc4 => ?_)
    · replace hf := ite_t hf hc4
      refine lv_bipush (v := (-2)) hx hb dX7_car_27 (by decide) ?_
      have hq9 := Option.some.inj hf
      subst hq9
      subst hQ
      exact r_iret X hG dX7_car_29
    · replace hf := ite_f hf hc4
      refine lv_iload_n hx hb dX7_car_20 rfl (lv_at hl 3 rfl) ?_
      obtain ⟨q5, hq5, hf⟩ := cl_inv hf
      refine r_callSi (bc := []) (br := [wX7 g o a nw c.1, wX2 g (a 0 0) (a 1) c.2.1, wX2 g (a 0 1) (a 2) c.2.2.1, wX0 g (a 0 3) (a 3) c.2.2.2.1, wYs g a nw c.2.2.2.2.1, wX6 g (a 0 6) (a 6) c.2.2.2.2.2.1, wX4 g (a 0 7) (a 9) c.2.2.2.2.2.2.1, wTs g a c.2.2.2.2.2.2.2.1, wSs g a c.2.2.2.2.2.2.2.2.1, wX1 g (a 0 11) (a 5) c.2.2.2.2.2.2.2.2.2.1, wF g (a 5 3) 6 c.2.2.2.2.2.2.2.2.2.2]) (bs' := [wX7 g o a nw c.1, wX2 g (a 0 0) (a 1) c.2.1, wX2 g (a 0 1) (a 2) c.2.2.1, wX0 g (a 0 3) (a 3) c.2.2.2.1, wYs g a nw c.2.2.2.2.1, wX6 g (a 0 6) (a 6) c.2.2.2.2.2.1, wX4 g (a 0 7) (a 9) c.2.2.2.2.2.2.1, wTs g a c.2.2.2.2.2.2.2.1, wSs g a c.2.2.2.2.2.2.2.2.1, wX1 g (a 0 11) (a 5) c.2.2.2.2.2.2.2.2.2.1, wF g (a 5 3) 6 c.2.2.2.2.2.2.2.2.2.2]) (As := [.int a3]) (rest := []) X hG hl.1 (c_X7_isMinute g l n a3 q5 hq5) (List.Perm.refl _) (List.Perm.refl _) lk_X7_isMinute ls_X7_isMinute ml_7_110 rfl rfl ⟨Nat.le_of_ble_eq_true rfl, Nat.le_of_ble_eq_true rfl⟩ rfl rfl (Nat.le_of_ble_eq_true rfl) ⟨Nat.zero_le _, Nat.zero_le _⟩ dX7_car_21 (fun H locs hG => ?_)
      refine lv_if_ne (tgt := 30) hx hb dX7_car_24 (by decide) (fun hc6 => ?_) (fun hc6 => ?_)
      · replace hf := ite_f hf hc6
        refine lv_aload_n hx hb dX7_car_30 rfl (lv_at hl 0 rfl) ?_
        refine G_7_26 X hG 0 rfl dX7_car_31 ?_
        refine lv_iload_n hx hb dX7_car_34 rfl (lv_at hl 1 rfl) ?_
        refine lv_iload_n hx hb dX7_car_35 rfl (lv_at hl 2 rfl) ?_
        refine lv_iload_n hx hb dX7_car_36 rfl (lv_at hl 3 rfl) ?_
        obtain ⟨q7, hq7, hf⟩ := cl_inv hf
        refine r_callVi (bc := [wX0 g (a 0 3) (a 3) c.2.2.2.1]) (br := [wX7 g o a nw c.1, wX2 g (a 0 0) (a 1) c.2.1, wX2 g (a 0 1) (a 2) c.2.2.1, wYs g a nw c.2.2.2.2.1, wX6 g (a 0 6) (a 6) c.2.2.2.2.2.1, wX4 g (a 0 7) (a 9) c.2.2.2.2.2.2.1, wTs g a c.2.2.2.2.2.2.2.1, wSs g a c.2.2.2.2.2.2.2.2.1, wX1 g (a 0 11) (a 5) c.2.2.2.2.2.2.2.2.2.1, wF g (a 5 3) 6 c.2.2.2.2.2.2.2.2.2.2]) (bs' := [wX7 g o a nw c.1, wX2 g (a 0 0) (a 1) c.2.1, wX2 g (a 0 1) (a 2) c.2.2.1, wX0 g (a 0 3) (a 3) q7.2, wYs g a nw c.2.2.2.2.1, wX6 g (a 0 6) (a 6) c.2.2.2.2.2.1, wX4 g (a 0 7) (a 9) c.2.2.2.2.2.2.1, wTs g a c.2.2.2.2.2.2.2.1, wSs g a c.2.2.2.2.2.2.2.2.1, wX1 g (a 0 11) (a 5) c.2.2.2.2.2.2.2.2.2.1, wF g (a 5 3) 6 c.2.2.2.2.2.2.2.2.2.2]) (As := [.int a1, .int a2, .int a3]) (rest := []) X hG hl.1 (c_X0_add g l (a 0 3) (a 3) n a1 a2 a3 c.2.2.2.1 q7 hq7) ((blk_perm2 [3, 0, 1, 2, 4, 5, 6, 7, 8, 9, 10] 11 rfl rfl (by decide)).flatten) ((blk_perm2 [1, 2, 3, 0, 4, 5, 6, 7, 8, 9, 10] 11 rfl rfl (by decide)).flatten) lk_X0_add lv_X0_add ml_7_114 (j := 3) (k := 0) rfl rfl rfl rfl rfl ⟨Nat.le_of_ble_eq_true rfl, Nat.le_of_ble_eq_true rfl⟩ rfl rfl (Nat.le_of_ble_eq_true rfl) ⟨Nat.zero_le _, Nat.zero_le _⟩ dX7_car_37 (fun H locs hG => ?_)
        have hq9 := Option.some.inj hf
        subst hq9
        subst hQ
        exact r_iret X hG dX7_car_40
      · replace hf := ite_t hf hc6
        refine lv_bipush (v := (-2)) hx hb dX7_car_27 (by decide) ?_
        have hq9 := Option.some.inj hf
        subst hq9
        subst hQ
        exact r_iret X hG dX7_car_29
def rmX7_set : Room := { frames := 2, cells := 0, slots := 0, locals := 43 }
set_option maxHeartbeats 4000000 in
set_option maxRecDepth 100000 in
theorem c_X7_set (g : GT) (l : Launch) (o : Nat) (a : Nat → Nat → Nat) (nw : Nat) (n : Nat) (a1 : Int32) (a2 : Int32) (a3 : Int32) (c : CS) (q : Int32 × CS) (hf : f_X7_set n nw a1 a2 a3 c = some q) : CI g l yX7_set cX7_set 6 (some .int) rmX7_set [.ref o, .int a1, .int a2, .int a3] (wC g o a nw c) q.1 (wC g o a nw q.2) := by
  refine CI_intro RX7 rfl (by decide +kernel) (Nat.le_of_ble_eq_true rfl) ?_
  intro p e s m args below meth c9 A ls Q hQ X hl hG
  have hl : lv_has ls 6 [(0, .ref o), (1, .int a1), (2, .int a2), (3, .int a3)] := hl
  have hG : GM g A s.heap s.heap [] [wX7 g o a nw c.1, wX2 g (a 0 0) (a 1) c.2.1, wX2 g (a 0 1) (a 2) c.2.2.1, wX0 g (a 0 3) (a 3) c.2.2.2.1, wYs g a nw c.2.2.2.2.1, wX6 g (a 0 6) (a 6) c.2.2.2.2.2.1, wX4 g (a 0 7) (a 9) c.2.2.2.2.2.2.1, wTs g a c.2.2.2.2.2.2.2.1, wSs g a c.2.2.2.2.2.2.2.2.1, wX1 g (a 0 11) (a 5) c.2.2.2.2.2.2.2.2.2.1, wF g (a 5 3) 6 c.2.2.2.2.2.2.2.2.2.2] := hG
  have hx := X.1
  have hb := X.2.1
  have hown := X.2.2.2.1
  unfold f_X7_set at hf
  refine lv_iload_n hx hb dX7_set_0 rfl (lv_at hl 1 rfl) ?_
  refine lv_iload_n hx hb dX7_set_1 rfl (lv_at hl 3 rfl) ?_
  obtain ⟨q1, hq1, hf⟩ := cl_inv hf
  refine r_callSi (bc := []) (br := [wX7 g o a nw c.1, wX2 g (a 0 0) (a 1) c.2.1, wX2 g (a 0 1) (a 2) c.2.2.1, wX0 g (a 0 3) (a 3) c.2.2.2.1, wYs g a nw c.2.2.2.2.1, wX6 g (a 0 6) (a 6) c.2.2.2.2.2.1, wX4 g (a 0 7) (a 9) c.2.2.2.2.2.2.1, wTs g a c.2.2.2.2.2.2.2.1, wSs g a c.2.2.2.2.2.2.2.2.1, wX1 g (a 0 11) (a 5) c.2.2.2.2.2.2.2.2.2.1, wF g (a 5 3) 6 c.2.2.2.2.2.2.2.2.2.2]) (bs' := [wX7 g o a nw c.1, wX2 g (a 0 0) (a 1) c.2.1, wX2 g (a 0 1) (a 2) c.2.2.1, wX0 g (a 0 3) (a 3) c.2.2.2.1, wYs g a nw c.2.2.2.2.1, wX6 g (a 0 6) (a 6) c.2.2.2.2.2.1, wX4 g (a 0 7) (a 9) c.2.2.2.2.2.2.1, wTs g a c.2.2.2.2.2.2.2.1, wSs g a c.2.2.2.2.2.2.2.2.1, wX1 g (a 0 11) (a 5) c.2.2.2.2.2.2.2.2.2.1, wF g (a 5 3) 6 c.2.2.2.2.2.2.2.2.2.2]) (As := [.int a1, .int a3]) (rest := []) X hG hl.1 (c_X7_fits g l n a1 a3 q1 hq1) (List.Perm.refl _) (List.Perm.refl _) lk_X7_fits ls_X7_fits ml_7_118 rfl rfl ⟨Nat.le_of_ble_eq_true rfl, Nat.le_of_ble_eq_true rfl⟩ rfl rfl (Nat.le_of_ble_eq_true rfl) ⟨Nat.zero_le _, Nat.zero_le _⟩ dX7_set_2 (fun H locs hG => ?_)
  refine lv_if_ne (tgt := 11) hx hb dX7_set_5 (by decide) (fun hc2 => ?_) (fun hc2 => ?_)
  · replace hf := ite_f hf hc2
    refine lv_iload_n hx hb dX7_set_11 rfl (lv_at hl 1 rfl) ?_
    refine lv_iconst (v := 5) hx hb dX7_set_12 (by decide) ?_
    refine lv_icmp_ne (tgt := 36) hx hb dX7_set_13 (by decide) (fun hc3 => ?_) (fun hc3 => ?_)
    · replace hf := ite_f hf hc3
      refine lv_aload_n hx hb dX7_set_36 rfl (lv_at hl 0 rfl) ?_
      refine G_7_10 X hG 0 rfl dX7_set_37 ?_
      refine lv_iload_n hx hb dX7_set_40 rfl (lv_at hl 1 rfl) ?_
      obtain ⟨q4, hq4, hf⟩ := cl_inv hf
      refine r_callVq (bc := [wX2 g (a 0 0) (a 1) c.2.1]) (br := [wX7 g o a nw c.1, wX2 g (a 0 1) (a 2) c.2.2.1, wX0 g (a 0 3) (a 3) c.2.2.2.1, wYs g a nw c.2.2.2.2.1, wX6 g (a 0 6) (a 6) c.2.2.2.2.2.1, wX4 g (a 0 7) (a 9) c.2.2.2.2.2.2.1, wTs g a c.2.2.2.2.2.2.2.1, wSs g a c.2.2.2.2.2.2.2.2.1, wX1 g (a 0 11) (a 5) c.2.2.2.2.2.2.2.2.2.1, wF g (a 5 3) 6 c.2.2.2.2.2.2.2.2.2.2]) (bs' := [wX7 g o a nw c.1, wX2 g (a 0 0) (a 1) c.2.1, wX2 g (a 0 1) (a 2) c.2.2.1, wX0 g (a 0 3) (a 3) c.2.2.2.1, wYs g a nw c.2.2.2.2.1, wX6 g (a 0 6) (a 6) c.2.2.2.2.2.1, wX4 g (a 0 7) (a 9) c.2.2.2.2.2.2.1, wTs g a c.2.2.2.2.2.2.2.1, wSs g a c.2.2.2.2.2.2.2.2.1, wX1 g (a 0 11) (a 5) c.2.2.2.2.2.2.2.2.2.1, wF g (a 5 3) 6 c.2.2.2.2.2.2.2.2.2.2]) (As := [.int a1]) (rest := []) X hG hl.1 (c_X2_rowOf g l (a 0 0) (a 1) n a1 c.2.1 q4 hq4) ((blk_perm2 [1, 0, 2, 3, 4, 5, 6, 7, 8, 9, 10] 11 rfl rfl (by decide)).flatten) ((blk_perm2 [1, 0, 2, 3, 4, 5, 6, 7, 8, 9, 10] 11 rfl rfl (by decide)).flatten) lk_X2_rowOf lv_X2_rowOf ml_7_125 (j := 1) (k := 0) rfl rfl rfl rfl rfl ⟨Nat.le_of_ble_eq_true rfl, Nat.le_of_ble_eq_true rfl⟩ rfl rfl (Nat.le_of_ble_eq_true rfl) ⟨Nat.zero_le _, Nat.zero_le _⟩ dX7_set_41 (fun H locs hG => ?_)
      rcases q4 with _ | w5
      · replace hf := oc_n hf
        refine W.eq (g2 := F0 m 44 ls [.null]) rfl ?_
        refine lv_astoreN (lv' := [(4, .null), (0, .ref o), (1, .int a1), (2, .int a2), (3, .int a3)]) hx hb dX7_set_44 hl (by decide) rfl (fun ls hl => ?_)
        refine lv_aloadN hx hb dX7_set_46 (lv_at hl 0 rfl) ?_
        refine lv_ifnullN (tgt := 69) hx hb dX7_set_48 (by decide) ?_
        refine lv_bipush (v := (-2)) hx hb dX7_set_69 (by decide) ?_
        have hq9 := Option.some.inj hf
        subst hq9
        subst hQ
        exact r_iret X hG dX7_set_71
      · replace hf := oc_s hf
        by_cases hk11 : w5 = 1
        · replace hf := ite_t hf hk11
          subst hk11
          refine W.eq (g2 := F0 m 44 ls [.ref (a 1 1)]) rfl ?_
          refine lv_astore (lv' := [(4, .ref (a 1 1)), (0, .ref o), (1, .int a1), (2, .int a2), (3, .int a3)]) hx hb dX7_set_44 hl (by decide) rfl (fun ls hl => ?_)
          refine lv_aload hx hb dX7_set_46 (lv_at hl 0 rfl) ?_
          refine lv_ifnull hx hb dX7_set_48 ?_
          refine lv_iload_n hx hb dX7_set_51 rfl (lv_at hl 3 rfl) ?_
          refine lv_iconst (v := 0) hx hb dX7_set_52 (by decide) ?_
          refine lv_aload_n hx hb dX7_set_53 rfl (lv_at hl 1 rfl) ?_
          refine G_7_10 X hG 0 rfl dX7_set_54 ?_
          refine lv_iload_n hx hb dX7_set_57 rfl (lv_at hl 2 rfl) ?_
          obtain ⟨q6, hq6, hf⟩ := cl_inv hf
          refine r_callVi (bc := [wX2 g (a 0 0) (a 1) c.2.1]) (br := [wX7 g o a nw c.1, wX2 g (a 0 1) (a 2) c.2.2.1, wX0 g (a 0 3) (a 3) c.2.2.2.1, wYs g a nw c.2.2.2.2.1, wX6 g (a 0 6) (a 6) c.2.2.2.2.2.1, wX4 g (a 0 7) (a 9) c.2.2.2.2.2.2.1, wTs g a c.2.2.2.2.2.2.2.1, wSs g a c.2.2.2.2.2.2.2.2.1, wX1 g (a 0 11) (a 5) c.2.2.2.2.2.2.2.2.2.1, wF g (a 5 3) 6 c.2.2.2.2.2.2.2.2.2.2]) (bs' := [wX7 g o a nw c.1, wX2 g (a 0 0) (a 1) c.2.1, wX2 g (a 0 1) (a 2) c.2.2.1, wX0 g (a 0 3) (a 3) c.2.2.2.1, wYs g a nw c.2.2.2.2.1, wX6 g (a 0 6) (a 6) c.2.2.2.2.2.1, wX4 g (a 0 7) (a 9) c.2.2.2.2.2.2.1, wTs g a c.2.2.2.2.2.2.2.1, wSs g a c.2.2.2.2.2.2.2.2.1, wX1 g (a 0 11) (a 5) c.2.2.2.2.2.2.2.2.2.1, wF g (a 5 3) 6 c.2.2.2.2.2.2.2.2.2.2]) (As := [.int a1]) (rest := [.int 0, .int a2]) X hG hl.1 (c_X2_sizeOf g l (a 0 0) (a 1) n a1 c.2.1 q6 hq6) ((blk_perm2 [1, 0, 2, 3, 4, 5, 6, 7, 8, 9, 10] 11 rfl rfl (by decide)).flatten) ((blk_perm2 [1, 0, 2, 3, 4, 5, 6, 7, 8, 9, 10] 11 rfl rfl (by decide)).flatten) lk_X2_sizeOf lv_X2_sizeOf ml_7_129 (j := 1) (k := 0) rfl rfl rfl rfl rfl ⟨Nat.le_of_ble_eq_true rfl, Nat.le_of_ble_eq_true rfl⟩ rfl rfl (Nat.le_of_ble_eq_true rfl) ⟨Nat.zero_le _, Nat.zero_le _⟩ dX7_set_58 (fun H locs hG => ?_)
          refine lv_iconst (v := 1) hx hb dX7_set_61 (by decide) ?_
          refine lv_isub hx hb dX7_set_62 ?_
          obtain ⟨q7, hq7, hf⟩ := cl_inv hf
          refine r_callSi (bc := []) (br := [wX7 g o a nw c.1, wX2 g (a 0 0) (a 1) c.2.1, wX2 g (a 0 1) (a 2) c.2.2.1, wX0 g (a 0 3) (a 3) c.2.2.2.1, wYs g a nw c.2.2.2.2.1, wX6 g (a 0 6) (a 6) c.2.2.2.2.2.1, wX4 g (a 0 7) (a 9) c.2.2.2.2.2.2.1, wTs g a c.2.2.2.2.2.2.2.1, wSs g a c.2.2.2.2.2.2.2.2.1, wX1 g (a 0 11) (a 5) c.2.2.2.2.2.2.2.2.2.1, wF g (a 5 3) 6 c.2.2.2.2.2.2.2.2.2.2]) (bs' := [wX7 g o a nw c.1, wX2 g (a 0 0) (a 1) c.2.1, wX2 g (a 0 1) (a 2) c.2.2.1, wX0 g (a 0 3) (a 3) c.2.2.2.1, wYs g a nw c.2.2.2.2.1, wX6 g (a 0 6) (a 6) c.2.2.2.2.2.1, wX4 g (a 0 7) (a 9) c.2.2.2.2.2.2.1, wTs g a c.2.2.2.2.2.2.2.1, wSs g a c.2.2.2.2.2.2.2.2.1, wX1 g (a 0 11) (a 5) c.2.2.2.2.2.2.2.2.2.1, wF g (a 5 3) 6 c.2.2.2.2.2.2.2.2.2.2]) (As := [.int a2, .int 0, .int (q6 - 1)]) (rest := []) X hG hl.1 (c_X7_between g l n a2 0 (q6 - 1) q7 hq7) (List.Perm.refl _) (List.Perm.refl _) lk_X7_between ls_X7_between ml_7_106 rfl rfl ⟨Nat.le_of_ble_eq_true rfl, Nat.le_of_ble_eq_true rfl⟩ rfl rfl (Nat.le_of_ble_eq_true rfl) ⟨Nat.zero_le _, Nat.zero_le _⟩ dX7_set_63 (fun H locs hG => ?_)
          refine lv_if_ne (tgt := 72) hx hb dX7_set_66 (by decide) (fun hc8 => ?_) (fun hc8 => ?_)
          · replace hf := ite_f hf hc8
            refine lv_aload hx hb dX7_set_72 (lv_at hl 0 rfl) ?_
            refine lv_iload_n hx hb dX7_set_74 rfl (lv_at hl 3 rfl) ?_
            refine r_iald X hG 1 1 rfl rfl hf dX7_set_75 (fun x9 hf => ?_)
            refine lv_istore (lv' := [(5, .int x9), (4, .ref (a 1 1)), (0, .ref o), (1, .int a1), (2, .int a2), (3, .int a3)]) hx hb dX7_set_76 hl (by decide) rfl (fun ls hl => ?_)
            refine lv_aload hx hb dX7_set_78 (lv_at hl 1 rfl) ?_
            refine lv_iload_n hx hb dX7_set_80 rfl (lv_at hl 4 rfl) ?_
            refine lv_iload_n hx hb dX7_set_81 rfl (lv_at hl 5 rfl) ?_
            refine r_iast X hG 1 1 rfl rfl hf (fun t => [wX7 g o a nw c.1, wX2 g (a 0 0) (a 1) t, wX2 g (a 0 1) (a 2) c.2.2.1, wX0 g (a 0 3) (a 3) c.2.2.2.1, wYs g a nw c.2.2.2.2.1, wX6 g (a 0 6) (a 6) c.2.2.2.2.2.1, wX4 g (a 0 7) (a 9) c.2.2.2.2.2.2.1, wTs g a c.2.2.2.2.2.2.2.1, wSs g a c.2.2.2.2.2.2.2.2.1, wX1 g (a 0 11) (a 5) c.2.2.2.2.2.2.2.2.2.1, wF g (a 5 3) 6 c.2.2.2.2.2.2.2.2.2.2]) rfl dX7_set_82 (fun z10 H locs hf hG => ?_)
            refine lv_iload hx hb dX7_set_83 (lv_at hl 0 rfl) ?_
            have hq9 := Option.some.inj hf
            subst hq9
            subst hQ
            exact r_iret X hG dX7_set_85
          · replace hf := ite_t hf hc8
            refine lv_bipush (v := (-2)) hx hb dX7_set_69 (by decide) ?_
            have hq9 := Option.some.inj hf
            subst hq9
            subst hQ
            exact r_iret X hG dX7_set_71
        · replace hf := ite_f hf hk11
          by_cases hk17 : w5 = 2
          · replace hf := ite_t hf hk17
            subst hk17
            refine W.eq (g2 := F0 m 44 ls [.ref (a 1 2)]) rfl ?_
            refine lv_astore (lv' := [(4, .ref (a 1 2)), (0, .ref o), (1, .int a1), (2, .int a2), (3, .int a3)]) hx hb dX7_set_44 hl (by decide) rfl (fun ls hl => ?_)
            refine lv_aload hx hb dX7_set_46 (lv_at hl 0 rfl) ?_
            refine lv_ifnull hx hb dX7_set_48 ?_
            refine lv_iload_n hx hb dX7_set_51 rfl (lv_at hl 3 rfl) ?_
            refine lv_iconst (v := 0) hx hb dX7_set_52 (by decide) ?_
            refine lv_aload_n hx hb dX7_set_53 rfl (lv_at hl 1 rfl) ?_
            refine G_7_10 X hG 0 rfl dX7_set_54 ?_
            refine lv_iload_n hx hb dX7_set_57 rfl (lv_at hl 2 rfl) ?_
            obtain ⟨q12, hq12, hf⟩ := cl_inv hf
            refine r_callVi (bc := [wX2 g (a 0 0) (a 1) c.2.1]) (br := [wX7 g o a nw c.1, wX2 g (a 0 1) (a 2) c.2.2.1, wX0 g (a 0 3) (a 3) c.2.2.2.1, wYs g a nw c.2.2.2.2.1, wX6 g (a 0 6) (a 6) c.2.2.2.2.2.1, wX4 g (a 0 7) (a 9) c.2.2.2.2.2.2.1, wTs g a c.2.2.2.2.2.2.2.1, wSs g a c.2.2.2.2.2.2.2.2.1, wX1 g (a 0 11) (a 5) c.2.2.2.2.2.2.2.2.2.1, wF g (a 5 3) 6 c.2.2.2.2.2.2.2.2.2.2]) (bs' := [wX7 g o a nw c.1, wX2 g (a 0 0) (a 1) c.2.1, wX2 g (a 0 1) (a 2) c.2.2.1, wX0 g (a 0 3) (a 3) c.2.2.2.1, wYs g a nw c.2.2.2.2.1, wX6 g (a 0 6) (a 6) c.2.2.2.2.2.1, wX4 g (a 0 7) (a 9) c.2.2.2.2.2.2.1, wTs g a c.2.2.2.2.2.2.2.1, wSs g a c.2.2.2.2.2.2.2.2.1, wX1 g (a 0 11) (a 5) c.2.2.2.2.2.2.2.2.2.1, wF g (a 5 3) 6 c.2.2.2.2.2.2.2.2.2.2]) (As := [.int a1]) (rest := [.int 0, .int a2]) X hG hl.1 (c_X2_sizeOf g l (a 0 0) (a 1) n a1 c.2.1 q12 hq12) ((blk_perm2 [1, 0, 2, 3, 4, 5, 6, 7, 8, 9, 10] 11 rfl rfl (by decide)).flatten) ((blk_perm2 [1, 0, 2, 3, 4, 5, 6, 7, 8, 9, 10] 11 rfl rfl (by decide)).flatten) lk_X2_sizeOf lv_X2_sizeOf ml_7_129 (j := 1) (k := 0) rfl rfl rfl rfl rfl ⟨Nat.le_of_ble_eq_true rfl, Nat.le_of_ble_eq_true rfl⟩ rfl rfl (Nat.le_of_ble_eq_true rfl) ⟨Nat.zero_le _, Nat.zero_le _⟩ dX7_set_58 (fun H locs hG => ?_)
            refine lv_iconst (v := 1) hx hb dX7_set_61 (by decide) ?_
            refine lv_isub hx hb dX7_set_62 ?_
            obtain ⟨q13, hq13, hf⟩ := cl_inv hf
            refine r_callSi (bc := []) (br := [wX7 g o a nw c.1, wX2 g (a 0 0) (a 1) c.2.1, wX2 g (a 0 1) (a 2) c.2.2.1, wX0 g (a 0 3) (a 3) c.2.2.2.1, wYs g a nw c.2.2.2.2.1, wX6 g (a 0 6) (a 6) c.2.2.2.2.2.1, wX4 g (a 0 7) (a 9) c.2.2.2.2.2.2.1, wTs g a c.2.2.2.2.2.2.2.1, wSs g a c.2.2.2.2.2.2.2.2.1, wX1 g (a 0 11) (a 5) c.2.2.2.2.2.2.2.2.2.1, wF g (a 5 3) 6 c.2.2.2.2.2.2.2.2.2.2]) (bs' := [wX7 g o a nw c.1, wX2 g (a 0 0) (a 1) c.2.1, wX2 g (a 0 1) (a 2) c.2.2.1, wX0 g (a 0 3) (a 3) c.2.2.2.1, wYs g a nw c.2.2.2.2.1, wX6 g (a 0 6) (a 6) c.2.2.2.2.2.1, wX4 g (a 0 7) (a 9) c.2.2.2.2.2.2.1, wTs g a c.2.2.2.2.2.2.2.1, wSs g a c.2.2.2.2.2.2.2.2.1, wX1 g (a 0 11) (a 5) c.2.2.2.2.2.2.2.2.2.1, wF g (a 5 3) 6 c.2.2.2.2.2.2.2.2.2.2]) (As := [.int a2, .int 0, .int (q12 - 1)]) (rest := []) X hG hl.1 (c_X7_between g l n a2 0 (q12 - 1) q13 hq13) (List.Perm.refl _) (List.Perm.refl _) lk_X7_between ls_X7_between ml_7_106 rfl rfl ⟨Nat.le_of_ble_eq_true rfl, Nat.le_of_ble_eq_true rfl⟩ rfl rfl (Nat.le_of_ble_eq_true rfl) ⟨Nat.zero_le _, Nat.zero_le _⟩ dX7_set_63 (fun H locs hG => ?_)
            refine lv_if_ne (tgt := 72) hx hb dX7_set_66 (by decide) (fun hc14 => ?_) (fun hc14 => ?_)
            · replace hf := ite_f hf hc14
              refine lv_aload hx hb dX7_set_72 (lv_at hl 0 rfl) ?_
              refine lv_iload_n hx hb dX7_set_74 rfl (lv_at hl 3 rfl) ?_
              refine r_iald X hG 1 2 rfl rfl hf dX7_set_75 (fun x15 hf => ?_)
              refine lv_istore (lv' := [(5, .int x15), (4, .ref (a 1 2)), (0, .ref o), (1, .int a1), (2, .int a2), (3, .int a3)]) hx hb dX7_set_76 hl (by decide) rfl (fun ls hl => ?_)
              refine lv_aload hx hb dX7_set_78 (lv_at hl 1 rfl) ?_
              refine lv_iload_n hx hb dX7_set_80 rfl (lv_at hl 4 rfl) ?_
              refine lv_iload_n hx hb dX7_set_81 rfl (lv_at hl 5 rfl) ?_
              refine r_iast X hG 1 2 rfl rfl hf (fun t => [wX7 g o a nw c.1, wX2 g (a 0 0) (a 1) t, wX2 g (a 0 1) (a 2) c.2.2.1, wX0 g (a 0 3) (a 3) c.2.2.2.1, wYs g a nw c.2.2.2.2.1, wX6 g (a 0 6) (a 6) c.2.2.2.2.2.1, wX4 g (a 0 7) (a 9) c.2.2.2.2.2.2.1, wTs g a c.2.2.2.2.2.2.2.1, wSs g a c.2.2.2.2.2.2.2.2.1, wX1 g (a 0 11) (a 5) c.2.2.2.2.2.2.2.2.2.1, wF g (a 5 3) 6 c.2.2.2.2.2.2.2.2.2.2]) rfl dX7_set_82 (fun z16 H locs hf hG => ?_)
              refine lv_iload hx hb dX7_set_83 (lv_at hl 0 rfl) ?_
              have hq9 := Option.some.inj hf
              subst hq9
              subst hQ
              exact r_iret X hG dX7_set_85
            · replace hf := ite_t hf hc14
              refine lv_bipush (v := (-2)) hx hb dX7_set_69 (by decide) ?_
              have hq9 := Option.some.inj hf
              subst hq9
              subst hQ
              exact r_iret X hG dX7_set_71
          · replace hf := ite_f hf hk17
            by_cases hk23 : w5 = 3
            · replace hf := ite_t hf hk23
              subst hk23
              refine W.eq (g2 := F0 m 44 ls [.ref (a 1 3)]) rfl ?_
              refine lv_astore (lv' := [(4, .ref (a 1 3)), (0, .ref o), (1, .int a1), (2, .int a2), (3, .int a3)]) hx hb dX7_set_44 hl (by decide) rfl (fun ls hl => ?_)
              refine lv_aload hx hb dX7_set_46 (lv_at hl 0 rfl) ?_
              refine lv_ifnull hx hb dX7_set_48 ?_
              refine lv_iload_n hx hb dX7_set_51 rfl (lv_at hl 3 rfl) ?_
              refine lv_iconst (v := 0) hx hb dX7_set_52 (by decide) ?_
              refine lv_aload_n hx hb dX7_set_53 rfl (lv_at hl 1 rfl) ?_
              refine G_7_10 X hG 0 rfl dX7_set_54 ?_
              refine lv_iload_n hx hb dX7_set_57 rfl (lv_at hl 2 rfl) ?_
              obtain ⟨q18, hq18, hf⟩ := cl_inv hf
              refine r_callVi (bc := [wX2 g (a 0 0) (a 1) c.2.1]) (br := [wX7 g o a nw c.1, wX2 g (a 0 1) (a 2) c.2.2.1, wX0 g (a 0 3) (a 3) c.2.2.2.1, wYs g a nw c.2.2.2.2.1, wX6 g (a 0 6) (a 6) c.2.2.2.2.2.1, wX4 g (a 0 7) (a 9) c.2.2.2.2.2.2.1, wTs g a c.2.2.2.2.2.2.2.1, wSs g a c.2.2.2.2.2.2.2.2.1, wX1 g (a 0 11) (a 5) c.2.2.2.2.2.2.2.2.2.1, wF g (a 5 3) 6 c.2.2.2.2.2.2.2.2.2.2]) (bs' := [wX7 g o a nw c.1, wX2 g (a 0 0) (a 1) c.2.1, wX2 g (a 0 1) (a 2) c.2.2.1, wX0 g (a 0 3) (a 3) c.2.2.2.1, wYs g a nw c.2.2.2.2.1, wX6 g (a 0 6) (a 6) c.2.2.2.2.2.1, wX4 g (a 0 7) (a 9) c.2.2.2.2.2.2.1, wTs g a c.2.2.2.2.2.2.2.1, wSs g a c.2.2.2.2.2.2.2.2.1, wX1 g (a 0 11) (a 5) c.2.2.2.2.2.2.2.2.2.1, wF g (a 5 3) 6 c.2.2.2.2.2.2.2.2.2.2]) (As := [.int a1]) (rest := [.int 0, .int a2]) X hG hl.1 (c_X2_sizeOf g l (a 0 0) (a 1) n a1 c.2.1 q18 hq18) ((blk_perm2 [1, 0, 2, 3, 4, 5, 6, 7, 8, 9, 10] 11 rfl rfl (by decide)).flatten) ((blk_perm2 [1, 0, 2, 3, 4, 5, 6, 7, 8, 9, 10] 11 rfl rfl (by decide)).flatten) lk_X2_sizeOf lv_X2_sizeOf ml_7_129 (j := 1) (k := 0) rfl rfl rfl rfl rfl ⟨Nat.le_of_ble_eq_true rfl, Nat.le_of_ble_eq_true rfl⟩ rfl rfl (Nat.le_of_ble_eq_true rfl) ⟨Nat.zero_le _, Nat.zero_le _⟩ dX7_set_58 (fun H locs hG => ?_)
              refine lv_iconst (v := 1) hx hb dX7_set_61 (by decide) ?_
              refine lv_isub hx hb dX7_set_62 ?_
              obtain ⟨q19, hq19, hf⟩ := cl_inv hf
              refine r_callSi (bc := []) (br := [wX7 g o a nw c.1, wX2 g (a 0 0) (a 1) c.2.1, wX2 g (a 0 1) (a 2) c.2.2.1, wX0 g (a 0 3) (a 3) c.2.2.2.1, wYs g a nw c.2.2.2.2.1, wX6 g (a 0 6) (a 6) c.2.2.2.2.2.1, wX4 g (a 0 7) (a 9) c.2.2.2.2.2.2.1, wTs g a c.2.2.2.2.2.2.2.1, wSs g a c.2.2.2.2.2.2.2.2.1, wX1 g (a 0 11) (a 5) c.2.2.2.2.2.2.2.2.2.1, wF g (a 5 3) 6 c.2.2.2.2.2.2.2.2.2.2]) (bs' := [wX7 g o a nw c.1, wX2 g (a 0 0) (a 1) c.2.1, wX2 g (a 0 1) (a 2) c.2.2.1, wX0 g (a 0 3) (a 3) c.2.2.2.1, wYs g a nw c.2.2.2.2.1, wX6 g (a 0 6) (a 6) c.2.2.2.2.2.1, wX4 g (a 0 7) (a 9) c.2.2.2.2.2.2.1, wTs g a c.2.2.2.2.2.2.2.1, wSs g a c.2.2.2.2.2.2.2.2.1, wX1 g (a 0 11) (a 5) c.2.2.2.2.2.2.2.2.2.1, wF g (a 5 3) 6 c.2.2.2.2.2.2.2.2.2.2]) (As := [.int a2, .int 0, .int (q18 - 1)]) (rest := []) X hG hl.1 (c_X7_between g l n a2 0 (q18 - 1) q19 hq19) (List.Perm.refl _) (List.Perm.refl _) lk_X7_between ls_X7_between ml_7_106 rfl rfl ⟨Nat.le_of_ble_eq_true rfl, Nat.le_of_ble_eq_true rfl⟩ rfl rfl (Nat.le_of_ble_eq_true rfl) ⟨Nat.zero_le _, Nat.zero_le _⟩ dX7_set_63 (fun H locs hG => ?_)
              refine lv_if_ne (tgt := 72) hx hb dX7_set_66 (by decide) (fun hc20 => ?_) (fun hc20 => ?_)
              · replace hf := ite_f hf hc20
                refine lv_aload hx hb dX7_set_72 (lv_at hl 0 rfl) ?_
                refine lv_iload_n hx hb dX7_set_74 rfl (lv_at hl 3 rfl) ?_
                refine r_iald X hG 1 3 rfl rfl hf dX7_set_75 (fun x21 hf => ?_)
                refine lv_istore (lv' := [(5, .int x21), (4, .ref (a 1 3)), (0, .ref o), (1, .int a1), (2, .int a2), (3, .int a3)]) hx hb dX7_set_76 hl (by decide) rfl (fun ls hl => ?_)
                refine lv_aload hx hb dX7_set_78 (lv_at hl 1 rfl) ?_
                refine lv_iload_n hx hb dX7_set_80 rfl (lv_at hl 4 rfl) ?_
                refine lv_iload_n hx hb dX7_set_81 rfl (lv_at hl 5 rfl) ?_
                refine r_iast X hG 1 3 rfl rfl hf (fun t => [wX7 g o a nw c.1, wX2 g (a 0 0) (a 1) t, wX2 g (a 0 1) (a 2) c.2.2.1, wX0 g (a 0 3) (a 3) c.2.2.2.1, wYs g a nw c.2.2.2.2.1, wX6 g (a 0 6) (a 6) c.2.2.2.2.2.1, wX4 g (a 0 7) (a 9) c.2.2.2.2.2.2.1, wTs g a c.2.2.2.2.2.2.2.1, wSs g a c.2.2.2.2.2.2.2.2.1, wX1 g (a 0 11) (a 5) c.2.2.2.2.2.2.2.2.2.1, wF g (a 5 3) 6 c.2.2.2.2.2.2.2.2.2.2]) rfl dX7_set_82 (fun z22 H locs hf hG => ?_)
                refine lv_iload hx hb dX7_set_83 (lv_at hl 0 rfl) ?_
                have hq9 := Option.some.inj hf
                subst hq9
                subst hQ
                exact r_iret X hG dX7_set_85
              · replace hf := ite_t hf hc20
                refine lv_bipush (v := (-2)) hx hb dX7_set_69 (by decide) ?_
                have hq9 := Option.some.inj hf
                subst hq9
                subst hQ
                exact r_iret X hG dX7_set_71
            · replace hf := ite_f hf hk23
              by_cases hk29 : w5 = 4
              · replace hf := ite_t hf hk29
                subst hk29
                refine W.eq (g2 := F0 m 44 ls [.ref (a 1 4)]) rfl ?_
                refine lv_astore (lv' := [(4, .ref (a 1 4)), (0, .ref o), (1, .int a1), (2, .int a2), (3, .int a3)]) hx hb dX7_set_44 hl (by decide) rfl (fun ls hl => ?_)
                refine lv_aload hx hb dX7_set_46 (lv_at hl 0 rfl) ?_
                refine lv_ifnull hx hb dX7_set_48 ?_
                refine lv_iload_n hx hb dX7_set_51 rfl (lv_at hl 3 rfl) ?_
                refine lv_iconst (v := 0) hx hb dX7_set_52 (by decide) ?_
                refine lv_aload_n hx hb dX7_set_53 rfl (lv_at hl 1 rfl) ?_
                refine G_7_10 X hG 0 rfl dX7_set_54 ?_
                refine lv_iload_n hx hb dX7_set_57 rfl (lv_at hl 2 rfl) ?_
                obtain ⟨q24, hq24, hf⟩ := cl_inv hf
                refine r_callVi (bc := [wX2 g (a 0 0) (a 1) c.2.1]) (br := [wX7 g o a nw c.1, wX2 g (a 0 1) (a 2) c.2.2.1, wX0 g (a 0 3) (a 3) c.2.2.2.1, wYs g a nw c.2.2.2.2.1, wX6 g (a 0 6) (a 6) c.2.2.2.2.2.1, wX4 g (a 0 7) (a 9) c.2.2.2.2.2.2.1, wTs g a c.2.2.2.2.2.2.2.1, wSs g a c.2.2.2.2.2.2.2.2.1, wX1 g (a 0 11) (a 5) c.2.2.2.2.2.2.2.2.2.1, wF g (a 5 3) 6 c.2.2.2.2.2.2.2.2.2.2]) (bs' := [wX7 g o a nw c.1, wX2 g (a 0 0) (a 1) c.2.1, wX2 g (a 0 1) (a 2) c.2.2.1, wX0 g (a 0 3) (a 3) c.2.2.2.1, wYs g a nw c.2.2.2.2.1, wX6 g (a 0 6) (a 6) c.2.2.2.2.2.1, wX4 g (a 0 7) (a 9) c.2.2.2.2.2.2.1, wTs g a c.2.2.2.2.2.2.2.1, wSs g a c.2.2.2.2.2.2.2.2.1, wX1 g (a 0 11) (a 5) c.2.2.2.2.2.2.2.2.2.1, wF g (a 5 3) 6 c.2.2.2.2.2.2.2.2.2.2]) (As := [.int a1]) (rest := [.int 0, .int a2]) X hG hl.1 (c_X2_sizeOf g l (a 0 0) (a 1) n a1 c.2.1 q24 hq24) ((blk_perm2 [1, 0, 2, 3, 4, 5, 6, 7, 8, 9, 10] 11 rfl rfl (by decide)).flatten) ((blk_perm2 [1, 0, 2, 3, 4, 5, 6, 7, 8, 9, 10] 11 rfl rfl (by decide)).flatten) lk_X2_sizeOf lv_X2_sizeOf ml_7_129 (j := 1) (k := 0) rfl rfl rfl rfl rfl ⟨Nat.le_of_ble_eq_true rfl, Nat.le_of_ble_eq_true rfl⟩ rfl rfl (Nat.le_of_ble_eq_true rfl) ⟨Nat.zero_le _, Nat.zero_le _⟩ dX7_set_58 (fun H locs hG => ?_)
                refine lv_iconst (v := 1) hx hb dX7_set_61 (by decide) ?_
                refine lv_isub hx hb dX7_set_62 ?_
                obtain ⟨q25, hq25, hf⟩ := cl_inv hf
                refine r_callSi (bc := []) (br := [wX7 g o a nw c.1, wX2 g (a 0 0) (a 1) c.2.1, wX2 g (a 0 1) (a 2) c.2.2.1, wX0 g (a 0 3) (a 3) c.2.2.2.1, wYs g a nw c.2.2.2.2.1, wX6 g (a 0 6) (a 6) c.2.2.2.2.2.1, wX4 g (a 0 7) (a 9) c.2.2.2.2.2.2.1, wTs g a c.2.2.2.2.2.2.2.1, wSs g a c.2.2.2.2.2.2.2.2.1, wX1 g (a 0 11) (a 5) c.2.2.2.2.2.2.2.2.2.1, wF g (a 5 3) 6 c.2.2.2.2.2.2.2.2.2.2]) (bs' := [wX7 g o a nw c.1, wX2 g (a 0 0) (a 1) c.2.1, wX2 g (a 0 1) (a 2) c.2.2.1, wX0 g (a 0 3) (a 3) c.2.2.2.1, wYs g a nw c.2.2.2.2.1, wX6 g (a 0 6) (a 6) c.2.2.2.2.2.1, wX4 g (a 0 7) (a 9) c.2.2.2.2.2.2.1, wTs g a c.2.2.2.2.2.2.2.1, wSs g a c.2.2.2.2.2.2.2.2.1, wX1 g (a 0 11) (a 5) c.2.2.2.2.2.2.2.2.2.1, wF g (a 5 3) 6 c.2.2.2.2.2.2.2.2.2.2]) (As := [.int a2, .int 0, .int (q24 - 1)]) (rest := []) X hG hl.1 (c_X7_between g l n a2 0 (q24 - 1) q25 hq25) (List.Perm.refl _) (List.Perm.refl _) lk_X7_between ls_X7_between ml_7_106 rfl rfl ⟨Nat.le_of_ble_eq_true rfl, Nat.le_of_ble_eq_true rfl⟩ rfl rfl (Nat.le_of_ble_eq_true rfl) ⟨Nat.zero_le _, Nat.zero_le _⟩ dX7_set_63 (fun H locs hG => ?_)
                refine lv_if_ne (tgt := 72) hx hb dX7_set_66 (by decide) (fun hc26 => ?_) (fun hc26 => ?_)
                · replace hf := ite_f hf hc26
                  refine lv_aload hx hb dX7_set_72 (lv_at hl 0 rfl) ?_
                  refine lv_iload_n hx hb dX7_set_74 rfl (lv_at hl 3 rfl) ?_
                  refine r_iald X hG 1 4 rfl rfl hf dX7_set_75 (fun x27 hf => ?_)
                  refine lv_istore (lv' := [(5, .int x27), (4, .ref (a 1 4)), (0, .ref o), (1, .int a1), (2, .int a2), (3, .int a3)]) hx hb dX7_set_76 hl (by decide) rfl (fun ls hl => ?_)
                  refine lv_aload hx hb dX7_set_78 (lv_at hl 1 rfl) ?_
                  refine lv_iload_n hx hb dX7_set_80 rfl (lv_at hl 4 rfl) ?_
                  refine lv_iload_n hx hb dX7_set_81 rfl (lv_at hl 5 rfl) ?_
                  refine r_iast X hG 1 4 rfl rfl hf (fun t => [wX7 g o a nw c.1, wX2 g (a 0 0) (a 1) t, wX2 g (a 0 1) (a 2) c.2.2.1, wX0 g (a 0 3) (a 3) c.2.2.2.1, wYs g a nw c.2.2.2.2.1, wX6 g (a 0 6) (a 6) c.2.2.2.2.2.1, wX4 g (a 0 7) (a 9) c.2.2.2.2.2.2.1, wTs g a c.2.2.2.2.2.2.2.1, wSs g a c.2.2.2.2.2.2.2.2.1, wX1 g (a 0 11) (a 5) c.2.2.2.2.2.2.2.2.2.1, wF g (a 5 3) 6 c.2.2.2.2.2.2.2.2.2.2]) rfl dX7_set_82 (fun z28 H locs hf hG => ?_)
                  refine lv_iload hx hb dX7_set_83 (lv_at hl 0 rfl) ?_
                  have hq9 := Option.some.inj hf
                  subst hq9
                  subst hQ
                  exact r_iret X hG dX7_set_85
                · replace hf := ite_t hf hc26
                  refine lv_bipush (v := (-2)) hx hb dX7_set_69 (by decide) ?_
                  have hq9 := Option.some.inj hf
                  subst hq9
                  subst hQ
                  exact r_iret X hG dX7_set_71
              · replace hf := ite_f hf hk29
                by_cases hk35 : w5 = 5
                · replace hf := ite_t hf hk35
                  subst hk35
                  refine W.eq (g2 := F0 m 44 ls [.ref (a 1 5)]) rfl ?_
                  refine lv_astore (lv' := [(4, .ref (a 1 5)), (0, .ref o), (1, .int a1), (2, .int a2), (3, .int a3)]) hx hb dX7_set_44 hl (by decide) rfl (fun ls hl => ?_)
                  refine lv_aload hx hb dX7_set_46 (lv_at hl 0 rfl) ?_
                  refine lv_ifnull hx hb dX7_set_48 ?_
                  refine lv_iload_n hx hb dX7_set_51 rfl (lv_at hl 3 rfl) ?_
                  refine lv_iconst (v := 0) hx hb dX7_set_52 (by decide) ?_
                  refine lv_aload_n hx hb dX7_set_53 rfl (lv_at hl 1 rfl) ?_
                  refine G_7_10 X hG 0 rfl dX7_set_54 ?_
                  refine lv_iload_n hx hb dX7_set_57 rfl (lv_at hl 2 rfl) ?_
                  obtain ⟨q30, hq30, hf⟩ := cl_inv hf
                  refine r_callVi (bc := [wX2 g (a 0 0) (a 1) c.2.1]) (br := [wX7 g o a nw c.1, wX2 g (a 0 1) (a 2) c.2.2.1, wX0 g (a 0 3) (a 3) c.2.2.2.1, wYs g a nw c.2.2.2.2.1, wX6 g (a 0 6) (a 6) c.2.2.2.2.2.1, wX4 g (a 0 7) (a 9) c.2.2.2.2.2.2.1, wTs g a c.2.2.2.2.2.2.2.1, wSs g a c.2.2.2.2.2.2.2.2.1, wX1 g (a 0 11) (a 5) c.2.2.2.2.2.2.2.2.2.1, wF g (a 5 3) 6 c.2.2.2.2.2.2.2.2.2.2]) (bs' := [wX7 g o a nw c.1, wX2 g (a 0 0) (a 1) c.2.1, wX2 g (a 0 1) (a 2) c.2.2.1, wX0 g (a 0 3) (a 3) c.2.2.2.1, wYs g a nw c.2.2.2.2.1, wX6 g (a 0 6) (a 6) c.2.2.2.2.2.1, wX4 g (a 0 7) (a 9) c.2.2.2.2.2.2.1, wTs g a c.2.2.2.2.2.2.2.1, wSs g a c.2.2.2.2.2.2.2.2.1, wX1 g (a 0 11) (a 5) c.2.2.2.2.2.2.2.2.2.1, wF g (a 5 3) 6 c.2.2.2.2.2.2.2.2.2.2]) (As := [.int a1]) (rest := [.int 0, .int a2]) X hG hl.1 (c_X2_sizeOf g l (a 0 0) (a 1) n a1 c.2.1 q30 hq30) ((blk_perm2 [1, 0, 2, 3, 4, 5, 6, 7, 8, 9, 10] 11 rfl rfl (by decide)).flatten) ((blk_perm2 [1, 0, 2, 3, 4, 5, 6, 7, 8, 9, 10] 11 rfl rfl (by decide)).flatten) lk_X2_sizeOf lv_X2_sizeOf ml_7_129 (j := 1) (k := 0) rfl rfl rfl rfl rfl ⟨Nat.le_of_ble_eq_true rfl, Nat.le_of_ble_eq_true rfl⟩ rfl rfl (Nat.le_of_ble_eq_true rfl) ⟨Nat.zero_le _, Nat.zero_le _⟩ dX7_set_58 (fun H locs hG => ?_)
                  refine lv_iconst (v := 1) hx hb dX7_set_61 (by decide) ?_
                  refine lv_isub hx hb dX7_set_62 ?_
                  obtain ⟨q31, hq31, hf⟩ := cl_inv hf
                  refine r_callSi (bc := []) (br := [wX7 g o a nw c.1, wX2 g (a 0 0) (a 1) c.2.1, wX2 g (a 0 1) (a 2) c.2.2.1, wX0 g (a 0 3) (a 3) c.2.2.2.1, wYs g a nw c.2.2.2.2.1, wX6 g (a 0 6) (a 6) c.2.2.2.2.2.1, wX4 g (a 0 7) (a 9) c.2.2.2.2.2.2.1, wTs g a c.2.2.2.2.2.2.2.1, wSs g a c.2.2.2.2.2.2.2.2.1, wX1 g (a 0 11) (a 5) c.2.2.2.2.2.2.2.2.2.1, wF g (a 5 3) 6 c.2.2.2.2.2.2.2.2.2.2]) (bs' := [wX7 g o a nw c.1, wX2 g (a 0 0) (a 1) c.2.1, wX2 g (a 0 1) (a 2) c.2.2.1, wX0 g (a 0 3) (a 3) c.2.2.2.1, wYs g a nw c.2.2.2.2.1, wX6 g (a 0 6) (a 6) c.2.2.2.2.2.1, wX4 g (a 0 7) (a 9) c.2.2.2.2.2.2.1, wTs g a c.2.2.2.2.2.2.2.1, wSs g a c.2.2.2.2.2.2.2.2.1, wX1 g (a 0 11) (a 5) c.2.2.2.2.2.2.2.2.2.1, wF g (a 5 3) 6 c.2.2.2.2.2.2.2.2.2.2]) (As := [.int a2, .int 0, .int (q30 - 1)]) (rest := []) X hG hl.1 (c_X7_between g l n a2 0 (q30 - 1) q31 hq31) (List.Perm.refl _) (List.Perm.refl _) lk_X7_between ls_X7_between ml_7_106 rfl rfl ⟨Nat.le_of_ble_eq_true rfl, Nat.le_of_ble_eq_true rfl⟩ rfl rfl (Nat.le_of_ble_eq_true rfl) ⟨Nat.zero_le _, Nat.zero_le _⟩ dX7_set_63 (fun H locs hG => ?_)
                  refine lv_if_ne (tgt := 72) hx hb dX7_set_66 (by decide) (fun hc32 => ?_) (fun hc32 => ?_)
                  · replace hf := ite_f hf hc32
                    refine lv_aload hx hb dX7_set_72 (lv_at hl 0 rfl) ?_
                    refine lv_iload_n hx hb dX7_set_74 rfl (lv_at hl 3 rfl) ?_
                    refine r_iald X hG 1 5 rfl rfl hf dX7_set_75 (fun x33 hf => ?_)
                    refine lv_istore (lv' := [(5, .int x33), (4, .ref (a 1 5)), (0, .ref o), (1, .int a1), (2, .int a2), (3, .int a3)]) hx hb dX7_set_76 hl (by decide) rfl (fun ls hl => ?_)
                    refine lv_aload hx hb dX7_set_78 (lv_at hl 1 rfl) ?_
                    refine lv_iload_n hx hb dX7_set_80 rfl (lv_at hl 4 rfl) ?_
                    refine lv_iload_n hx hb dX7_set_81 rfl (lv_at hl 5 rfl) ?_
                    refine r_iast X hG 1 5 rfl rfl hf (fun t => [wX7 g o a nw c.1, wX2 g (a 0 0) (a 1) t, wX2 g (a 0 1) (a 2) c.2.2.1, wX0 g (a 0 3) (a 3) c.2.2.2.1, wYs g a nw c.2.2.2.2.1, wX6 g (a 0 6) (a 6) c.2.2.2.2.2.1, wX4 g (a 0 7) (a 9) c.2.2.2.2.2.2.1, wTs g a c.2.2.2.2.2.2.2.1, wSs g a c.2.2.2.2.2.2.2.2.1, wX1 g (a 0 11) (a 5) c.2.2.2.2.2.2.2.2.2.1, wF g (a 5 3) 6 c.2.2.2.2.2.2.2.2.2.2]) rfl dX7_set_82 (fun z34 H locs hf hG => ?_)
                    refine lv_iload hx hb dX7_set_83 (lv_at hl 0 rfl) ?_
                    have hq9 := Option.some.inj hf
                    subst hq9
                    subst hQ
                    exact r_iret X hG dX7_set_85
                  · replace hf := ite_t hf hc32
                    refine lv_bipush (v := (-2)) hx hb dX7_set_69 (by decide) ?_
                    have hq9 := Option.some.inj hf
                    subst hq9
                    subst hQ
                    exact r_iret X hG dX7_set_71
                · replace hf := ite_f hf hk35
                  cases hf
    · replace hf := ite_t hf hc3
      refine lv_aload_n hx hb dX7_set_16 rfl (lv_at hl 0 rfl) ?_
      refine G_7_10 X hG 0 rfl dX7_set_17 ?_
      refine G_7_122 X hG 1 rfl dX7_set_20 ?_
      refine lv_istore (lv' := [(4, .int (c.2.1.1 6)), (0, .ref o), (1, .int a1), (2, .int a2), (3, .int a3)]) hx hb dX7_set_23 hl (by decide) rfl (fun ls hl => ?_)
      refine lv_aload_n hx hb dX7_set_25 rfl (lv_at hl 1 rfl) ?_
      refine G_7_10 X hG 0 rfl dX7_set_26 ?_
      refine lv_iload_n hx hb dX7_set_29 rfl (lv_at hl 4 rfl) ?_
      refine P_7_122 X hG 1 rfl hf (fun t => [wX7 g o a nw c.1, wX2 g (a 0 0) (a 1) t, wX2 g (a 0 1) (a 2) c.2.2.1, wX0 g (a 0 3) (a 3) c.2.2.2.1, wYs g a nw c.2.2.2.2.1, wX6 g (a 0 6) (a 6) c.2.2.2.2.2.1, wX4 g (a 0 7) (a 9) c.2.2.2.2.2.2.1, wTs g a c.2.2.2.2.2.2.2.1, wSs g a c.2.2.2.2.2.2.2.2.1, wX1 g (a 0 11) (a 5) c.2.2.2.2.2.2.2.2.2.1, wF g (a 5 3) 6 c.2.2.2.2.2.2.2.2.2.2]) (fun _ => rfl) dX7_set_30 (fun z36 H locs hf hG => ?_)
      refine lv_iload hx hb dX7_set_33 (lv_at hl 0 rfl) ?_
      have hq9 := Option.some.inj hf
      subst hq9
      subst hQ
      exact r_iret X hG dX7_set_35
  · replace hf := ite_t hf hc2
    refine lv_bipush (v := (-2)) hx hb dX7_set_8 (by decide) ?_
    have hq9 := Option.some.inj hf
    subst hq9
    subst hQ
    exact r_iret X hG dX7_set_10
def rmX7_shut : Room := { frames := 2, cells := 0, slots := 0, locals := 42 }
set_option maxHeartbeats 4000000 in
set_option maxRecDepth 100000 in
theorem c_X7_shut (g : GT) (l : Launch) (o : Nat) (a : Nat → Nat → Nat) (nw : Nat) (n : Nat) (a1 : Int32) (a2 : Int32) (c : CS) (q : Int32 × CS) (hf : f_X7_shut n nw a1 a2 c = some q) : CI g l yX7_shut cX7_shut 3 (some .int) rmX7_shut [.ref o, .int a1, .int a2] (wC g o a nw c) q.1 (wC g o a nw q.2) := by
  refine CI_intro RX7 rfl (by decide +kernel) (Nat.le_of_ble_eq_true rfl) ?_
  intro p e s m args below meth c9 A ls Q hQ X hl hG
  have hl : lv_has ls 3 [(0, .ref o), (1, .int a1), (2, .int a2)] := hl
  have hG : GM g A s.heap s.heap [] [wX7 g o a nw c.1, wX2 g (a 0 0) (a 1) c.2.1, wX2 g (a 0 1) (a 2) c.2.2.1, wX0 g (a 0 3) (a 3) c.2.2.2.1, wYs g a nw c.2.2.2.2.1, wX6 g (a 0 6) (a 6) c.2.2.2.2.2.1, wX4 g (a 0 7) (a 9) c.2.2.2.2.2.2.1, wTs g a c.2.2.2.2.2.2.2.1, wSs g a c.2.2.2.2.2.2.2.2.1, wX1 g (a 0 11) (a 5) c.2.2.2.2.2.2.2.2.2.1, wF g (a 5 3) 6 c.2.2.2.2.2.2.2.2.2.2] := hG
  have hx := X.1
  have hb := X.2.1
  have hown := X.2.2.2.1
  unfold f_X7_shut at hf
  refine lv_iload_n hx hb dX7_shut_0 rfl (lv_at hl 1 rfl) ?_
  refine lv_iconst (v := (-1)) hx hb dX7_shut_1 (by decide) ?_
  refine jn_use (P := fun (t1 : Unit) => ∀ (H : Heap) (locs : List Loc) (ls : Array Slot), GM g A s.heap H locs [wX7 g o a nw c.1, wX2 g (a 0 0) (a 1) c.2.1, wX2 g (a 0 1) (a 2) c.2.2.1, wX0 g (a 0 3) (a 3) c.2.2.2.1, wYs g a nw c.2.2.2.2.1, wX6 g (a 0 6) (a 6) c.2.2.2.2.2.1, wX4 g (a 0 7) (a 9) c.2.2.2.2.2.2.1, wTs g a c.2.2.2.2.2.2.2.1, wSs g a c.2.2.2.2.2.2.2.2.1, wX1 g (a 0 11) (a 5) c.2.2.2.2.2.2.2.2.2.1, wF g (a 5 3) 6 c.2.2.2.2.2.2.2.2.2.2] → lv_has ls 3 [(0, .ref o), (1, .int a1), (2, .int a2)] → W p l e rmX7_shut s m args below meth c9 H locs 0 0 Q (F0 m 27 ls [])) hf (fun t1 hf H locs ls hG hl => ?_) (fun K2 hK2 hf => ?_)
  · refine lv_aload_n hx hb dX7_shut_27 rfl (lv_at hl 0 rfl) ?_
    refine G_7_10 X hG 0 rfl dX7_shut_28 ?_
    refine lv_iload_n hx hb dX7_shut_31 rfl (lv_at hl 1 rfl) ?_
    refine P_7_133 X hG 1 rfl hf (fun t => [wX7 g o a nw c.1, wX2 g (a 0 0) (a 1) t, wX2 g (a 0 1) (a 2) c.2.2.1, wX0 g (a 0 3) (a 3) c.2.2.2.1, wYs g a nw c.2.2.2.2.1, wX6 g (a 0 6) (a 6) c.2.2.2.2.2.1, wX4 g (a 0 7) (a 9) c.2.2.2.2.2.2.1, wTs g a c.2.2.2.2.2.2.2.1, wSs g a c.2.2.2.2.2.2.2.2.1, wX1 g (a 0 11) (a 5) c.2.2.2.2.2.2.2.2.2.1, wF g (a 5 3) 6 c.2.2.2.2.2.2.2.2.2.2]) (fun _ => rfl) dX7_shut_32 (fun z3 H locs hf hG => ?_)
    refine lv_aload_n hx hb dX7_shut_35 rfl (lv_at hl 0 rfl) ?_
    refine G_7_10 X hG 0 rfl dX7_shut_36 ?_
    refine lv_iload_n hx hb dX7_shut_39 rfl (lv_at hl 2 rfl) ?_
    refine P_7_136 X hG 1 rfl hf (fun t => [wX7 g o a nw c.1, wX2 g (a 0 0) (a 1) t, wX2 g (a 0 1) (a 2) c.2.2.1, wX0 g (a 0 3) (a 3) c.2.2.2.1, wYs g a nw c.2.2.2.2.1, wX6 g (a 0 6) (a 6) c.2.2.2.2.2.1, wX4 g (a 0 7) (a 9) c.2.2.2.2.2.2.1, wTs g a c.2.2.2.2.2.2.2.1, wSs g a c.2.2.2.2.2.2.2.2.1, wX1 g (a 0 11) (a 5) c.2.2.2.2.2.2.2.2.2.1, wF g (a 5 3) 6 c.2.2.2.2.2.2.2.2.2.2]) (fun _ => rfl) dX7_shut_40 (fun z4 H locs hf hG => ?_)
    refine lv_iconst (v := 1) hx hb dX7_shut_43 (by decide) ?_
    have hq9 := Option.some.inj hf
    subst hq9
    subst hQ
    exact r_iret X hG dX7_shut_44
  refine lv_icmp_eq (tgt := 27) hx hb dX7_shut_2 (by decide) (fun hc5 => ?_) (fun hc5 => ?_)
  · replace hf := ite_t hf hc5
    exact hK2 _ hf _ _ _ hG (lv_sub hl [0, 1, 2] rfl)
  · replace hf := ite_f hf hc5
    refine lv_iload_n hx hb dX7_shut_5 rfl (lv_at hl 1 rfl) ?_
    obtain ⟨q6, hq6, hf⟩ := cl_inv hf
    refine r_callSi (bc := []) (br := [wX7 g o a nw c.1, wX2 g (a 0 0) (a 1) c.2.1, wX2 g (a 0 1) (a 2) c.2.2.1, wX0 g (a 0 3) (a 3) c.2.2.2.1, wYs g a nw c.2.2.2.2.1, wX6 g (a 0 6) (a 6) c.2.2.2.2.2.1, wX4 g (a 0 7) (a 9) c.2.2.2.2.2.2.1, wTs g a c.2.2.2.2.2.2.2.1, wSs g a c.2.2.2.2.2.2.2.2.1, wX1 g (a 0 11) (a 5) c.2.2.2.2.2.2.2.2.2.1, wF g (a 5 3) 6 c.2.2.2.2.2.2.2.2.2.2]) (bs' := [wX7 g o a nw c.1, wX2 g (a 0 0) (a 1) c.2.1, wX2 g (a 0 1) (a 2) c.2.2.1, wX0 g (a 0 3) (a 3) c.2.2.2.1, wYs g a nw c.2.2.2.2.1, wX6 g (a 0 6) (a 6) c.2.2.2.2.2.1, wX4 g (a 0 7) (a 9) c.2.2.2.2.2.2.1, wTs g a c.2.2.2.2.2.2.2.1, wSs g a c.2.2.2.2.2.2.2.2.1, wX1 g (a 0 11) (a 5) c.2.2.2.2.2.2.2.2.2.1, wF g (a 5 3) 6 c.2.2.2.2.2.2.2.2.2.2]) (As := [.int a1]) (rest := []) X hG hl.1 (c_X7_isMinute g l n a1 q6 hq6) (List.Perm.refl _) (List.Perm.refl _) lk_X7_isMinute ls_X7_isMinute ml_7_110 rfl rfl ⟨Nat.le_of_ble_eq_true rfl, Nat.le_of_ble_eq_true rfl⟩ rfl rfl (Nat.le_of_ble_eq_true rfl) ⟨Nat.zero_le _, Nat.zero_le _⟩ dX7_shut_6 (fun H locs hG => ?_)
    refine lv_if_eq (tgt := 24) hx hb dX7_shut_9 (by decide) (fun hc7 => ?_) (fun hc7 => ?_)
    · replace hf := ite_t hf hc7
      refine lv_bipush (v := (-2)) hx hb dX7_shut_24 (by decide) ?_
      have hq9 := Option.some.inj hf
      subst hq9
      subst hQ
      exact r_iret X hG dX7_shut_26
    · replace hf := ite_f hf hc7
      refine lv_iload_n hx hb dX7_shut_12 rfl (lv_at hl 2 rfl) ?_
      obtain ⟨q8, hq8, hf⟩ := cl_inv hf
      refine r_callSi (bc := []) (br := [wX7 g o a nw c.1, wX2 g (a 0 0) (a 1) c.2.1, wX2 g (a 0 1) (a 2) c.2.2.1, wX0 g (a 0 3) (a 3) c.2.2.2.1, wYs g a nw c.2.2.2.2.1, wX6 g (a 0 6) (a 6) c.2.2.2.2.2.1, wX4 g (a 0 7) (a 9) c.2.2.2.2.2.2.1, wTs g a c.2.2.2.2.2.2.2.1, wSs g a c.2.2.2.2.2.2.2.2.1, wX1 g (a 0 11) (a 5) c.2.2.2.2.2.2.2.2.2.1, wF g (a 5 3) 6 c.2.2.2.2.2.2.2.2.2.2]) (bs' := [wX7 g o a nw c.1, wX2 g (a 0 0) (a 1) c.2.1, wX2 g (a 0 1) (a 2) c.2.2.1, wX0 g (a 0 3) (a 3) c.2.2.2.1, wYs g a nw c.2.2.2.2.1, wX6 g (a 0 6) (a 6) c.2.2.2.2.2.1, wX4 g (a 0 7) (a 9) c.2.2.2.2.2.2.1, wTs g a c.2.2.2.2.2.2.2.1, wSs g a c.2.2.2.2.2.2.2.2.1, wX1 g (a 0 11) (a 5) c.2.2.2.2.2.2.2.2.2.1, wF g (a 5 3) 6 c.2.2.2.2.2.2.2.2.2.2]) (As := [.int a2]) (rest := []) X hG hl.1 (c_X7_isMinute g l n a2 q8 hq8) (List.Perm.refl _) (List.Perm.refl _) lk_X7_isMinute ls_X7_isMinute ml_7_110 rfl rfl ⟨Nat.le_of_ble_eq_true rfl, Nat.le_of_ble_eq_true rfl⟩ rfl rfl (Nat.le_of_ble_eq_true rfl) ⟨Nat.zero_le _, Nat.zero_le _⟩ dX7_shut_13 (fun H locs hG => ?_)
      refine lv_if_eq (tgt := 24) hx hb dX7_shut_16 (by decide) (fun hc9 => ?_) (fun hc9 => ?_)
      · replace hf := ite_t hf hc9
        refine lv_bipush (v := (-2)) hx hb dX7_shut_24 (by decide) ?_
        have hq9 := Option.some.inj hf
        subst hq9
        subst hQ
        exact r_iret X hG dX7_shut_26
      · replace hf := ite_f hf hc9
        refine lv_iload_n hx hb dX7_shut_19 rfl (lv_at hl 2 rfl) ?_
        refine lv_iload_n hx hb dX7_shut_20 rfl (lv_at hl 1 rfl) ?_
        refine lv_icmp_ge (tgt := 27) hx hb dX7_shut_21 (by decide) (fun hc10 => ?_) (fun hc10 => ?_)
        · replace hf := ite_t hf hc10
          exact hK2 _ hf _ _ _ hG (lv_sub hl [0, 1, 2] rfl)
        · replace hf := ite_f hf hc10
          refine lv_bipush (v := (-2)) hx hb dX7_shut_24 (by decide) ?_
          have hq9 := Option.some.inj hf
          subst hq9
          subst hQ
          exact r_iret X hG dX7_shut_26
def rmX7_feed : Room := { frames := 1, cells := 0, slots := 0, locals := 22 }
set_option maxHeartbeats 4000000 in
set_option maxRecDepth 100000 in
theorem c_X7_feed (g : GT) (l : Launch) (o : Nat) (a : Nat → Nat → Nat) (nw : Nat) (n : Nat) (a1 : Int32) (a2 : Int64) (c : CS) (q : Int32 × CS) (hf : f_X7_feed n nw a1 a2 c = some q) : CI g l yX7_feed cX7_feed 5 (some .int) rmX7_feed [.ref o, .int a1, .long a2] (wC g o a nw c) q.1 (wC g o a nw q.2) := by
  refine CI_intro RX7 rfl (by decide +kernel) (Nat.le_of_ble_eq_true rfl) ?_
  intro p e s m args below meth c9 A ls Q hQ X hl hG
  have hl : lv_has ls 5 [(0, .ref o), (1, .int a1), (2, .long a2)] := hl
  have hG : GM g A s.heap s.heap [] [wX7 g o a nw c.1, wX2 g (a 0 0) (a 1) c.2.1, wX2 g (a 0 1) (a 2) c.2.2.1, wX0 g (a 0 3) (a 3) c.2.2.2.1, wYs g a nw c.2.2.2.2.1, wX6 g (a 0 6) (a 6) c.2.2.2.2.2.1, wX4 g (a 0 7) (a 9) c.2.2.2.2.2.2.1, wTs g a c.2.2.2.2.2.2.2.1, wSs g a c.2.2.2.2.2.2.2.2.1, wX1 g (a 0 11) (a 5) c.2.2.2.2.2.2.2.2.2.1, wF g (a 5 3) 6 c.2.2.2.2.2.2.2.2.2.2] := hG
  have hx := X.1
  have hb := X.2.1
  have hown := X.2.2.2.1
  unfold f_X7_feed at hf
  refine lv_iload_n hx hb dX7_feed_0 rfl (lv_at hl 1 rfl) ?_
  refine lv_iconst (v := 1) hx hb dX7_feed_1 (by decide) ?_
  refine lv_bipush (v := 8) hx hb dX7_feed_2 (by decide) ?_
  obtain ⟨q1, hq1, hf⟩ := cl_inv hf
  refine r_callSi (bc := []) (br := [wX7 g o a nw c.1, wX2 g (a 0 0) (a 1) c.2.1, wX2 g (a 0 1) (a 2) c.2.2.1, wX0 g (a 0 3) (a 3) c.2.2.2.1, wYs g a nw c.2.2.2.2.1, wX6 g (a 0 6) (a 6) c.2.2.2.2.2.1, wX4 g (a 0 7) (a 9) c.2.2.2.2.2.2.1, wTs g a c.2.2.2.2.2.2.2.1, wSs g a c.2.2.2.2.2.2.2.2.1, wX1 g (a 0 11) (a 5) c.2.2.2.2.2.2.2.2.2.1, wF g (a 5 3) 6 c.2.2.2.2.2.2.2.2.2.2]) (bs' := [wX7 g o a nw c.1, wX2 g (a 0 0) (a 1) c.2.1, wX2 g (a 0 1) (a 2) c.2.2.1, wX0 g (a 0 3) (a 3) c.2.2.2.1, wYs g a nw c.2.2.2.2.1, wX6 g (a 0 6) (a 6) c.2.2.2.2.2.1, wX4 g (a 0 7) (a 9) c.2.2.2.2.2.2.1, wTs g a c.2.2.2.2.2.2.2.1, wSs g a c.2.2.2.2.2.2.2.2.1, wX1 g (a 0 11) (a 5) c.2.2.2.2.2.2.2.2.2.1, wF g (a 5 3) 6 c.2.2.2.2.2.2.2.2.2.2]) (As := [.int a1, .int 1, .int 8]) (rest := []) X hG hl.1 (c_X7_between g l n a1 1 8 q1 hq1) (List.Perm.refl _) (List.Perm.refl _) lk_X7_between ls_X7_between ml_7_106 rfl rfl ⟨Nat.le_of_ble_eq_true rfl, Nat.le_of_ble_eq_true rfl⟩ rfl rfl (Nat.le_of_ble_eq_true rfl) ⟨Nat.zero_le _, Nat.zero_le _⟩ dX7_feed_4 (fun H locs hG => ?_)
  refine lv_if_ne (tgt := 13) hx hb dX7_feed_7 (by decide) (fun hc2 => ?_) (fun hc2 => ?_)
  · replace hf := ite_f hf hc2
    refine lv_aload_n hx hb dX7_feed_13 rfl (lv_at hl 0 rfl) ?_
    refine G_7_50 X hG 0 rfl dX7_feed_14 ?_
    refine G_7_158 X hG 6 rfl dX7_feed_17 ?_
    refine lv_iload_n hx hb dX7_feed_20 rfl (lv_at hl 1 rfl) ?_
    refine lv_iadd hx hb dX7_feed_21 ?_
    refine lv_sipush (v := 160) hx hb dX7_feed_22 (by decide) ?_
    refine lv_icmp_le (tgt := 31) hx hb dX7_feed_25 (by decide) (fun hc3 => ?_) (fun hc3 => ?_)
    · replace hf := ite_t hf hc3
      refine lv_iconst (v := 0) hx hb dX7_feed_31 (by decide) ?_
      refine lv_istore (lv' := [(4, .int 0), (0, .ref o), (1, .int a1), (2, .long a2)]) hx hb dX7_feed_32 hl (by decide) rfl (fun ls hl => ?_)
      refine lp_go (P := fun (t4 : Int32 × MS × MS × MS × MS × MS × MS × MS × (Nat → MS) × (Nat → MS) × MS × MS) => ∀ (H : Heap) (locs : List Loc) (ls : Array Slot), GM g A s.heap H locs [wX7 g o a nw t4.2.1, wX2 g (a 0 0) (a 1) t4.2.2.1, wX2 g (a 0 1) (a 2) t4.2.2.2.1, wX0 g (a 0 3) (a 3) t4.2.2.2.2.1, wYs g a nw t4.2.2.2.2.2.1, wX6 g (a 0 6) (a 6) t4.2.2.2.2.2.2.1, wX4 g (a 0 7) (a 9) t4.2.2.2.2.2.2.2.1, wTs g a t4.2.2.2.2.2.2.2.2.1, wSs g a t4.2.2.2.2.2.2.2.2.2.1, wX1 g (a 0 11) (a 5) t4.2.2.2.2.2.2.2.2.2.2.1, wF g (a 5 3) 6 t4.2.2.2.2.2.2.2.2.2.2.2] → lv_has ls 5 [(0, .ref o), (1, .int a1), (2, .long a2), (4, .int t4.1)] → W p l e rmX7_feed s m args below meth c9 H locs 0 0 Q (F0 m 34 ls [])) hf (fun K5 hK5 t4 hf H locs ls hG hl => ?_) _ _ _ hG (lv_sub hl [1, 2, 3, 0] rfl)
      refine lv_iload hx hb dX7_feed_34 (lv_at hl 3 rfl) ?_
      refine lv_iload_n hx hb dX7_feed_36 rfl (lv_at hl 1 rfl) ?_
      refine lv_icmp_ge (tgt := 65) hx hb dX7_feed_37 (by decide) (fun hc6 => ?_) (fun hc6 => ?_)
      · replace hf := ite_t hf hc6
        refine lv_aload_n hx hb dX7_feed_65 rfl (lv_at hl 0 rfl) ?_
        refine G_7_50 X hG 0 rfl dX7_feed_66 ?_
        refine G_7_158 X hG 6 rfl dX7_feed_69 ?_
        have hq9 := Option.some.inj hf
        subst hq9
        subst hQ
        exact r_iret X hG dX7_feed_72
      · replace hf := ite_f hf hc6
        refine lv_aload_n hx hb dX7_feed_40 rfl (lv_at hl 0 rfl) ?_
        refine G_7_50 X hG 0 rfl dX7_feed_41 ?_
        refine lv_lload_n hx hb dX7_feed_44 rfl (lv_at hl 2 rfl) ?_
        refine lv_bipush (v := 8) hx hb dX7_feed_45 (by decide) ?_
        refine lv_iload hx hb dX7_feed_47 (lv_at hl 3 rfl) ?_
        refine lv_imul hx hb dX7_feed_49 ?_
        refine lv_lushr hx hb dX7_feed_50 rfl ?_
        refine lv_l2i hx hb dX7_feed_51 rfl ?_
        refine lv_sipush (v := 255) hx hb dX7_feed_52 (by decide) ?_
        refine lv_iand hx hb dX7_feed_55 ?_
        obtain ⟨q7, hq7, hf⟩ := cl_inv hf
        refine r_callVv (bc := [wX4 g (a 0 7) (a 9) t4.2.2.2.2.2.2.2.1]) (br := [wX7 g o a nw t4.2.1, wX2 g (a 0 0) (a 1) t4.2.2.1, wX2 g (a 0 1) (a 2) t4.2.2.2.1, wX0 g (a 0 3) (a 3) t4.2.2.2.2.1, wYs g a nw t4.2.2.2.2.2.1, wX6 g (a 0 6) (a 6) t4.2.2.2.2.2.2.1, wTs g a t4.2.2.2.2.2.2.2.2.1, wSs g a t4.2.2.2.2.2.2.2.2.2.1, wX1 g (a 0 11) (a 5) t4.2.2.2.2.2.2.2.2.2.2.1, wF g (a 5 3) 6 t4.2.2.2.2.2.2.2.2.2.2.2]) (bs' := [wX7 g o a nw t4.2.1, wX2 g (a 0 0) (a 1) t4.2.2.1, wX2 g (a 0 1) (a 2) t4.2.2.2.1, wX0 g (a 0 3) (a 3) t4.2.2.2.2.1, wYs g a nw t4.2.2.2.2.2.1, wX6 g (a 0 6) (a 6) t4.2.2.2.2.2.2.1, wX4 g (a 0 7) (a 9) q7, wTs g a t4.2.2.2.2.2.2.2.2.1, wSs g a t4.2.2.2.2.2.2.2.2.2.1, wX1 g (a 0 11) (a 5) t4.2.2.2.2.2.2.2.2.2.2.1, wF g (a 5 3) 6 t4.2.2.2.2.2.2.2.2.2.2.2]) (As := [.int ((Int64.toInt32 (UInt64.toInt64 (Int64.toUInt64 a2 >>> (Int64.toUInt64 (Int32.toInt64 (8 * t4.1)) &&& Int64.toUInt64 63)))) &&& 255)]) (rest := []) X hG hl.1 (c_X4_append g l (a 0 7) (a 9) n ((Int64.toInt32 (UInt64.toInt64 (Int64.toUInt64 a2 >>> (Int64.toUInt64 (Int32.toInt64 (8 * t4.1)) &&& Int64.toUInt64 63)))) &&& 255) t4.2.2.2.2.2.2.2.1 q7 hq7) ((blk_perm2 [6, 0, 1, 2, 3, 4, 5, 7, 8, 9, 10] 11 rfl rfl (by decide)).flatten) ((blk_perm2 [1, 2, 3, 4, 5, 6, 0, 7, 8, 9, 10] 11 rfl rfl (by decide)).flatten) lk_X4_append lv_X4_append ml_7_94 (j := 6) (k := 0) rfl rfl rfl rfl rfl ⟨Nat.le_of_ble_eq_true rfl, Nat.le_of_ble_eq_true rfl⟩ rfl rfl (Nat.le_of_ble_eq_true rfl) ⟨Nat.zero_le _, Nat.zero_le _⟩ dX7_feed_56 (fun H locs hG => ?_)
        refine lv_iinc (v := (t4.1 + 1)) (lv' := [(4, .int (t4.1 + 1)), (0, .ref o), (1, .int a1), (2, .long a2)]) hx hb dX7_feed_59 hl (k := 3) rfl rfl (by decide) rfl (fun ls hl => ?_)
        refine lv_goto (tgt := 34) hx hb dX7_feed_62 (by decide) ?_
        exact hK5 _ hf _ _ _ hG (lv_sub hl [1, 2, 3, 0] rfl)
    · replace hf := ite_f hf hc3
      refine lv_bipush (v := (-4)) hx hb dX7_feed_28 (by decide) ?_
      have hq9 := Option.some.inj hf
      subst hq9
      subst hQ
      exact r_iret X hG dX7_feed_30
  · replace hf := ite_t hf hc2
    refine lv_bipush (v := (-2)) hx hb dX7_feed_10 (by decide) ?_
    have hq9 := Option.some.inj hf
    subst hq9
    subst hQ
    exact r_iret X hG dX7_feed_12
def rmX7_text : Room := { frames := 74, cells := 0, slots := 0, locals := 4098 }
set_option maxHeartbeats 4000000 in
set_option maxRecDepth 100000 in
theorem c_X7_text (g : GT) (l : Launch) (o : Nat) (a : Nat → Nat → Nat) (nw : Nat) (n : Nat) (c : CS) (q : Int32 × CS) (hf : f_X7_text n nw c = some q) : CI g l yX7_text cX7_text 2 (some .int) rmX7_text [.ref o] (wC g o a nw c) q.1 (wC g o a nw q.2) := by
  refine CI_intro RX7 rfl (by decide +kernel) (Nat.le_of_ble_eq_true rfl) ?_
  intro p e s m args below meth c9 A ls Q hQ X hl hG
  have hl : lv_has ls 2 [(0, .ref o)] := hl
  have hG : GM g A s.heap s.heap [] [wX7 g o a nw c.1, wX2 g (a 0 0) (a 1) c.2.1, wX2 g (a 0 1) (a 2) c.2.2.1, wX0 g (a 0 3) (a 3) c.2.2.2.1, wYs g a nw c.2.2.2.2.1, wX6 g (a 0 6) (a 6) c.2.2.2.2.2.1, wX4 g (a 0 7) (a 9) c.2.2.2.2.2.2.1, wTs g a c.2.2.2.2.2.2.2.1, wSs g a c.2.2.2.2.2.2.2.2.1, wX1 g (a 0 11) (a 5) c.2.2.2.2.2.2.2.2.2.1, wF g (a 5 3) 6 c.2.2.2.2.2.2.2.2.2.2] := hG
  have hx := X.1
  have hb := X.2.1
  have hown := X.2.2.2.1
  unfold f_X7_text at hf
  refine lv_aload_n hx hb dX7_text_0 rfl (lv_at hl 0 rfl) ?_
  refine G_7_60 X hG 0 rfl dX7_text_1 ?_
  refine lv_bipush (v := 6) hx hb dX7_text_4 (by decide) ?_
  refine lv_icmp_lt (tgt := 12) hx hb dX7_text_6 (by decide) (fun hc1 => ?_) (fun hc1 => ?_)
  · replace hf := ite_t hf hc1
    refine lv_aload_n hx hb dX7_text_12 rfl (lv_at hl 0 rfl) ?_
    refine G_7_50 X hG 0 rfl dX7_text_13 ?_
    refine lv_aload_n hx hb dX7_text_16 rfl (lv_at hl 0 rfl) ?_
    refine G_7_56 X hG 0 rfl dX7_text_17 ?_
    refine lv_aload_n hx hb dX7_text_20 rfl (lv_at hl 0 rfl) ?_
    refine G_7_60 X hG 0 rfl dX7_text_21 ?_
    refine r_aaldq 3 X hG 0 2 rfl rfl rfl hf dX7_text_24 (fun hb2 hf => ?_)
    refine W.eq (g2 := F0 m 25 ls [.ref (a 7 (Int32.toNatClampNeg (c.1.1 9))), .ref (a 0 7)]) rfl ?_
    obtain ⟨q3, hq3, hf⟩ := cl_inv hf
    refine r_callVi (bc := [wX4 g (a 0 7) (a 9) c.2.2.2.2.2.2.1, wX5 g (a 7 (Int32.toNatClampNeg (c.1.1 9))) (a (20 + (Int32.toNatClampNeg (c.1.1 9)))) (c.2.2.2.2.2.2.2.1 (Int32.toNatClampNeg (c.1.1 9)))]) (br := [wX7 g o a nw c.1, wX2 g (a 0 0) (a 1) c.2.1, wX2 g (a 0 1) (a 2) c.2.2.1, wX0 g (a 0 3) (a 3) c.2.2.2.1, wYs g a nw c.2.2.2.2.1, wX6 g (a 0 6) (a 6) c.2.2.2.2.2.1, wTsR g a c.2.2.2.2.2.2.2.1 (Int32.toNatClampNeg (c.1.1 9)), wSs g a c.2.2.2.2.2.2.2.2.1, wX1 g (a 0 11) (a 5) c.2.2.2.2.2.2.2.2.2.1, wF g (a 5 3) 6 c.2.2.2.2.2.2.2.2.2.2]) (bs' := [wX7 g o a nw c.1, wX2 g (a 0 0) (a 1) c.2.1, wX2 g (a 0 1) (a 2) c.2.2.1, wX0 g (a 0 3) (a 3) c.2.2.2.1, wYs g a nw c.2.2.2.2.1, wX6 g (a 0 6) (a 6) c.2.2.2.2.2.1, wX4 g (a 0 7) (a 9) q3.2.1, wTs g a (va_up c.2.2.2.2.2.2.2.1 (Int32.toNatClampNeg (c.1.1 9)) q3.2.2), wSs g a c.2.2.2.2.2.2.2.2.1, wX1 g (a 0 11) (a 5) c.2.2.2.2.2.2.2.2.2.1, wF g (a 5 3) 6 c.2.2.2.2.2.2.2.2.2.2]) (As := [.ref (a 7 (Int32.toNatClampNeg (c.1.1 9)))]) (rest := []) X hG hl.1 (c_X4_read g l (a 0 7) (a 9) (a 7 (Int32.toNatClampNeg (c.1.1 9))) (a (20 + (Int32.toNatClampNeg (c.1.1 9)))) n c.2.2.2.2.2.2.1 (c.2.2.2.2.2.2.2.1 (Int32.toNatClampNeg (c.1.1 9))) q3 hq3) ((focus_perm 7 rfl (T_focus (ib_lt hb2))).trans (blk_perm2 [6, 7, 0, 1, 2, 3, 4, 5, 8, 9, 10, 11] 12 rfl rfl (by decide)).flatten) ((blk_perm2 [2, 3, 4, 5, 6, 7, 0, 1, 8, 9, 10, 11] 12 rfl rfl (by decide)).flatten.trans (focus_perm 7 rfl (T_focus2 (ib_lt hb2) _ _)).symm) lk_X4_read lv_X4_read ml_7_98 (j := 6) (k := 0) rfl rfl rfl rfl rfl ⟨Nat.le_of_ble_eq_true rfl, Nat.le_of_ble_eq_true rfl⟩ rfl rfl (Nat.le_of_ble_eq_true rfl) ⟨Nat.zero_le _, Nat.zero_le _⟩ dX7_text_25 (fun H locs hG => ?_)
    refine lv_istore_n (lv' := [(1, .int q3.1), (0, .ref o)]) hx hb dX7_text_28 rfl hl (by decide) rfl (fun ls hl => ?_)
    refine lv_aload_n hx hb dX7_text_29 rfl (lv_at hl 1 rfl) ?_
    refine G_7_50 X hG 0 rfl dX7_text_30 ?_
    obtain ⟨q4, hq4, hf⟩ := cl_inv hf
    refine r_callVv (bc := [wX4 g (a 0 7) (a 9) q3.2.1]) (br := [wX7 g o a nw c.1, wX2 g (a 0 0) (a 1) c.2.1, wX2 g (a 0 1) (a 2) c.2.2.1, wX0 g (a 0 3) (a 3) c.2.2.2.1, wYs g a nw c.2.2.2.2.1, wX6 g (a 0 6) (a 6) c.2.2.2.2.2.1, wTs g a (va_up c.2.2.2.2.2.2.2.1 (Int32.toNatClampNeg (c.1.1 9)) q3.2.2), wSs g a c.2.2.2.2.2.2.2.2.1, wX1 g (a 0 11) (a 5) c.2.2.2.2.2.2.2.2.2.1, wF g (a 5 3) 6 c.2.2.2.2.2.2.2.2.2.2]) (bs' := [wX7 g o a nw c.1, wX2 g (a 0 0) (a 1) c.2.1, wX2 g (a 0 1) (a 2) c.2.2.1, wX0 g (a 0 3) (a 3) c.2.2.2.1, wYs g a nw c.2.2.2.2.1, wX6 g (a 0 6) (a 6) c.2.2.2.2.2.1, wX4 g (a 0 7) (a 9) q4, wTs g a (va_up c.2.2.2.2.2.2.2.1 (Int32.toNatClampNeg (c.1.1 9)) q3.2.2), wSs g a c.2.2.2.2.2.2.2.2.1, wX1 g (a 0 11) (a 5) c.2.2.2.2.2.2.2.2.2.1, wF g (a 5 3) 6 c.2.2.2.2.2.2.2.2.2.2]) (As := []) (rest := []) X hG hl.1 (c_X4_empty g l (a 0 7) (a 9) n q3.2.1 q4 hq4) ((blk_perm2 [6, 0, 1, 2, 3, 4, 5, 7, 8, 9, 10] 11 rfl rfl (by decide)).flatten) ((blk_perm2 [1, 2, 3, 4, 5, 6, 0, 7, 8, 9, 10] 11 rfl rfl (by decide)).flatten) lk_X4_empty lv_X4_empty ml_7_161 (j := 6) (k := 0) rfl rfl rfl rfl rfl ⟨Nat.le_of_ble_eq_true rfl, Nat.le_of_ble_eq_true rfl⟩ rfl rfl (Nat.le_of_ble_eq_true rfl) ⟨Nat.zero_le _, Nat.zero_le _⟩ dX7_text_33 (fun H locs hG => ?_)
    refine lv_iload_n hx hb dX7_text_36 rfl (lv_at hl 0 rfl) ?_
    refine lv_iconst (v := (-1)) hx hb dX7_text_37 (by decide) ?_
    refine lv_icmp_eq (tgt := 46) hx hb dX7_text_38 (by decide) (fun hc5 => ?_) (fun hc5 => ?_)
    · replace hf := ite_t hf hc5
      refine lv_aload_n hx hb dX7_text_46 rfl (lv_at hl 1 rfl) ?_
      refine lv_dup hx hb dX7_text_47 rfl ?_
      refine G_7_60 X hG 0 rfl dX7_text_48 ?_
      refine lv_dup_x1 hx hb dX7_text_51 rfl rfl ?_
      refine lv_iconst (v := 1) hx hb dX7_text_52 (by decide) ?_
      refine lv_iadd hx hb dX7_text_53 ?_
      refine P_7_60 X hG 0 rfl hf (fun t => [wX7 g o a nw t, wX2 g (a 0 0) (a 1) c.2.1, wX2 g (a 0 1) (a 2) c.2.2.1, wX0 g (a 0 3) (a 3) c.2.2.2.1, wYs g a nw c.2.2.2.2.1, wX6 g (a 0 6) (a 6) c.2.2.2.2.2.1, wX4 g (a 0 7) (a 9) q4, wTs g a (va_up c.2.2.2.2.2.2.2.1 (Int32.toNatClampNeg (c.1.1 9)) q3.2.2), wSs g a c.2.2.2.2.2.2.2.2.1, wX1 g (a 0 11) (a 5) c.2.2.2.2.2.2.2.2.2.1, wF g (a 5 3) 6 c.2.2.2.2.2.2.2.2.2.2]) (fun _ => rfl) dX7_text_54 (fun z6 H locs hf hG => ?_)
      have hq9 := Option.some.inj hf
      subst hq9
      subst hQ
      exact r_iret X hG dX7_text_57
    · replace hf := ite_f hf hc5
      refine lv_bipush (v := (-100)) hx hb dX7_text_41 (by decide) ?_
      refine lv_iload_n hx hb dX7_text_43 rfl (lv_at hl 0 rfl) ?_
      refine lv_isub hx hb dX7_text_44 ?_
      have hq9 := Option.some.inj hf
      subst hq9
      subst hQ
      exact r_iret X hG dX7_text_45
  · replace hf := ite_f hf hc1
    refine lv_bipush (v := (-4)) hx hb dX7_text_9 (by decide) ?_
    have hq9 := Option.some.inj hf
    subst hq9
    subst hQ
    exact r_iret X hG dX7_text_11
def rmX7_force : Room := { frames := 1, cells := 0, slots := 0, locals := 22 }
set_option maxHeartbeats 4000000 in
set_option maxRecDepth 100000 in
theorem c_X7_force (g : GT) (l : Launch) (o : Nat) (a : Nat → Nat → Nat) (nw : Nat) (n : Nat) (a1 : Int32) (c : CS) (q : Int32 × CS) (hf : f_X7_force n nw a1 c = some q) : CI g l yX7_force cX7_force 3 (some .int) rmX7_force [.ref o, .int a1] (wC g o a nw c) q.1 (wC g o a nw q.2) := by
  refine CI_intro RX7 rfl (by decide +kernel) (Nat.le_of_ble_eq_true rfl) ?_
  intro p e s m args below meth c9 A ls Q hQ X hl hG
  have hl : lv_has ls 3 [(0, .ref o), (1, .int a1)] := hl
  have hG : GM g A s.heap s.heap [] [wX7 g o a nw c.1, wX2 g (a 0 0) (a 1) c.2.1, wX2 g (a 0 1) (a 2) c.2.2.1, wX0 g (a 0 3) (a 3) c.2.2.2.1, wYs g a nw c.2.2.2.2.1, wX6 g (a 0 6) (a 6) c.2.2.2.2.2.1, wX4 g (a 0 7) (a 9) c.2.2.2.2.2.2.1, wTs g a c.2.2.2.2.2.2.2.1, wSs g a c.2.2.2.2.2.2.2.2.1, wX1 g (a 0 11) (a 5) c.2.2.2.2.2.2.2.2.2.1, wF g (a 5 3) 6 c.2.2.2.2.2.2.2.2.2.2] := hG
  have hx := X.1
  have hb := X.2.1
  have hown := X.2.2.2.1
  unfold f_X7_force at hf
  refine lv_iload_n hx hb dX7_force_0 rfl (lv_at hl 1 rfl) ?_
  refine lv_iconst (v := 0) hx hb dX7_force_1 (by decide) ?_
  refine lv_aload_n hx hb dX7_force_2 rfl (lv_at hl 0 rfl) ?_
  refine G_7_60 X hG 0 rfl dX7_force_3 ?_
  refine lv_iconst (v := 1) hx hb dX7_force_6 (by decide) ?_
  refine lv_isub hx hb dX7_force_7 ?_
  obtain ⟨q1, hq1, hf⟩ := cl_inv hf
  refine r_callSi (bc := []) (br := [wX7 g o a nw c.1, wX2 g (a 0 0) (a 1) c.2.1, wX2 g (a 0 1) (a 2) c.2.2.1, wX0 g (a 0 3) (a 3) c.2.2.2.1, wYs g a nw c.2.2.2.2.1, wX6 g (a 0 6) (a 6) c.2.2.2.2.2.1, wX4 g (a 0 7) (a 9) c.2.2.2.2.2.2.1, wTs g a c.2.2.2.2.2.2.2.1, wSs g a c.2.2.2.2.2.2.2.2.1, wX1 g (a 0 11) (a 5) c.2.2.2.2.2.2.2.2.2.1, wF g (a 5 3) 6 c.2.2.2.2.2.2.2.2.2.2]) (bs' := [wX7 g o a nw c.1, wX2 g (a 0 0) (a 1) c.2.1, wX2 g (a 0 1) (a 2) c.2.2.1, wX0 g (a 0 3) (a 3) c.2.2.2.1, wYs g a nw c.2.2.2.2.1, wX6 g (a 0 6) (a 6) c.2.2.2.2.2.1, wX4 g (a 0 7) (a 9) c.2.2.2.2.2.2.1, wTs g a c.2.2.2.2.2.2.2.1, wSs g a c.2.2.2.2.2.2.2.2.1, wX1 g (a 0 11) (a 5) c.2.2.2.2.2.2.2.2.2.1, wF g (a 5 3) 6 c.2.2.2.2.2.2.2.2.2.2]) (As := [.int a1, .int 0, .int ((c.1.1 9) - 1)]) (rest := []) X hG hl.1 (c_X7_between g l n a1 0 ((c.1.1 9) - 1) q1 hq1) (List.Perm.refl _) (List.Perm.refl _) lk_X7_between ls_X7_between ml_7_106 rfl rfl ⟨Nat.le_of_ble_eq_true rfl, Nat.le_of_ble_eq_true rfl⟩ rfl rfl (Nat.le_of_ble_eq_true rfl) ⟨Nat.zero_le _, Nat.zero_le _⟩ dX7_force_8 (fun H locs hG => ?_)
  refine lv_if_ne (tgt := 17) hx hb dX7_force_11 (by decide) (fun hc2 => ?_) (fun hc2 => ?_)
  · replace hf := ite_f hf hc2
    refine lv_aload_n hx hb dX7_force_17 rfl (lv_at hl 0 rfl) ?_
    refine G_7_10 X hG 0 rfl dX7_force_18 ?_
    refine G_7_164 X hG 1 rfl dX7_force_21 ?_
    refine lv_istore_n (lv' := [(2, .int (c.2.1.1 9)), (0, .ref o), (1, .int a1)]) hx hb dX7_force_24 rfl hl (by decide) rfl (fun ls hl => ?_)
    refine lv_aload_n hx hb dX7_force_25 rfl (lv_at hl 1 rfl) ?_
    refine G_7_10 X hG 0 rfl dX7_force_26 ?_
    refine lv_iload_n hx hb dX7_force_29 rfl (lv_at hl 2 rfl) ?_
    refine P_7_164 X hG 1 rfl hf (fun t => [wX7 g o a nw c.1, wX2 g (a 0 0) (a 1) t, wX2 g (a 0 1) (a 2) c.2.2.1, wX0 g (a 0 3) (a 3) c.2.2.2.1, wYs g a nw c.2.2.2.2.1, wX6 g (a 0 6) (a 6) c.2.2.2.2.2.1, wX4 g (a 0 7) (a 9) c.2.2.2.2.2.2.1, wTs g a c.2.2.2.2.2.2.2.1, wSs g a c.2.2.2.2.2.2.2.2.1, wX1 g (a 0 11) (a 5) c.2.2.2.2.2.2.2.2.2.1, wF g (a 5 3) 6 c.2.2.2.2.2.2.2.2.2.2]) (fun _ => rfl) dX7_force_30 (fun z3 H locs hf hG => ?_)
    refine lv_iload_n hx hb dX7_force_33 rfl (lv_at hl 0 rfl) ?_
    have hq9 := Option.some.inj hf
    subst hq9
    subst hQ
    exact r_iret X hG dX7_force_34
  · replace hf := ite_t hf hc2
    refine lv_bipush (v := (-2)) hx hb dX7_force_14 (by decide) ?_
    have hq9 := Option.some.inj hf
    subst hq9
    subst hQ
    exact r_iret X hG dX7_force_16
def rmX7_left : Room := { frames := 6, cells := 0, slots := 0, locals := 152 }
set_option maxHeartbeats 4000000 in
set_option maxRecDepth 100000 in
theorem c_X7_left (g : GT) (l : Launch) (o : Nat) (a : Nat → Nat → Nat) (nw : Nat) (n : Nat) (a1 : Int32) (a2 : Int32) (c : CS) (q : Int32 × CS) (hf : f_X7_left n nw a1 a2 c = some q) : CI g l yX7_left cX7_left 4 (some .int) rmX7_left [.ref o, .int a1, .int a2] (wC g o a nw c) q.1 (wC g o a nw q.2) := by
  refine CI_intro RX7 rfl (by decide +kernel) (Nat.le_of_ble_eq_true rfl) ?_
  intro p e s m args below meth c9 A ls Q hQ X hl hG
  have hl : lv_has ls 4 [(0, .ref o), (1, .int a1), (2, .int a2)] := hl
  have hG : GM g A s.heap s.heap [] [wX7 g o a nw c.1, wX2 g (a 0 0) (a 1) c.2.1, wX2 g (a 0 1) (a 2) c.2.2.1, wX0 g (a 0 3) (a 3) c.2.2.2.1, wYs g a nw c.2.2.2.2.1, wX6 g (a 0 6) (a 6) c.2.2.2.2.2.1, wX4 g (a 0 7) (a 9) c.2.2.2.2.2.2.1, wTs g a c.2.2.2.2.2.2.2.1, wSs g a c.2.2.2.2.2.2.2.2.1, wX1 g (a 0 11) (a 5) c.2.2.2.2.2.2.2.2.2.1, wF g (a 5 3) 6 c.2.2.2.2.2.2.2.2.2.2] := hG
  have hx := X.1
  have hb := X.2.1
  have hown := X.2.2.2.1
  unfold f_X7_left at hf
  refine lv_aload_n hx hb dX7_left_0 rfl (lv_at hl 0 rfl) ?_
  refine lv_iload_n hx hb dX7_left_1 rfl (lv_at hl 1 rfl) ?_
  obtain ⟨q1, hq1, hf⟩ := cl_inv hf
  refine r_callVq (bc := [wX7 g o a nw c.1, wX2 g (a 0 0) (a 1) c.2.1, wX2 g (a 0 1) (a 2) c.2.2.1, wX0 g (a 0 3) (a 3) c.2.2.2.1, wYs g a nw c.2.2.2.2.1, wX6 g (a 0 6) (a 6) c.2.2.2.2.2.1, wX4 g (a 0 7) (a 9) c.2.2.2.2.2.2.1, wTs g a c.2.2.2.2.2.2.2.1, wSs g a c.2.2.2.2.2.2.2.2.1, wX1 g (a 0 11) (a 5) c.2.2.2.2.2.2.2.2.2.1, wF g (a 5 3) 6 c.2.2.2.2.2.2.2.2.2.2]) (br := []) (bs' := [wX7 g o a nw c.1, wX2 g (a 0 0) (a 1) c.2.1, wX2 g (a 0 1) (a 2) c.2.2.1, wX0 g (a 0 3) (a 3) c.2.2.2.1, wYs g a nw c.2.2.2.2.1, wX6 g (a 0 6) (a 6) c.2.2.2.2.2.1, wX4 g (a 0 7) (a 9) c.2.2.2.2.2.2.1, wTs g a c.2.2.2.2.2.2.2.1, wSs g a c.2.2.2.2.2.2.2.2.1, wX1 g (a 0 11) (a 5) c.2.2.2.2.2.2.2.2.2.1, wF g (a 5 3) 6 c.2.2.2.2.2.2.2.2.2.2]) (As := [.int a1]) (rest := []) X hG hl.1 (c_X7_wayAt g l o a nw n a1 (c.1, c.2.1, c.2.2.1, c.2.2.2.1, c.2.2.2.2.1, c.2.2.2.2.2.1, c.2.2.2.2.2.2.1, c.2.2.2.2.2.2.2.1, c.2.2.2.2.2.2.2.2.1, c.2.2.2.2.2.2.2.2.2.1, c.2.2.2.2.2.2.2.2.2.2) q1 hq1) (List.Perm.refl _) (List.Perm.refl _) lk_X7_wayAt lv_X7_wayAt ml_7_139 (j := 0) (k := 0) rfl rfl rfl rfl rfl ⟨Nat.le_of_ble_eq_true rfl, Nat.le_of_ble_eq_true rfl⟩ rfl rfl (Nat.le_of_ble_eq_true rfl) ⟨Nat.zero_le _, Nat.zero_le _⟩ dX7_left_2 (fun H locs hG => ?_)
  rcases q1 with _ | w2
  · replace hf := oc_n hf
    refine W.eq (g2 := F0 m 5 ls [.null]) rfl ?_
    refine lv_astore_nN (lv' := [(3, .null), (0, .ref o), (1, .int a1), (2, .int a2)]) hx hb dX7_left_5 rfl hl (by decide) rfl (fun ls hl => ?_)
    refine lv_aload_nN hx hb dX7_left_6 rfl (lv_at hl 0 rfl) ?_
    refine lv_ifnullN (tgt := 18) hx hb dX7_left_7 (by decide) ?_
    refine lv_bipush (v := (-2)) hx hb dX7_left_18 (by decide) ?_
    have hq9 := Option.some.inj hf
    subst hq9
    subst hQ
    exact r_iret X hG dX7_left_20
  · replace hf := oc_s hf
    obtain ⟨hw3, hf⟩ := ck_inv hf
    replace hw3 := of_decide_eq_true hw3
    refine W.eq (g2 := F0 m 5 ls [.ref (a 4 w2)]) rfl ?_
    refine lv_astore_n (lv' := [(3, .ref (a 4 w2)), (0, .ref o), (1, .int a1), (2, .int a2)]) hx hb dX7_left_5 rfl hl (by decide) rfl (fun ls hl => ?_)
    refine lv_aload_n hx hb dX7_left_6 rfl (lv_at hl 0 rfl) ?_
    refine lv_ifnull hx hb dX7_left_7 ?_
    refine lv_aload_n hx hb dX7_left_10 rfl (lv_at hl 1 rfl) ?_
    refine lv_iload_n hx hb dX7_left_11 rfl (lv_at hl 3 rfl) ?_
    obtain ⟨q4, hq4, hf⟩ := cl_inv hf
    refine r_callVi (bc := [wX7 g o a nw c.1, wX2 g (a 0 0) (a 1) c.2.1, wX2 g (a 0 1) (a 2) c.2.2.1, wX0 g (a 0 3) (a 3) c.2.2.2.1, wYs g a nw c.2.2.2.2.1, wX6 g (a 0 6) (a 6) c.2.2.2.2.2.1, wX4 g (a 0 7) (a 9) c.2.2.2.2.2.2.1, wTs g a c.2.2.2.2.2.2.2.1, wSs g a c.2.2.2.2.2.2.2.2.1, wX1 g (a 0 11) (a 5) c.2.2.2.2.2.2.2.2.2.1, wF g (a 5 3) 6 c.2.2.2.2.2.2.2.2.2.2]) (br := []) (bs' := [wX7 g o a nw c.1, wX2 g (a 0 0) (a 1) c.2.1, wX2 g (a 0 1) (a 2) c.2.2.1, wX0 g (a 0 3) (a 3) c.2.2.2.1, wYs g a nw c.2.2.2.2.1, wX6 g (a 0 6) (a 6) c.2.2.2.2.2.1, wX4 g (a 0 7) (a 9) c.2.2.2.2.2.2.1, wTs g a c.2.2.2.2.2.2.2.1, wSs g a c.2.2.2.2.2.2.2.2.1, wX1 g (a 0 11) (a 5) c.2.2.2.2.2.2.2.2.2.1, wF g (a 5 3) 6 c.2.2.2.2.2.2.2.2.2.2]) (As := [.int a2]) (rest := []) X hG hl.1 (c_X7_isSortOrAll g l o a nw n a2 (c.1, c.2.1, c.2.2.1, c.2.2.2.1, c.2.2.2.2.1, c.2.2.2.2.2.1, c.2.2.2.2.2.2.1, c.2.2.2.2.2.2.2.1, c.2.2.2.2.2.2.2.2.1, c.2.2.2.2.2.2.2.2.2.1, c.2.2.2.2.2.2.2.2.2.2) q4 hq4) (List.Perm.refl _) (List.Perm.refl _) lk_X7_isSortOrAll lv_X7_isSortOrAll ml_7_167 (j := 0) (k := 0) rfl rfl rfl rfl rfl ⟨Nat.le_of_ble_eq_true rfl, Nat.le_of_ble_eq_true rfl⟩ rfl rfl (Nat.le_of_ble_eq_true rfl) ⟨Nat.zero_le _, Nat.zero_le _⟩ dX7_left_12 (fun H locs hG => ?_)
    refine lv_if_ne (tgt := 21) hx hb dX7_left_15 (by decide) (fun hc5 => ?_) (fun hc5 => ?_)
    · replace hf := ite_f hf hc5
      refine lv_aload_n hx hb dX7_left_21 rfl (lv_at hl 1 rfl) ?_
      refine lv_aload_n hx hb dX7_left_22 rfl (lv_at hl 0 rfl) ?_
      obtain ⟨q6, hq6, hf⟩ := cl_inv hf
      refine r_callVv (bc := [wX7 g o a nw c.1, wX2 g (a 0 0) (a 1) c.2.1, wX2 g (a 0 1) (a 2) c.2.2.1, wX0 g (a 0 3) (a 3) c.2.2.2.1, wYs g a nw c.2.2.2.2.1, wX6 g (a 0 6) (a 6) c.2.2.2.2.2.1, wX4 g (a 0 7) (a 9) c.2.2.2.2.2.2.1, wTs g a c.2.2.2.2.2.2.2.1, wSs g a c.2.2.2.2.2.2.2.2.1, wX1 g (a 0 11) (a 5) c.2.2.2.2.2.2.2.2.2.1, wF g (a 5 3) 6 c.2.2.2.2.2.2.2.2.2.2]) (br := []) (bs' := [wX7 g o a nw q6.1, wX2 g (a 0 0) (a 1) q6.2.1, wX2 g (a 0 1) (a 2) q6.2.2.1, wX0 g (a 0 3) (a 3) q6.2.2.2.1, wYs g a nw q6.2.2.2.2.1, wX6 g (a 0 6) (a 6) q6.2.2.2.2.2.1, wX4 g (a 0 7) (a 9) q6.2.2.2.2.2.2.1, wTs g a q6.2.2.2.2.2.2.2.1, wSs g a q6.2.2.2.2.2.2.2.2.1, wX1 g (a 0 11) (a 5) q6.2.2.2.2.2.2.2.2.2.1, wF g (a 5 3) 6 q6.2.2.2.2.2.2.2.2.2.2]) (As := [.ref (a 4 w2)]) (rest := []) X hG hl.1 (c_X7_runDay g l o a nw n w2 (c.1, c.2.1, c.2.2.1, c.2.2.2.1, c.2.2.2.2.1, c.2.2.2.2.2.1, c.2.2.2.2.2.2.1, c.2.2.2.2.2.2.2.1, c.2.2.2.2.2.2.2.2.1, c.2.2.2.2.2.2.2.2.2.1, c.2.2.2.2.2.2.2.2.2.2) q6 hq6 hw3) (List.Perm.refl _) (List.Perm.refl _) lk_X7_runDay lv_X7_runDay ml_7_170 (j := 0) (k := 0) rfl rfl rfl rfl rfl ⟨Nat.le_of_ble_eq_true rfl, Nat.le_of_ble_eq_true rfl⟩ rfl rfl (Nat.le_of_ble_eq_true rfl) ⟨Nat.zero_le _, Nat.zero_le _⟩ dX7_left_23 (fun H locs hG => ?_)
      refine lv_aload_n hx hb dX7_left_26 rfl (lv_at hl 1 rfl) ?_
      refine G_7_72 X hG 0 rfl dX7_left_27 ?_
      refine lv_aload_n hx hb dX7_left_30 rfl (lv_at hl 1 rfl) ?_
      refine G_7_10 X hG 0 rfl dX7_left_31 ?_
      refine lv_iload_n hx hb dX7_left_34 rfl (lv_at hl 3 rfl) ?_
      obtain ⟨q7, hq7, hf⟩ := cl_inv hf
      refine r_callVi (bc := [wX1 g (a 0 11) (a 5) q6.2.2.2.2.2.2.2.2.2.1, wX2 g (a 0 0) (a 1) q6.2.1]) (br := [wX7 g o a nw q6.1, wX2 g (a 0 1) (a 2) q6.2.2.1, wX0 g (a 0 3) (a 3) q6.2.2.2.1, wYs g a nw q6.2.2.2.2.1, wX6 g (a 0 6) (a 6) q6.2.2.2.2.2.1, wX4 g (a 0 7) (a 9) q6.2.2.2.2.2.2.1, wTs g a q6.2.2.2.2.2.2.2.1, wSs g a q6.2.2.2.2.2.2.2.2.1, wF g (a 5 3) 6 q6.2.2.2.2.2.2.2.2.2.2]) (bs' := [wX7 g o a nw q6.1, wX2 g (a 0 0) (a 1) q6.2.1, wX2 g (a 0 1) (a 2) q6.2.2.1, wX0 g (a 0 3) (a 3) q6.2.2.2.1, wYs g a nw q6.2.2.2.2.1, wX6 g (a 0 6) (a 6) q6.2.2.2.2.2.1, wX4 g (a 0 7) (a 9) q6.2.2.2.2.2.2.1, wTs g a q6.2.2.2.2.2.2.2.1, wSs g a q6.2.2.2.2.2.2.2.2.1, wX1 g (a 0 11) (a 5) q6.2.2.2.2.2.2.2.2.2.1, wF g (a 5 3) 6 q6.2.2.2.2.2.2.2.2.2.2]) (As := [.ref (a 0 0), .int a2]) (rest := []) X hG hl.1 (c_X1_leftOf g l (a 0 11) (a 5) (a 0 0) (a 1) n a2 q6.2.2.2.2.2.2.2.2.2.1 q6.2.1 q7 hq7) ((blk_perm2 [9, 1, 0, 2, 3, 4, 5, 6, 7, 8, 10] 11 rfl rfl (by decide)).flatten) ((blk_perm2 [2, 1, 3, 4, 5, 6, 7, 8, 9, 0, 10] 11 rfl rfl (by decide)).flatten) lk_X1_leftOf lv_X1_leftOf ml_7_174 (j := 9) (k := 0) rfl rfl rfl rfl rfl ⟨Nat.le_of_ble_eq_true rfl, Nat.le_of_ble_eq_true rfl⟩ rfl rfl (Nat.le_of_ble_eq_true rfl) ⟨Nat.zero_le _, Nat.zero_le _⟩ dX7_left_35 (fun H locs hG => ?_)
      have hq9 := Option.some.inj hf
      subst hq9
      subst hQ
      exact r_iret X hG dX7_left_38
    · replace hf := ite_t hf hc5
      refine lv_bipush (v := (-2)) hx hb dX7_left_18 (by decide) ?_
      have hq9 := Option.some.inj hf
      subst hq9
      subst hQ
      exact r_iret X hG dX7_left_20
def rmX7_harm : Room := { frames := 6, cells := 0, slots := 0, locals := 152 }
set_option maxHeartbeats 4000000 in
set_option maxRecDepth 100000 in
theorem c_X7_harm (g : GT) (l : Launch) (o : Nat) (a : Nat → Nat → Nat) (nw : Nat) (n : Nat) (a1 : Int32) (c : CS) (q : Int64 × CS) (hf : f_X7_harm n nw a1 c = some q) : CL g l yX7_harm cX7_harm 3 (some .long) rmX7_harm [.ref o, .int a1] (wC g o a nw c) q.1 (wC g o a nw q.2) := by
  refine CL_intro RX7 rfl (by decide +kernel) (Nat.le_of_ble_eq_true rfl) ?_
  intro p e s m args below meth c9 A ls Q hQ X hl hG
  have hl : lv_has ls 3 [(0, .ref o), (1, .int a1)] := hl
  have hG : GM g A s.heap s.heap [] [wX7 g o a nw c.1, wX2 g (a 0 0) (a 1) c.2.1, wX2 g (a 0 1) (a 2) c.2.2.1, wX0 g (a 0 3) (a 3) c.2.2.2.1, wYs g a nw c.2.2.2.2.1, wX6 g (a 0 6) (a 6) c.2.2.2.2.2.1, wX4 g (a 0 7) (a 9) c.2.2.2.2.2.2.1, wTs g a c.2.2.2.2.2.2.2.1, wSs g a c.2.2.2.2.2.2.2.2.1, wX1 g (a 0 11) (a 5) c.2.2.2.2.2.2.2.2.2.1, wF g (a 5 3) 6 c.2.2.2.2.2.2.2.2.2.2] := hG
  have hx := X.1
  have hb := X.2.1
  have hown := X.2.2.2.1
  unfold f_X7_harm at hf
  refine lv_aload_n hx hb dX7_harm_0 rfl (lv_at hl 0 rfl) ?_
  refine lv_iload_n hx hb dX7_harm_1 rfl (lv_at hl 1 rfl) ?_
  obtain ⟨q1, hq1, hf⟩ := cl_inv hf
  refine r_callVq (bc := [wX7 g o a nw c.1, wX2 g (a 0 0) (a 1) c.2.1, wX2 g (a 0 1) (a 2) c.2.2.1, wX0 g (a 0 3) (a 3) c.2.2.2.1, wYs g a nw c.2.2.2.2.1, wX6 g (a 0 6) (a 6) c.2.2.2.2.2.1, wX4 g (a 0 7) (a 9) c.2.2.2.2.2.2.1, wTs g a c.2.2.2.2.2.2.2.1, wSs g a c.2.2.2.2.2.2.2.2.1, wX1 g (a 0 11) (a 5) c.2.2.2.2.2.2.2.2.2.1, wF g (a 5 3) 6 c.2.2.2.2.2.2.2.2.2.2]) (br := []) (bs' := [wX7 g o a nw c.1, wX2 g (a 0 0) (a 1) c.2.1, wX2 g (a 0 1) (a 2) c.2.2.1, wX0 g (a 0 3) (a 3) c.2.2.2.1, wYs g a nw c.2.2.2.2.1, wX6 g (a 0 6) (a 6) c.2.2.2.2.2.1, wX4 g (a 0 7) (a 9) c.2.2.2.2.2.2.1, wTs g a c.2.2.2.2.2.2.2.1, wSs g a c.2.2.2.2.2.2.2.2.1, wX1 g (a 0 11) (a 5) c.2.2.2.2.2.2.2.2.2.1, wF g (a 5 3) 6 c.2.2.2.2.2.2.2.2.2.2]) (As := [.int a1]) (rest := []) X hG hl.1 (c_X7_wayAt g l o a nw n a1 (c.1, c.2.1, c.2.2.1, c.2.2.2.1, c.2.2.2.2.1, c.2.2.2.2.2.1, c.2.2.2.2.2.2.1, c.2.2.2.2.2.2.2.1, c.2.2.2.2.2.2.2.2.1, c.2.2.2.2.2.2.2.2.2.1, c.2.2.2.2.2.2.2.2.2.2) q1 hq1) (List.Perm.refl _) (List.Perm.refl _) lk_X7_wayAt lv_X7_wayAt ml_7_139 (j := 0) (k := 0) rfl rfl rfl rfl rfl ⟨Nat.le_of_ble_eq_true rfl, Nat.le_of_ble_eq_true rfl⟩ rfl rfl (Nat.le_of_ble_eq_true rfl) ⟨Nat.zero_le _, Nat.zero_le _⟩ dX7_harm_2 (fun H locs hG => ?_)
  rcases q1 with _ | w2
  · replace hf := oc_n hf
    refine W.eq (g2 := F0 m 5 ls [.null]) rfl ?_
    refine lv_astore_nN (lv' := [(2, .null), (0, .ref o), (1, .int a1)]) hx hb dX7_harm_5 rfl hl (by decide) rfl (fun ls hl => ?_)
    refine lv_aload_nN hx hb dX7_harm_6 rfl (lv_at hl 0 rfl) ?_
    refine lv_ifnonnullN hx hb dX7_harm_7 ?_
    refine lv_ldc2 hx hb hown (X.2.2.2.2.1 _ kl_7_178) dX7_harm_10 ?_
    have hq9 := Option.some.inj hf
    subst hq9
    subst hQ
    exact r_lret X hG dX7_harm_13
  · replace hf := oc_s hf
    obtain ⟨hw3, hf⟩ := ck_inv hf
    replace hw3 := of_decide_eq_true hw3
    refine W.eq (g2 := F0 m 5 ls [.ref (a 4 w2)]) rfl ?_
    refine lv_astore_n (lv' := [(2, .ref (a 4 w2)), (0, .ref o), (1, .int a1)]) hx hb dX7_harm_5 rfl hl (by decide) rfl (fun ls hl => ?_)
    refine lv_aload_n hx hb dX7_harm_6 rfl (lv_at hl 0 rfl) ?_
    refine lv_ifnonnull (tgt := 14) hx hb dX7_harm_7 (by decide) ?_
    refine lv_aload_n hx hb dX7_harm_14 rfl (lv_at hl 1 rfl) ?_
    refine lv_aload_n hx hb dX7_harm_15 rfl (lv_at hl 0 rfl) ?_
    obtain ⟨q4, hq4, hf⟩ := cl_inv hf
    refine r_callVv (bc := [wX7 g o a nw c.1, wX2 g (a 0 0) (a 1) c.2.1, wX2 g (a 0 1) (a 2) c.2.2.1, wX0 g (a 0 3) (a 3) c.2.2.2.1, wYs g a nw c.2.2.2.2.1, wX6 g (a 0 6) (a 6) c.2.2.2.2.2.1, wX4 g (a 0 7) (a 9) c.2.2.2.2.2.2.1, wTs g a c.2.2.2.2.2.2.2.1, wSs g a c.2.2.2.2.2.2.2.2.1, wX1 g (a 0 11) (a 5) c.2.2.2.2.2.2.2.2.2.1, wF g (a 5 3) 6 c.2.2.2.2.2.2.2.2.2.2]) (br := []) (bs' := [wX7 g o a nw q4.1, wX2 g (a 0 0) (a 1) q4.2.1, wX2 g (a 0 1) (a 2) q4.2.2.1, wX0 g (a 0 3) (a 3) q4.2.2.2.1, wYs g a nw q4.2.2.2.2.1, wX6 g (a 0 6) (a 6) q4.2.2.2.2.2.1, wX4 g (a 0 7) (a 9) q4.2.2.2.2.2.2.1, wTs g a q4.2.2.2.2.2.2.2.1, wSs g a q4.2.2.2.2.2.2.2.2.1, wX1 g (a 0 11) (a 5) q4.2.2.2.2.2.2.2.2.2.1, wF g (a 5 3) 6 q4.2.2.2.2.2.2.2.2.2.2]) (As := [.ref (a 4 w2)]) (rest := []) X hG hl.1 (c_X7_runDay g l o a nw n w2 (c.1, c.2.1, c.2.2.1, c.2.2.2.1, c.2.2.2.2.1, c.2.2.2.2.2.1, c.2.2.2.2.2.2.1, c.2.2.2.2.2.2.2.1, c.2.2.2.2.2.2.2.2.1, c.2.2.2.2.2.2.2.2.2.1, c.2.2.2.2.2.2.2.2.2.2) q4 hq4 hw3) (List.Perm.refl _) (List.Perm.refl _) lk_X7_runDay lv_X7_runDay ml_7_170 (j := 0) (k := 0) rfl rfl rfl rfl rfl ⟨Nat.le_of_ble_eq_true rfl, Nat.le_of_ble_eq_true rfl⟩ rfl rfl (Nat.le_of_ble_eq_true rfl) ⟨Nat.zero_le _, Nat.zero_le _⟩ dX7_harm_16 (fun H locs hG => ?_)
    refine lv_aload_n hx hb dX7_harm_19 rfl (lv_at hl 1 rfl) ?_
    refine G_7_72 X hG 0 rfl dX7_harm_20 ?_
    refine lv_aload_n hx hb dX7_harm_23 rfl (lv_at hl 1 rfl) ?_
    refine G_7_10 X hG 0 rfl dX7_harm_24 ?_
    refine lv_aload_n hx hb dX7_harm_27 rfl (lv_at hl 1 rfl) ?_
    refine G_7_56 X hG 0 rfl dX7_harm_28 ?_
    refine lv_aload_n hx hb dX7_harm_31 rfl (lv_at hl 1 rfl) ?_
    refine G_7_10 X hG 0 rfl dX7_harm_32 ?_
    refine G_7_164 X hG 1 rfl dX7_harm_35 ?_
    refine r_aaldq 3 X hG 0 2 rfl rfl rfl hf dX7_harm_38 (fun hb5 hf => ?_)
    refine W.eq (g2 := F0 m 39 ls [.ref (a 7 (Int32.toNatClampNeg (q4.2.1.1 9))), .ref (a 0 0), .ref (a 0 11)]) rfl ?_
    obtain ⟨q6, hq6, hf⟩ := cl_inv hf
    refine r_callVl (bc := [wX1 g (a 0 11) (a 5) q4.2.2.2.2.2.2.2.2.2.1, wF g (a 5 3) 6 q4.2.2.2.2.2.2.2.2.2.2, wX2 g (a 0 0) (a 1) q4.2.1, wX5 g (a 7 (Int32.toNatClampNeg (q4.2.1.1 9))) (a (20 + (Int32.toNatClampNeg (q4.2.1.1 9)))) (q4.2.2.2.2.2.2.2.1 (Int32.toNatClampNeg (q4.2.1.1 9)))]) (br := [wX7 g o a nw q4.1, wX2 g (a 0 1) (a 2) q4.2.2.1, wX0 g (a 0 3) (a 3) q4.2.2.2.1, wYs g a nw q4.2.2.2.2.1, wX6 g (a 0 6) (a 6) q4.2.2.2.2.2.1, wX4 g (a 0 7) (a 9) q4.2.2.2.2.2.2.1, wTsR g a q4.2.2.2.2.2.2.2.1 (Int32.toNatClampNeg (q4.2.1.1 9)), wSs g a q4.2.2.2.2.2.2.2.2.1]) (bs' := [wX7 g o a nw q4.1, wX2 g (a 0 0) (a 1) q4.2.1, wX2 g (a 0 1) (a 2) q4.2.2.1, wX0 g (a 0 3) (a 3) q4.2.2.2.1, wYs g a nw q4.2.2.2.2.1, wX6 g (a 0 6) (a 6) q4.2.2.2.2.2.1, wX4 g (a 0 7) (a 9) q4.2.2.2.2.2.2.1, wTs g a (va_up q4.2.2.2.2.2.2.2.1 (Int32.toNatClampNeg (q4.2.1.1 9)) q6.2.2), wSs g a q4.2.2.2.2.2.2.2.2.1, wX1 g (a 0 11) (a 5) q4.2.2.2.2.2.2.2.2.2.1, wF g (a 5 3) 6 q6.2.1]) (As := [.ref (a 0 0), .ref (a 7 (Int32.toNatClampNeg (q4.2.1.1 9)))]) (rest := []) X hG hl.1 (c_X1_harmDone g l (a 0 11) (a 5) (a 0 0) (a 1) (a 7 (Int32.toNatClampNeg (q4.2.1.1 9))) (a (20 + (Int32.toNatClampNeg (q4.2.1.1 9)))) n q4.2.2.2.2.2.2.2.2.2.1 q4.2.2.2.2.2.2.2.2.2.2 q4.2.1 (q4.2.2.2.2.2.2.2.1 (Int32.toNatClampNeg (q4.2.1.1 9))) q6 hq6) ((focus_perm 7 rfl (T_focus (ib_lt hb5))).trans (blk_perm2 [10, 11, 1, 7, 0, 2, 3, 4, 5, 6, 8, 9] 12 rfl rfl (by decide)).flatten) ((blk_perm2 [4, 2, 5, 6, 7, 8, 9, 3, 10, 11, 0, 1] 12 rfl rfl (by decide)).flatten.trans (focus_perm 7 rfl (T_focus2 (ib_lt hb5) _ _)).symm) lk_X1_harmDone lv_X1_harmDone ml_7_180 (j := 9) (k := 0) rfl rfl rfl rfl rfl ⟨Nat.le_of_ble_eq_true rfl, Nat.le_of_ble_eq_true rfl⟩ rfl rfl (Nat.le_of_ble_eq_true rfl) ⟨Nat.zero_le _, Nat.zero_le _⟩ dX7_harm_39 (fun H locs hG => ?_)
    have hq9 := Option.some.inj hf
    subst hq9
    subst hQ
    exact r_lret X hG dX7_harm_42
def rmX7_rode : Room := { frames := 6, cells := 0, slots := 0, locals := 152 }
set_option maxHeartbeats 4000000 in
set_option maxRecDepth 100000 in
theorem c_X7_rode (g : GT) (l : Launch) (o : Nat) (a : Nat → Nat → Nat) (nw : Nat) (n : Nat) (a1 : Int32) (a2 : Int32) (c : CS) (q : Int32 × CS) (hf : f_X7_rode n nw a1 a2 c = some q) : CI g l yX7_rode cX7_rode 4 (some .int) rmX7_rode [.ref o, .int a1, .int a2] (wC g o a nw c) q.1 (wC g o a nw q.2) := by
  refine CI_intro RX7 rfl (by decide +kernel) (Nat.le_of_ble_eq_true rfl) ?_
  intro p e s m args below meth c9 A ls Q hQ X hl hG
  have hl : lv_has ls 4 [(0, .ref o), (1, .int a1), (2, .int a2)] := hl
  have hG : GM g A s.heap s.heap [] [wX7 g o a nw c.1, wX2 g (a 0 0) (a 1) c.2.1, wX2 g (a 0 1) (a 2) c.2.2.1, wX0 g (a 0 3) (a 3) c.2.2.2.1, wYs g a nw c.2.2.2.2.1, wX6 g (a 0 6) (a 6) c.2.2.2.2.2.1, wX4 g (a 0 7) (a 9) c.2.2.2.2.2.2.1, wTs g a c.2.2.2.2.2.2.2.1, wSs g a c.2.2.2.2.2.2.2.2.1, wX1 g (a 0 11) (a 5) c.2.2.2.2.2.2.2.2.2.1, wF g (a 5 3) 6 c.2.2.2.2.2.2.2.2.2.2] := hG
  have hx := X.1
  have hb := X.2.1
  have hown := X.2.2.2.1
  unfold f_X7_rode at hf
  refine lv_aload_n hx hb dX7_rode_0 rfl (lv_at hl 0 rfl) ?_
  refine lv_iload_n hx hb dX7_rode_1 rfl (lv_at hl 1 rfl) ?_
  obtain ⟨q1, hq1, hf⟩ := cl_inv hf
  refine r_callVq (bc := [wX7 g o a nw c.1, wX2 g (a 0 0) (a 1) c.2.1, wX2 g (a 0 1) (a 2) c.2.2.1, wX0 g (a 0 3) (a 3) c.2.2.2.1, wYs g a nw c.2.2.2.2.1, wX6 g (a 0 6) (a 6) c.2.2.2.2.2.1, wX4 g (a 0 7) (a 9) c.2.2.2.2.2.2.1, wTs g a c.2.2.2.2.2.2.2.1, wSs g a c.2.2.2.2.2.2.2.2.1, wX1 g (a 0 11) (a 5) c.2.2.2.2.2.2.2.2.2.1, wF g (a 5 3) 6 c.2.2.2.2.2.2.2.2.2.2]) (br := []) (bs' := [wX7 g o a nw c.1, wX2 g (a 0 0) (a 1) c.2.1, wX2 g (a 0 1) (a 2) c.2.2.1, wX0 g (a 0 3) (a 3) c.2.2.2.1, wYs g a nw c.2.2.2.2.1, wX6 g (a 0 6) (a 6) c.2.2.2.2.2.1, wX4 g (a 0 7) (a 9) c.2.2.2.2.2.2.1, wTs g a c.2.2.2.2.2.2.2.1, wSs g a c.2.2.2.2.2.2.2.2.1, wX1 g (a 0 11) (a 5) c.2.2.2.2.2.2.2.2.2.1, wF g (a 5 3) 6 c.2.2.2.2.2.2.2.2.2.2]) (As := [.int a1]) (rest := []) X hG hl.1 (c_X7_wayAt g l o a nw n a1 (c.1, c.2.1, c.2.2.1, c.2.2.2.1, c.2.2.2.2.1, c.2.2.2.2.2.1, c.2.2.2.2.2.2.1, c.2.2.2.2.2.2.2.1, c.2.2.2.2.2.2.2.2.1, c.2.2.2.2.2.2.2.2.2.1, c.2.2.2.2.2.2.2.2.2.2) q1 hq1) (List.Perm.refl _) (List.Perm.refl _) lk_X7_wayAt lv_X7_wayAt ml_7_139 (j := 0) (k := 0) rfl rfl rfl rfl rfl ⟨Nat.le_of_ble_eq_true rfl, Nat.le_of_ble_eq_true rfl⟩ rfl rfl (Nat.le_of_ble_eq_true rfl) ⟨Nat.zero_le _, Nat.zero_le _⟩ dX7_rode_2 (fun H locs hG => ?_)
  rcases q1 with _ | w2
  · replace hf := oc_n hf
    refine W.eq (g2 := F0 m 5 ls [.null]) rfl ?_
    refine lv_astore_nN (lv' := [(3, .null), (0, .ref o), (1, .int a1), (2, .int a2)]) hx hb dX7_rode_5 rfl hl (by decide) rfl (fun ls hl => ?_)
    refine lv_aload_nN hx hb dX7_rode_6 rfl (lv_at hl 0 rfl) ?_
    refine lv_ifnullN (tgt := 27) hx hb dX7_rode_7 (by decide) ?_
    refine lv_bipush (v := (-2)) hx hb dX7_rode_27 (by decide) ?_
    have hq9 := Option.some.inj hf
    subst hq9
    subst hQ
    exact r_iret X hG dX7_rode_29
  · replace hf := oc_s hf
    obtain ⟨hw3, hf⟩ := ck_inv hf
    replace hw3 := of_decide_eq_true hw3
    refine W.eq (g2 := F0 m 5 ls [.ref (a 4 w2)]) rfl ?_
    refine lv_astore_n (lv' := [(3, .ref (a 4 w2)), (0, .ref o), (1, .int a1), (2, .int a2)]) hx hb dX7_rode_5 rfl hl (by decide) rfl (fun ls hl => ?_)
    refine lv_aload_n hx hb dX7_rode_6 rfl (lv_at hl 0 rfl) ?_
    refine lv_ifnull hx hb dX7_rode_7 ?_
    refine lv_iload_n hx hb dX7_rode_10 rfl (lv_at hl 3 rfl) ?_
    refine lv_iconst (v := (-1)) hx hb dX7_rode_11 (by decide) ?_
    refine lv_aload_n hx hb dX7_rode_12 rfl (lv_at hl 1 rfl) ?_
    refine G_7_26 X hG 0 rfl dX7_rode_13 ?_
    refine G_7_184 X hG 3 rfl dX7_rode_16 ?_
    refine lv_iconst (v := 1) hx hb dX7_rode_19 (by decide) ?_
    refine lv_isub hx hb dX7_rode_20 ?_
    obtain ⟨q4, hq4, hf⟩ := cl_inv hf
    refine r_callSi (bc := []) (br := [wX7 g o a nw c.1, wX2 g (a 0 0) (a 1) c.2.1, wX2 g (a 0 1) (a 2) c.2.2.1, wX0 g (a 0 3) (a 3) c.2.2.2.1, wYs g a nw c.2.2.2.2.1, wX6 g (a 0 6) (a 6) c.2.2.2.2.2.1, wX4 g (a 0 7) (a 9) c.2.2.2.2.2.2.1, wTs g a c.2.2.2.2.2.2.2.1, wSs g a c.2.2.2.2.2.2.2.2.1, wX1 g (a 0 11) (a 5) c.2.2.2.2.2.2.2.2.2.1, wF g (a 5 3) 6 c.2.2.2.2.2.2.2.2.2.2]) (bs' := [wX7 g o a nw c.1, wX2 g (a 0 0) (a 1) c.2.1, wX2 g (a 0 1) (a 2) c.2.2.1, wX0 g (a 0 3) (a 3) c.2.2.2.1, wYs g a nw c.2.2.2.2.1, wX6 g (a 0 6) (a 6) c.2.2.2.2.2.1, wX4 g (a 0 7) (a 9) c.2.2.2.2.2.2.1, wTs g a c.2.2.2.2.2.2.2.1, wSs g a c.2.2.2.2.2.2.2.2.1, wX1 g (a 0 11) (a 5) c.2.2.2.2.2.2.2.2.2.1, wF g (a 5 3) 6 c.2.2.2.2.2.2.2.2.2.2]) (As := [.int a2, .int (-1), .int ((c.2.2.2.1.1 0) - 1)]) (rest := []) X hG hl.1 (c_X7_between g l n a2 (-1) ((c.2.2.2.1.1 0) - 1) q4 hq4) (List.Perm.refl _) (List.Perm.refl _) lk_X7_between ls_X7_between ml_7_106 rfl rfl ⟨Nat.le_of_ble_eq_true rfl, Nat.le_of_ble_eq_true rfl⟩ rfl rfl (Nat.le_of_ble_eq_true rfl) ⟨Nat.zero_le _, Nat.zero_le _⟩ dX7_rode_21 (fun H locs hG => ?_)
    refine lv_if_ne (tgt := 30) hx hb dX7_rode_24 (by decide) (fun hc5 => ?_) (fun hc5 => ?_)
    · replace hf := ite_f hf hc5
      refine lv_aload_n hx hb dX7_rode_30 rfl (lv_at hl 1 rfl) ?_
      refine lv_aload_n hx hb dX7_rode_31 rfl (lv_at hl 0 rfl) ?_
      obtain ⟨q6, hq6, hf⟩ := cl_inv hf
      refine r_callVv (bc := [wX7 g o a nw c.1, wX2 g (a 0 0) (a 1) c.2.1, wX2 g (a 0 1) (a 2) c.2.2.1, wX0 g (a 0 3) (a 3) c.2.2.2.1, wYs g a nw c.2.2.2.2.1, wX6 g (a 0 6) (a 6) c.2.2.2.2.2.1, wX4 g (a 0 7) (a 9) c.2.2.2.2.2.2.1, wTs g a c.2.2.2.2.2.2.2.1, wSs g a c.2.2.2.2.2.2.2.2.1, wX1 g (a 0 11) (a 5) c.2.2.2.2.2.2.2.2.2.1, wF g (a 5 3) 6 c.2.2.2.2.2.2.2.2.2.2]) (br := []) (bs' := [wX7 g o a nw q6.1, wX2 g (a 0 0) (a 1) q6.2.1, wX2 g (a 0 1) (a 2) q6.2.2.1, wX0 g (a 0 3) (a 3) q6.2.2.2.1, wYs g a nw q6.2.2.2.2.1, wX6 g (a 0 6) (a 6) q6.2.2.2.2.2.1, wX4 g (a 0 7) (a 9) q6.2.2.2.2.2.2.1, wTs g a q6.2.2.2.2.2.2.2.1, wSs g a q6.2.2.2.2.2.2.2.2.1, wX1 g (a 0 11) (a 5) q6.2.2.2.2.2.2.2.2.2.1, wF g (a 5 3) 6 q6.2.2.2.2.2.2.2.2.2.2]) (As := [.ref (a 4 w2)]) (rest := []) X hG hl.1 (c_X7_runDay g l o a nw n w2 (c.1, c.2.1, c.2.2.1, c.2.2.2.1, c.2.2.2.2.1, c.2.2.2.2.2.1, c.2.2.2.2.2.2.1, c.2.2.2.2.2.2.2.1, c.2.2.2.2.2.2.2.2.1, c.2.2.2.2.2.2.2.2.2.1, c.2.2.2.2.2.2.2.2.2.2) q6 hq6 hw3) (List.Perm.refl _) (List.Perm.refl _) lk_X7_runDay lv_X7_runDay ml_7_170 (j := 0) (k := 0) rfl rfl rfl rfl rfl ⟨Nat.le_of_ble_eq_true rfl, Nat.le_of_ble_eq_true rfl⟩ rfl rfl (Nat.le_of_ble_eq_true rfl) ⟨Nat.zero_le _, Nat.zero_le _⟩ dX7_rode_32 (fun H locs hG => ?_)
      refine lv_iload_n hx hb dX7_rode_35 rfl (lv_at hl 3 rfl) ?_
      refine lv_iconst (v := (-1)) hx hb dX7_rode_36 (by decide) ?_
      refine lv_icmp_ne (tgt := 54) hx hb dX7_rode_37 (by decide) (fun hc7 => ?_) (fun hc7 => ?_)
      · replace hf := ite_f hf hc7
        refine lv_aload_n hx hb dX7_rode_54 rfl (lv_at hl 1 rfl) ?_
        refine G_7_72 X hG 0 rfl dX7_rode_55 ?_
        refine G_7_189 X hG 9 rfl dX7_rode_58 ?_
        refine lv_iload_n hx hb dX7_rode_61 rfl (lv_at hl 3 rfl) ?_
        refine r_iald X hG 9 7 rfl rfl hf dX7_rode_62 (fun x8 hf => ?_)
        have hq9 := Option.some.inj hf
        subst hq9
        subst hQ
        exact r_iret X hG dX7_rode_63
      · replace hf := ite_t hf hc7
        refine lv_aload_n hx hb dX7_rode_40 rfl (lv_at hl 1 rfl) ?_
        refine G_7_72 X hG 0 rfl dX7_rode_41 ?_
        refine lv_aload_n hx hb dX7_rode_44 rfl (lv_at hl 1 rfl) ?_
        refine G_7_10 X hG 0 rfl dX7_rode_45 ?_
        obtain ⟨q9, hq9, hf⟩ := cl_inv hf
        refine r_callVi (bc := [wX1 g (a 0 11) (a 5) q6.2.2.2.2.2.2.2.2.2.1, wX2 g (a 0 0) (a 1) q6.2.1]) (br := [wX7 g o a nw q6.1, wX2 g (a 0 1) (a 2) q6.2.2.1, wX0 g (a 0 3) (a 3) q6.2.2.2.1, wYs g a nw q6.2.2.2.2.1, wX6 g (a 0 6) (a 6) q6.2.2.2.2.2.1, wX4 g (a 0 7) (a 9) q6.2.2.2.2.2.2.1, wTs g a q6.2.2.2.2.2.2.2.1, wSs g a q6.2.2.2.2.2.2.2.2.1, wF g (a 5 3) 6 q6.2.2.2.2.2.2.2.2.2.2]) (bs' := [wX7 g o a nw q6.1, wX2 g (a 0 0) (a 1) q6.2.1, wX2 g (a 0 1) (a 2) q6.2.2.1, wX0 g (a 0 3) (a 3) q6.2.2.2.1, wYs g a nw q6.2.2.2.2.1, wX6 g (a 0 6) (a 6) q6.2.2.2.2.2.1, wX4 g (a 0 7) (a 9) q6.2.2.2.2.2.2.1, wTs g a q6.2.2.2.2.2.2.2.1, wSs g a q6.2.2.2.2.2.2.2.2.1, wX1 g (a 0 11) (a 5) q6.2.2.2.2.2.2.2.2.2.1, wF g (a 5 3) 6 q6.2.2.2.2.2.2.2.2.2.2]) (As := [.ref (a 0 0)]) (rest := []) X hG hl.1 (c_X1_rodeInAll g l (a 0 11) (a 5) (a 0 0) (a 1) n q6.2.2.2.2.2.2.2.2.2.1 q6.2.1 q9 hq9) ((blk_perm2 [9, 1, 0, 2, 3, 4, 5, 6, 7, 8, 10] 11 rfl rfl (by decide)).flatten) ((blk_perm2 [2, 1, 3, 4, 5, 6, 7, 8, 9, 0, 10] 11 rfl rfl (by decide)).flatten) lk_X1_rodeInAll lv_X1_rodeInAll ml_7_185 (j := 9) (k := 0) rfl rfl rfl rfl rfl ⟨Nat.le_of_ble_eq_true rfl, Nat.le_of_ble_eq_true rfl⟩ rfl rfl (Nat.le_of_ble_eq_true rfl) ⟨Nat.zero_le _, Nat.zero_le _⟩ dX7_rode_48 (fun H locs hG => ?_)
        refine lv_goto (tgt := 63) hx hb dX7_rode_51 (by decide) ?_
        have hq9 := Option.some.inj hf
        subst hq9
        subst hQ
        exact r_iret X hG dX7_rode_63
    · replace hf := ite_t hf hc5
      refine lv_bipush (v := (-2)) hx hb dX7_rode_27 (by decide) ?_
      have hq9 := Option.some.inj hf
      subst hq9
      subst hQ
      exact r_iret X hG dX7_rode_29
def rmX7_waits : Room := { frames := 6, cells := 0, slots := 0, locals := 152 }
set_option maxHeartbeats 4000000 in
set_option maxRecDepth 100000 in
theorem c_X7_waits (g : GT) (l : Launch) (o : Nat) (a : Nat → Nat → Nat) (nw : Nat) (n : Nat) (a1 : Int32) (a2 : Int32) (c : CS) (q : Int32 × CS) (hf : f_X7_waits n nw a1 a2 c = some q) : CI g l yX7_waits cX7_waits 4 (some .int) rmX7_waits [.ref o, .int a1, .int a2] (wC g o a nw c) q.1 (wC g o a nw q.2) := by
  refine CI_intro RX7 rfl (by decide +kernel) (Nat.le_of_ble_eq_true rfl) ?_
  intro p e s m args below meth c9 A ls Q hQ X hl hG
  have hl : lv_has ls 4 [(0, .ref o), (1, .int a1), (2, .int a2)] := hl
  have hG : GM g A s.heap s.heap [] [wX7 g o a nw c.1, wX2 g (a 0 0) (a 1) c.2.1, wX2 g (a 0 1) (a 2) c.2.2.1, wX0 g (a 0 3) (a 3) c.2.2.2.1, wYs g a nw c.2.2.2.2.1, wX6 g (a 0 6) (a 6) c.2.2.2.2.2.1, wX4 g (a 0 7) (a 9) c.2.2.2.2.2.2.1, wTs g a c.2.2.2.2.2.2.2.1, wSs g a c.2.2.2.2.2.2.2.2.1, wX1 g (a 0 11) (a 5) c.2.2.2.2.2.2.2.2.2.1, wF g (a 5 3) 6 c.2.2.2.2.2.2.2.2.2.2] := hG
  have hx := X.1
  have hb := X.2.1
  have hown := X.2.2.2.1
  unfold f_X7_waits at hf
  refine lv_aload_n hx hb dX7_waits_0 rfl (lv_at hl 0 rfl) ?_
  refine lv_iload_n hx hb dX7_waits_1 rfl (lv_at hl 1 rfl) ?_
  obtain ⟨q1, hq1, hf⟩ := cl_inv hf
  refine r_callVq (bc := [wX7 g o a nw c.1, wX2 g (a 0 0) (a 1) c.2.1, wX2 g (a 0 1) (a 2) c.2.2.1, wX0 g (a 0 3) (a 3) c.2.2.2.1, wYs g a nw c.2.2.2.2.1, wX6 g (a 0 6) (a 6) c.2.2.2.2.2.1, wX4 g (a 0 7) (a 9) c.2.2.2.2.2.2.1, wTs g a c.2.2.2.2.2.2.2.1, wSs g a c.2.2.2.2.2.2.2.2.1, wX1 g (a 0 11) (a 5) c.2.2.2.2.2.2.2.2.2.1, wF g (a 5 3) 6 c.2.2.2.2.2.2.2.2.2.2]) (br := []) (bs' := [wX7 g o a nw c.1, wX2 g (a 0 0) (a 1) c.2.1, wX2 g (a 0 1) (a 2) c.2.2.1, wX0 g (a 0 3) (a 3) c.2.2.2.1, wYs g a nw c.2.2.2.2.1, wX6 g (a 0 6) (a 6) c.2.2.2.2.2.1, wX4 g (a 0 7) (a 9) c.2.2.2.2.2.2.1, wTs g a c.2.2.2.2.2.2.2.1, wSs g a c.2.2.2.2.2.2.2.2.1, wX1 g (a 0 11) (a 5) c.2.2.2.2.2.2.2.2.2.1, wF g (a 5 3) 6 c.2.2.2.2.2.2.2.2.2.2]) (As := [.int a1]) (rest := []) X hG hl.1 (c_X7_wayAt g l o a nw n a1 (c.1, c.2.1, c.2.2.1, c.2.2.2.1, c.2.2.2.2.1, c.2.2.2.2.2.1, c.2.2.2.2.2.2.1, c.2.2.2.2.2.2.2.1, c.2.2.2.2.2.2.2.2.1, c.2.2.2.2.2.2.2.2.2.1, c.2.2.2.2.2.2.2.2.2.2) q1 hq1) (List.Perm.refl _) (List.Perm.refl _) lk_X7_wayAt lv_X7_wayAt ml_7_139 (j := 0) (k := 0) rfl rfl rfl rfl rfl ⟨Nat.le_of_ble_eq_true rfl, Nat.le_of_ble_eq_true rfl⟩ rfl rfl (Nat.le_of_ble_eq_true rfl) ⟨Nat.zero_le _, Nat.zero_le _⟩ dX7_waits_2 (fun H locs hG => ?_)
  rcases q1 with _ | w2
  · replace hf := oc_n hf
    refine W.eq (g2 := F0 m 5 ls [.null]) rfl ?_
    refine lv_astore_nN (lv' := [(3, .null), (0, .ref o), (1, .int a1), (2, .int a2)]) hx hb dX7_waits_5 rfl hl (by decide) rfl (fun ls hl => ?_)
    refine lv_aload_nN hx hb dX7_waits_6 rfl (lv_at hl 0 rfl) ?_
    refine lv_ifnullN (tgt := 19) hx hb dX7_waits_7 (by decide) ?_
    refine lv_bipush (v := (-2)) hx hb dX7_waits_19 (by decide) ?_
    have hq9 := Option.some.inj hf
    subst hq9
    subst hQ
    exact r_iret X hG dX7_waits_21
  · replace hf := oc_s hf
    obtain ⟨hw3, hf⟩ := ck_inv hf
    replace hw3 := of_decide_eq_true hw3
    refine W.eq (g2 := F0 m 5 ls [.ref (a 4 w2)]) rfl ?_
    refine lv_astore_n (lv' := [(3, .ref (a 4 w2)), (0, .ref o), (1, .int a1), (2, .int a2)]) hx hb dX7_waits_5 rfl hl (by decide) rfl (fun ls hl => ?_)
    refine lv_aload_n hx hb dX7_waits_6 rfl (lv_at hl 0 rfl) ?_
    refine lv_ifnull hx hb dX7_waits_7 ?_
    refine lv_iload_n hx hb dX7_waits_10 rfl (lv_at hl 3 rfl) ?_
    refine lv_iconst (v := 0) hx hb dX7_waits_11 (by decide) ?_
    refine lv_iconst (v := 1) hx hb dX7_waits_12 (by decide) ?_
    obtain ⟨q4, hq4, hf⟩ := cl_inv hf
    refine r_callSi (bc := []) (br := [wX7 g o a nw c.1, wX2 g (a 0 0) (a 1) c.2.1, wX2 g (a 0 1) (a 2) c.2.2.1, wX0 g (a 0 3) (a 3) c.2.2.2.1, wYs g a nw c.2.2.2.2.1, wX6 g (a 0 6) (a 6) c.2.2.2.2.2.1, wX4 g (a 0 7) (a 9) c.2.2.2.2.2.2.1, wTs g a c.2.2.2.2.2.2.2.1, wSs g a c.2.2.2.2.2.2.2.2.1, wX1 g (a 0 11) (a 5) c.2.2.2.2.2.2.2.2.2.1, wF g (a 5 3) 6 c.2.2.2.2.2.2.2.2.2.2]) (bs' := [wX7 g o a nw c.1, wX2 g (a 0 0) (a 1) c.2.1, wX2 g (a 0 1) (a 2) c.2.2.1, wX0 g (a 0 3) (a 3) c.2.2.2.1, wYs g a nw c.2.2.2.2.1, wX6 g (a 0 6) (a 6) c.2.2.2.2.2.1, wX4 g (a 0 7) (a 9) c.2.2.2.2.2.2.1, wTs g a c.2.2.2.2.2.2.2.1, wSs g a c.2.2.2.2.2.2.2.2.1, wX1 g (a 0 11) (a 5) c.2.2.2.2.2.2.2.2.2.1, wF g (a 5 3) 6 c.2.2.2.2.2.2.2.2.2.2]) (As := [.int a2, .int 0, .int 1]) (rest := []) X hG hl.1 (c_X7_between g l n a2 0 1 q4 hq4) (List.Perm.refl _) (List.Perm.refl _) lk_X7_between ls_X7_between ml_7_106 rfl rfl ⟨Nat.le_of_ble_eq_true rfl, Nat.le_of_ble_eq_true rfl⟩ rfl rfl (Nat.le_of_ble_eq_true rfl) ⟨Nat.zero_le _, Nat.zero_le _⟩ dX7_waits_13 (fun H locs hG => ?_)
    refine lv_if_ne (tgt := 22) hx hb dX7_waits_16 (by decide) (fun hc5 => ?_) (fun hc5 => ?_)
    · replace hf := ite_f hf hc5
      refine lv_aload_n hx hb dX7_waits_22 rfl (lv_at hl 1 rfl) ?_
      refine lv_aload_n hx hb dX7_waits_23 rfl (lv_at hl 0 rfl) ?_
      obtain ⟨q6, hq6, hf⟩ := cl_inv hf
      refine r_callVv (bc := [wX7 g o a nw c.1, wX2 g (a 0 0) (a 1) c.2.1, wX2 g (a 0 1) (a 2) c.2.2.1, wX0 g (a 0 3) (a 3) c.2.2.2.1, wYs g a nw c.2.2.2.2.1, wX6 g (a 0 6) (a 6) c.2.2.2.2.2.1, wX4 g (a 0 7) (a 9) c.2.2.2.2.2.2.1, wTs g a c.2.2.2.2.2.2.2.1, wSs g a c.2.2.2.2.2.2.2.2.1, wX1 g (a 0 11) (a 5) c.2.2.2.2.2.2.2.2.2.1, wF g (a 5 3) 6 c.2.2.2.2.2.2.2.2.2.2]) (br := []) (bs' := [wX7 g o a nw q6.1, wX2 g (a 0 0) (a 1) q6.2.1, wX2 g (a 0 1) (a 2) q6.2.2.1, wX0 g (a 0 3) (a 3) q6.2.2.2.1, wYs g a nw q6.2.2.2.2.1, wX6 g (a 0 6) (a 6) q6.2.2.2.2.2.1, wX4 g (a 0 7) (a 9) q6.2.2.2.2.2.2.1, wTs g a q6.2.2.2.2.2.2.2.1, wSs g a q6.2.2.2.2.2.2.2.2.1, wX1 g (a 0 11) (a 5) q6.2.2.2.2.2.2.2.2.2.1, wF g (a 5 3) 6 q6.2.2.2.2.2.2.2.2.2.2]) (As := [.ref (a 4 w2)]) (rest := []) X hG hl.1 (c_X7_runDay g l o a nw n w2 (c.1, c.2.1, c.2.2.1, c.2.2.2.1, c.2.2.2.2.1, c.2.2.2.2.2.1, c.2.2.2.2.2.2.1, c.2.2.2.2.2.2.2.1, c.2.2.2.2.2.2.2.2.1, c.2.2.2.2.2.2.2.2.2.1, c.2.2.2.2.2.2.2.2.2.2) q6 hq6 hw3) (List.Perm.refl _) (List.Perm.refl _) lk_X7_runDay lv_X7_runDay ml_7_170 (j := 0) (k := 0) rfl rfl rfl rfl rfl ⟨Nat.le_of_ble_eq_true rfl, Nat.le_of_ble_eq_true rfl⟩ rfl rfl (Nat.le_of_ble_eq_true rfl) ⟨Nat.zero_le _, Nat.zero_le _⟩ dX7_waits_24 (fun H locs hG => ?_)
      refine lv_iload_n hx hb dX7_waits_27 rfl (lv_at hl 3 rfl) ?_
      refine lv_if_ne (tgt := 41) hx hb dX7_waits_28 (by decide) (fun hc7 => ?_) (fun hc7 => ?_)
      · replace hf := ite_f hf hc7
        refine lv_aload_n hx hb dX7_waits_41 rfl (lv_at hl 1 rfl) ?_
        refine G_7_72 X hG 0 rfl dX7_waits_42 ?_
        refine G_7_196 X hG 9 rfl dX7_waits_45 ?_
        have hq9 := Option.some.inj hf
        subst hq9
        subst hQ
        exact r_iret X hG dX7_waits_48
      · replace hf := ite_t hf hc7
        refine lv_aload_n hx hb dX7_waits_31 rfl (lv_at hl 1 rfl) ?_
        refine G_7_72 X hG 0 rfl dX7_waits_32 ?_
        refine G_7_193 X hG 9 rfl dX7_waits_35 ?_
        refine lv_goto (tgt := 48) hx hb dX7_waits_38 (by decide) ?_
        have hq9 := Option.some.inj hf
        subst hq9
        subst hQ
        exact r_iret X hG dX7_waits_48
    · replace hf := ite_t hf hc5
      refine lv_bipush (v := (-2)) hx hb dX7_waits_19 (by decide) ?_
      have hq9 := Option.some.inj hf
      subst hq9
      subst hQ
      exact r_iret X hG dX7_waits_21
def rmX7_down : Room := { frames := 6, cells := 0, slots := 0, locals := 152 }
set_option maxHeartbeats 4000000 in
set_option maxRecDepth 100000 in
theorem c_X7_down (g : GT) (l : Launch) (o : Nat) (a : Nat → Nat → Nat) (nw : Nat) (n : Nat) (a1 : Int32) (a2 : Int32) (a3 : Int32) (c : CS) (q : Int32 × CS) (hf : f_X7_down n nw a1 a2 a3 c = some q) : CI g l yX7_down cX7_down 5 (some .int) rmX7_down [.ref o, .int a1, .int a2, .int a3] (wC g o a nw c) q.1 (wC g o a nw q.2) := by
  refine CI_intro RX7 rfl (by decide +kernel) (Nat.le_of_ble_eq_true rfl) ?_
  intro p e s m args below meth c9 A ls Q hQ X hl hG
  have hl : lv_has ls 5 [(0, .ref o), (1, .int a1), (2, .int a2), (3, .int a3)] := hl
  have hG : GM g A s.heap s.heap [] [wX7 g o a nw c.1, wX2 g (a 0 0) (a 1) c.2.1, wX2 g (a 0 1) (a 2) c.2.2.1, wX0 g (a 0 3) (a 3) c.2.2.2.1, wYs g a nw c.2.2.2.2.1, wX6 g (a 0 6) (a 6) c.2.2.2.2.2.1, wX4 g (a 0 7) (a 9) c.2.2.2.2.2.2.1, wTs g a c.2.2.2.2.2.2.2.1, wSs g a c.2.2.2.2.2.2.2.2.1, wX1 g (a 0 11) (a 5) c.2.2.2.2.2.2.2.2.2.1, wF g (a 5 3) 6 c.2.2.2.2.2.2.2.2.2.2] := hG
  have hx := X.1
  have hb := X.2.1
  have hown := X.2.2.2.1
  unfold f_X7_down at hf
  refine lv_aload_n hx hb dX7_down_0 rfl (lv_at hl 0 rfl) ?_
  refine lv_iload_n hx hb dX7_down_1 rfl (lv_at hl 1 rfl) ?_
  obtain ⟨q1, hq1, hf⟩ := cl_inv hf
  refine r_callVq (bc := [wX7 g o a nw c.1, wX2 g (a 0 0) (a 1) c.2.1, wX2 g (a 0 1) (a 2) c.2.2.1, wX0 g (a 0 3) (a 3) c.2.2.2.1, wYs g a nw c.2.2.2.2.1, wX6 g (a 0 6) (a 6) c.2.2.2.2.2.1, wX4 g (a 0 7) (a 9) c.2.2.2.2.2.2.1, wTs g a c.2.2.2.2.2.2.2.1, wSs g a c.2.2.2.2.2.2.2.2.1, wX1 g (a 0 11) (a 5) c.2.2.2.2.2.2.2.2.2.1, wF g (a 5 3) 6 c.2.2.2.2.2.2.2.2.2.2]) (br := []) (bs' := [wX7 g o a nw c.1, wX2 g (a 0 0) (a 1) c.2.1, wX2 g (a 0 1) (a 2) c.2.2.1, wX0 g (a 0 3) (a 3) c.2.2.2.1, wYs g a nw c.2.2.2.2.1, wX6 g (a 0 6) (a 6) c.2.2.2.2.2.1, wX4 g (a 0 7) (a 9) c.2.2.2.2.2.2.1, wTs g a c.2.2.2.2.2.2.2.1, wSs g a c.2.2.2.2.2.2.2.2.1, wX1 g (a 0 11) (a 5) c.2.2.2.2.2.2.2.2.2.1, wF g (a 5 3) 6 c.2.2.2.2.2.2.2.2.2.2]) (As := [.int a1]) (rest := []) X hG hl.1 (c_X7_wayAt g l o a nw n a1 (c.1, c.2.1, c.2.2.1, c.2.2.2.1, c.2.2.2.2.1, c.2.2.2.2.2.1, c.2.2.2.2.2.2.1, c.2.2.2.2.2.2.2.1, c.2.2.2.2.2.2.2.2.1, c.2.2.2.2.2.2.2.2.2.1, c.2.2.2.2.2.2.2.2.2.2) q1 hq1) (List.Perm.refl _) (List.Perm.refl _) lk_X7_wayAt lv_X7_wayAt ml_7_139 (j := 0) (k := 0) rfl rfl rfl rfl rfl ⟨Nat.le_of_ble_eq_true rfl, Nat.le_of_ble_eq_true rfl⟩ rfl rfl (Nat.le_of_ble_eq_true rfl) ⟨Nat.zero_le _, Nat.zero_le _⟩ dX7_down_2 (fun H locs hG => ?_)
  rcases q1 with _ | w2
  · replace hf := oc_n hf
    refine W.eq (g2 := F0 m 5 ls [.null]) rfl ?_
    refine lv_astoreN (lv' := [(4, .null), (0, .ref o), (1, .int a1), (2, .int a2), (3, .int a3)]) hx hb dX7_down_5 hl (by decide) rfl (fun ls hl => ?_)
    refine lv_aloadN hx hb dX7_down_7 (lv_at hl 0 rfl) ?_
    refine lv_ifnullN (tgt := 37) hx hb dX7_down_9 (by decide) ?_
    refine lv_bipush (v := (-2)) hx hb dX7_down_37 (by decide) ?_
    have hq9 := Option.some.inj hf
    subst hq9
    subst hQ
    exact r_iret X hG dX7_down_39
  · replace hf := oc_s hf
    obtain ⟨hw3, hf⟩ := ck_inv hf
    replace hw3 := of_decide_eq_true hw3
    refine W.eq (g2 := F0 m 5 ls [.ref (a 4 w2)]) rfl ?_
    refine lv_astore (lv' := [(4, .ref (a 4 w2)), (0, .ref o), (1, .int a1), (2, .int a2), (3, .int a3)]) hx hb dX7_down_5 hl (by decide) rfl (fun ls hl => ?_)
    refine lv_aload hx hb dX7_down_7 (lv_at hl 0 rfl) ?_
    refine lv_ifnull hx hb dX7_down_9 ?_
    refine lv_aload_n hx hb dX7_down_12 rfl (lv_at hl 1 rfl) ?_
    refine lv_iload_n hx hb dX7_down_13 rfl (lv_at hl 3 rfl) ?_
    obtain ⟨q4, hq4, hf⟩ := cl_inv hf
    refine r_callVi (bc := [wX7 g o a nw c.1, wX2 g (a 0 0) (a 1) c.2.1, wX2 g (a 0 1) (a 2) c.2.2.1, wX0 g (a 0 3) (a 3) c.2.2.2.1, wYs g a nw c.2.2.2.2.1, wX6 g (a 0 6) (a 6) c.2.2.2.2.2.1, wX4 g (a 0 7) (a 9) c.2.2.2.2.2.2.1, wTs g a c.2.2.2.2.2.2.2.1, wSs g a c.2.2.2.2.2.2.2.2.1, wX1 g (a 0 11) (a 5) c.2.2.2.2.2.2.2.2.2.1, wF g (a 5 3) 6 c.2.2.2.2.2.2.2.2.2.2]) (br := []) (bs' := [wX7 g o a nw c.1, wX2 g (a 0 0) (a 1) c.2.1, wX2 g (a 0 1) (a 2) c.2.2.1, wX0 g (a 0 3) (a 3) c.2.2.2.1, wYs g a nw c.2.2.2.2.1, wX6 g (a 0 6) (a 6) c.2.2.2.2.2.1, wX4 g (a 0 7) (a 9) c.2.2.2.2.2.2.1, wTs g a c.2.2.2.2.2.2.2.1, wSs g a c.2.2.2.2.2.2.2.2.1, wX1 g (a 0 11) (a 5) c.2.2.2.2.2.2.2.2.2.1, wF g (a 5 3) 6 c.2.2.2.2.2.2.2.2.2.2]) (As := [.int a2]) (rest := []) X hG hl.1 (c_X7_isSortOrAll g l o a nw n a2 (c.1, c.2.1, c.2.2.1, c.2.2.2.1, c.2.2.2.2.1, c.2.2.2.2.2.1, c.2.2.2.2.2.2.1, c.2.2.2.2.2.2.2.1, c.2.2.2.2.2.2.2.2.1, c.2.2.2.2.2.2.2.2.2.1, c.2.2.2.2.2.2.2.2.2.2) q4 hq4) (List.Perm.refl _) (List.Perm.refl _) lk_X7_isSortOrAll lv_X7_isSortOrAll ml_7_167 (j := 0) (k := 0) rfl rfl rfl rfl rfl ⟨Nat.le_of_ble_eq_true rfl, Nat.le_of_ble_eq_true rfl⟩ rfl rfl (Nat.le_of_ble_eq_true rfl) ⟨Nat.zero_le _, Nat.zero_le _⟩ dX7_down_14 (fun H locs hG => ?_)
    refine lv_if_eq (tgt := 37) hx hb dX7_down_17 (by decide) (fun hc5 => ?_) (fun hc5 => ?_)
    · replace hf := ite_t hf hc5
      refine lv_bipush (v := (-2)) hx hb dX7_down_37 (by decide) ?_
      have hq9 := Option.some.inj hf
      subst hq9
      subst hQ
      exact r_iret X hG dX7_down_39
    · replace hf := ite_f hf hc5
      refine lv_iload_n hx hb dX7_down_20 rfl (lv_at hl 4 rfl) ?_
      refine lv_iconst (v := 0) hx hb dX7_down_21 (by decide) ?_
      refine lv_aload_n hx hb dX7_down_22 rfl (lv_at hl 1 rfl) ?_
      refine G_7_10 X hG 0 rfl dX7_down_23 ?_
      refine G_7_122 X hG 1 rfl dX7_down_26 ?_
      refine lv_iconst (v := 1) hx hb dX7_down_29 (by decide) ?_
      refine lv_isub hx hb dX7_down_30 ?_
      obtain ⟨q6, hq6, hf⟩ := cl_inv hf
      refine r_callSi (bc := []) (br := [wX7 g o a nw c.1, wX2 g (a 0 0) (a 1) c.2.1, wX2 g (a 0 1) (a 2) c.2.2.1, wX0 g (a 0 3) (a 3) c.2.2.2.1, wYs g a nw c.2.2.2.2.1, wX6 g (a 0 6) (a 6) c.2.2.2.2.2.1, wX4 g (a 0 7) (a 9) c.2.2.2.2.2.2.1, wTs g a c.2.2.2.2.2.2.2.1, wSs g a c.2.2.2.2.2.2.2.2.1, wX1 g (a 0 11) (a 5) c.2.2.2.2.2.2.2.2.2.1, wF g (a 5 3) 6 c.2.2.2.2.2.2.2.2.2.2]) (bs' := [wX7 g o a nw c.1, wX2 g (a 0 0) (a 1) c.2.1, wX2 g (a 0 1) (a 2) c.2.2.1, wX0 g (a 0 3) (a 3) c.2.2.2.1, wYs g a nw c.2.2.2.2.1, wX6 g (a 0 6) (a 6) c.2.2.2.2.2.1, wX4 g (a 0 7) (a 9) c.2.2.2.2.2.2.1, wTs g a c.2.2.2.2.2.2.2.1, wSs g a c.2.2.2.2.2.2.2.2.1, wX1 g (a 0 11) (a 5) c.2.2.2.2.2.2.2.2.2.1, wF g (a 5 3) 6 c.2.2.2.2.2.2.2.2.2.2]) (As := [.int a3, .int 0, .int ((c.2.1.1 6) - 1)]) (rest := []) X hG hl.1 (c_X7_between g l n a3 0 ((c.2.1.1 6) - 1) q6 hq6) (List.Perm.refl _) (List.Perm.refl _) lk_X7_between ls_X7_between ml_7_106 rfl rfl ⟨Nat.le_of_ble_eq_true rfl, Nat.le_of_ble_eq_true rfl⟩ rfl rfl (Nat.le_of_ble_eq_true rfl) ⟨Nat.zero_le _, Nat.zero_le _⟩ dX7_down_31 (fun H locs hG => ?_)
      refine lv_if_ne (tgt := 40) hx hb dX7_down_34 (by decide) (fun hc7 => ?_) (fun hc7 => ?_)
      · replace hf := ite_f hf hc7
        refine lv_aload_n hx hb dX7_down_40 rfl (lv_at hl 1 rfl) ?_
        refine lv_aload hx hb dX7_down_41 (lv_at hl 0 rfl) ?_
        obtain ⟨q8, hq8, hf⟩ := cl_inv hf
        refine r_callVv (bc := [wX7 g o a nw c.1, wX2 g (a 0 0) (a 1) c.2.1, wX2 g (a 0 1) (a 2) c.2.2.1, wX0 g (a 0 3) (a 3) c.2.2.2.1, wYs g a nw c.2.2.2.2.1, wX6 g (a 0 6) (a 6) c.2.2.2.2.2.1, wX4 g (a 0 7) (a 9) c.2.2.2.2.2.2.1, wTs g a c.2.2.2.2.2.2.2.1, wSs g a c.2.2.2.2.2.2.2.2.1, wX1 g (a 0 11) (a 5) c.2.2.2.2.2.2.2.2.2.1, wF g (a 5 3) 6 c.2.2.2.2.2.2.2.2.2.2]) (br := []) (bs' := [wX7 g o a nw q8.1, wX2 g (a 0 0) (a 1) q8.2.1, wX2 g (a 0 1) (a 2) q8.2.2.1, wX0 g (a 0 3) (a 3) q8.2.2.2.1, wYs g a nw q8.2.2.2.2.1, wX6 g (a 0 6) (a 6) q8.2.2.2.2.2.1, wX4 g (a 0 7) (a 9) q8.2.2.2.2.2.2.1, wTs g a q8.2.2.2.2.2.2.2.1, wSs g a q8.2.2.2.2.2.2.2.2.1, wX1 g (a 0 11) (a 5) q8.2.2.2.2.2.2.2.2.2.1, wF g (a 5 3) 6 q8.2.2.2.2.2.2.2.2.2.2]) (As := [.ref (a 4 w2)]) (rest := []) X hG hl.1 (c_X7_runDay g l o a nw n w2 (c.1, c.2.1, c.2.2.1, c.2.2.2.1, c.2.2.2.2.1, c.2.2.2.2.2.1, c.2.2.2.2.2.2.1, c.2.2.2.2.2.2.2.1, c.2.2.2.2.2.2.2.2.1, c.2.2.2.2.2.2.2.2.2.1, c.2.2.2.2.2.2.2.2.2.2) q8 hq8 hw3) (List.Perm.refl _) (List.Perm.refl _) lk_X7_runDay lv_X7_runDay ml_7_170 (j := 0) (k := 0) rfl rfl rfl rfl rfl ⟨Nat.le_of_ble_eq_true rfl, Nat.le_of_ble_eq_true rfl⟩ rfl rfl (Nat.le_of_ble_eq_true rfl) ⟨Nat.zero_le _, Nat.zero_le _⟩ dX7_down_43 (fun H locs hG => ?_)
        refine lv_aload_n hx hb dX7_down_46 rfl (lv_at hl 1 rfl) ?_
        refine G_7_72 X hG 0 rfl dX7_down_47 ?_
        refine lv_aload_n hx hb dX7_down_50 rfl (lv_at hl 1 rfl) ?_
        refine G_7_10 X hG 0 rfl dX7_down_51 ?_
        refine lv_iload_n hx hb dX7_down_54 rfl (lv_at hl 3 rfl) ?_
        refine lv_iload_n hx hb dX7_down_55 rfl (lv_at hl 4 rfl) ?_
        obtain ⟨q9, hq9, hf⟩ := cl_inv hf
        refine r_callVi (bc := [wX1 g (a 0 11) (a 5) q8.2.2.2.2.2.2.2.2.2.1, wX2 g (a 0 0) (a 1) q8.2.1]) (br := [wX7 g o a nw q8.1, wX2 g (a 0 1) (a 2) q8.2.2.1, wX0 g (a 0 3) (a 3) q8.2.2.2.1, wYs g a nw q8.2.2.2.2.1, wX6 g (a 0 6) (a 6) q8.2.2.2.2.2.1, wX4 g (a 0 7) (a 9) q8.2.2.2.2.2.2.1, wTs g a q8.2.2.2.2.2.2.2.1, wSs g a q8.2.2.2.2.2.2.2.2.1, wF g (a 5 3) 6 q8.2.2.2.2.2.2.2.2.2.2]) (bs' := [wX7 g o a nw q8.1, wX2 g (a 0 0) (a 1) q8.2.1, wX2 g (a 0 1) (a 2) q8.2.2.1, wX0 g (a 0 3) (a 3) q8.2.2.2.1, wYs g a nw q8.2.2.2.2.1, wX6 g (a 0 6) (a 6) q8.2.2.2.2.2.1, wX4 g (a 0 7) (a 9) q8.2.2.2.2.2.2.1, wTs g a q8.2.2.2.2.2.2.2.1, wSs g a q8.2.2.2.2.2.2.2.2.1, wX1 g (a 0 11) (a 5) q8.2.2.2.2.2.2.2.2.2.1, wF g (a 5 3) 6 q8.2.2.2.2.2.2.2.2.2.2]) (As := [.ref (a 0 0), .int a2, .int a3]) (rest := []) X hG hl.1 (c_X1_downBehind g l (a 0 11) (a 5) (a 0 0) (a 1) n a2 a3 q8.2.2.2.2.2.2.2.2.2.1 q8.2.1 q9 hq9) ((blk_perm2 [9, 1, 0, 2, 3, 4, 5, 6, 7, 8, 10] 11 rfl rfl (by decide)).flatten) ((blk_perm2 [2, 1, 3, 4, 5, 6, 7, 8, 9, 0, 10] 11 rfl rfl (by decide)).flatten) lk_X1_downBehind lv_X1_downBehind ml_7_199 (j := 9) (k := 0) rfl rfl rfl rfl rfl ⟨Nat.le_of_ble_eq_true rfl, Nat.le_of_ble_eq_true rfl⟩ rfl rfl (Nat.le_of_ble_eq_true rfl) ⟨Nat.zero_le _, Nat.zero_le _⟩ dX7_down_56 (fun H locs hG => ?_)
        have hq9 := Option.some.inj hf
        subst hq9
        subst hQ
        exact r_iret X hG dX7_down_59
      · replace hf := ite_t hf hc7
        refine lv_bipush (v := (-2)) hx hb dX7_down_37 (by decide) ?_
        have hq9 := Option.some.inj hf
        subst hq9
        subst hQ
        exact r_iret X hG dX7_down_39
def rmX7_behind : Room := { frames := 6, cells := 0, slots := 0, locals := 152 }
set_option maxHeartbeats 4000000 in
set_option maxRecDepth 100000 in
theorem c_X7_behind (g : GT) (l : Launch) (o : Nat) (a : Nat → Nat → Nat) (nw : Nat) (n : Nat) (a1 : Int32) (a2 : Int32) (c : CS) (q : Int32 × CS) (hf : f_X7_behind n nw a1 a2 c = some q) : CI g l yX7_behind cX7_behind 5 (some .int) rmX7_behind [.ref o, .int a1, .int a2] (wC g o a nw c) q.1 (wC g o a nw q.2) := by
  refine CI_intro RX7 rfl (by decide +kernel) (Nat.le_of_ble_eq_true rfl) ?_
  intro p e s m args below meth c9 A ls Q hQ X hl hG
  have hl : lv_has ls 5 [(0, .ref o), (1, .int a1), (2, .int a2)] := hl
  have hG : GM g A s.heap s.heap [] [wX7 g o a nw c.1, wX2 g (a 0 0) (a 1) c.2.1, wX2 g (a 0 1) (a 2) c.2.2.1, wX0 g (a 0 3) (a 3) c.2.2.2.1, wYs g a nw c.2.2.2.2.1, wX6 g (a 0 6) (a 6) c.2.2.2.2.2.1, wX4 g (a 0 7) (a 9) c.2.2.2.2.2.2.1, wTs g a c.2.2.2.2.2.2.2.1, wSs g a c.2.2.2.2.2.2.2.2.1, wX1 g (a 0 11) (a 5) c.2.2.2.2.2.2.2.2.2.1, wF g (a 5 3) 6 c.2.2.2.2.2.2.2.2.2.2] := hG
  have hx := X.1
  have hb := X.2.1
  have hown := X.2.2.2.1
  unfold f_X7_behind at hf
  refine lv_aload_n hx hb dX7_behind_0 rfl (lv_at hl 0 rfl) ?_
  refine lv_iload_n hx hb dX7_behind_1 rfl (lv_at hl 1 rfl) ?_
  obtain ⟨q1, hq1, hf⟩ := cl_inv hf
  refine r_callVq (bc := [wX7 g o a nw c.1, wX2 g (a 0 0) (a 1) c.2.1, wX2 g (a 0 1) (a 2) c.2.2.1, wX0 g (a 0 3) (a 3) c.2.2.2.1, wYs g a nw c.2.2.2.2.1, wX6 g (a 0 6) (a 6) c.2.2.2.2.2.1, wX4 g (a 0 7) (a 9) c.2.2.2.2.2.2.1, wTs g a c.2.2.2.2.2.2.2.1, wSs g a c.2.2.2.2.2.2.2.2.1, wX1 g (a 0 11) (a 5) c.2.2.2.2.2.2.2.2.2.1, wF g (a 5 3) 6 c.2.2.2.2.2.2.2.2.2.2]) (br := []) (bs' := [wX7 g o a nw c.1, wX2 g (a 0 0) (a 1) c.2.1, wX2 g (a 0 1) (a 2) c.2.2.1, wX0 g (a 0 3) (a 3) c.2.2.2.1, wYs g a nw c.2.2.2.2.1, wX6 g (a 0 6) (a 6) c.2.2.2.2.2.1, wX4 g (a 0 7) (a 9) c.2.2.2.2.2.2.1, wTs g a c.2.2.2.2.2.2.2.1, wSs g a c.2.2.2.2.2.2.2.2.1, wX1 g (a 0 11) (a 5) c.2.2.2.2.2.2.2.2.2.1, wF g (a 5 3) 6 c.2.2.2.2.2.2.2.2.2.2]) (As := [.int a1]) (rest := []) X hG hl.1 (c_X7_wayAt g l o a nw n a1 (c.1, c.2.1, c.2.2.1, c.2.2.2.1, c.2.2.2.2.1, c.2.2.2.2.2.1, c.2.2.2.2.2.2.1, c.2.2.2.2.2.2.2.1, c.2.2.2.2.2.2.2.2.1, c.2.2.2.2.2.2.2.2.2.1, c.2.2.2.2.2.2.2.2.2.2) q1 hq1) (List.Perm.refl _) (List.Perm.refl _) lk_X7_wayAt lv_X7_wayAt ml_7_139 (j := 0) (k := 0) rfl rfl rfl rfl rfl ⟨Nat.le_of_ble_eq_true rfl, Nat.le_of_ble_eq_true rfl⟩ rfl rfl (Nat.le_of_ble_eq_true rfl) ⟨Nat.zero_le _, Nat.zero_le _⟩ dX7_behind_2 (fun H locs hG => ?_)
  rcases q1 with _ | w2
  · replace hf := oc_n hf
    refine W.eq (g2 := F0 m 5 ls [.null]) rfl ?_
    refine lv_astore_nN (lv' := [(3, .null), (0, .ref o), (1, .int a1), (2, .int a2)]) hx hb dX7_behind_5 rfl hl (by decide) rfl (fun ls hl => ?_)
    refine lv_aload_nN hx hb dX7_behind_6 rfl (lv_at hl 0 rfl) ?_
    refine lv_ifnullN (tgt := 21) hx hb dX7_behind_7 (by decide) ?_
    refine lv_bipush (v := (-2)) hx hb dX7_behind_21 (by decide) ?_
    have hq9 := Option.some.inj hf
    subst hq9
    subst hQ
    exact r_iret X hG dX7_behind_23
  · replace hf := oc_s hf
    obtain ⟨hw3, hf⟩ := ck_inv hf
    replace hw3 := of_decide_eq_true hw3
    refine W.eq (g2 := F0 m 5 ls [.ref (a 4 w2)]) rfl ?_
    refine lv_astore_n (lv' := [(3, .ref (a 4 w2)), (0, .ref o), (1, .int a1), (2, .int a2)]) hx hb dX7_behind_5 rfl hl (by decide) rfl (fun ls hl => ?_)
    refine lv_aload_n hx hb dX7_behind_6 rfl (lv_at hl 0 rfl) ?_
    refine lv_ifnull hx hb dX7_behind_7 ?_
    refine lv_iload_n hx hb dX7_behind_10 rfl (lv_at hl 3 rfl) ?_
    refine lv_iconst (v := 0) hx hb dX7_behind_11 (by decide) ?_
    refine lv_sipush (v := 2400) hx hb dX7_behind_12 (by decide) ?_
    obtain ⟨q4, hq4, hf⟩ := cl_inv hf
    refine r_callSi (bc := []) (br := [wX7 g o a nw c.1, wX2 g (a 0 0) (a 1) c.2.1, wX2 g (a 0 1) (a 2) c.2.2.1, wX0 g (a 0 3) (a 3) c.2.2.2.1, wYs g a nw c.2.2.2.2.1, wX6 g (a 0 6) (a 6) c.2.2.2.2.2.1, wX4 g (a 0 7) (a 9) c.2.2.2.2.2.2.1, wTs g a c.2.2.2.2.2.2.2.1, wSs g a c.2.2.2.2.2.2.2.2.1, wX1 g (a 0 11) (a 5) c.2.2.2.2.2.2.2.2.2.1, wF g (a 5 3) 6 c.2.2.2.2.2.2.2.2.2.2]) (bs' := [wX7 g o a nw c.1, wX2 g (a 0 0) (a 1) c.2.1, wX2 g (a 0 1) (a 2) c.2.2.1, wX0 g (a 0 3) (a 3) c.2.2.2.1, wYs g a nw c.2.2.2.2.1, wX6 g (a 0 6) (a 6) c.2.2.2.2.2.1, wX4 g (a 0 7) (a 9) c.2.2.2.2.2.2.1, wTs g a c.2.2.2.2.2.2.2.1, wSs g a c.2.2.2.2.2.2.2.2.1, wX1 g (a 0 11) (a 5) c.2.2.2.2.2.2.2.2.2.1, wF g (a 5 3) 6 c.2.2.2.2.2.2.2.2.2.2]) (As := [.int a2, .int 0, .int 2400]) (rest := []) X hG hl.1 (c_X7_between g l n a2 0 2400 q4 hq4) (List.Perm.refl _) (List.Perm.refl _) lk_X7_between ls_X7_between ml_7_106 rfl rfl ⟨Nat.le_of_ble_eq_true rfl, Nat.le_of_ble_eq_true rfl⟩ rfl rfl (Nat.le_of_ble_eq_true rfl) ⟨Nat.zero_le _, Nat.zero_le _⟩ dX7_behind_15 (fun H locs hG => ?_)
    refine lv_if_ne (tgt := 24) hx hb dX7_behind_18 (by decide) (fun hc5 => ?_) (fun hc5 => ?_)
    · replace hf := ite_f hf hc5
      refine lv_aload_n hx hb dX7_behind_24 rfl (lv_at hl 1 rfl) ?_
      refine lv_aload_n hx hb dX7_behind_25 rfl (lv_at hl 0 rfl) ?_
      obtain ⟨q6, hq6, hf⟩ := cl_inv hf
      refine r_callVv (bc := [wX7 g o a nw c.1, wX2 g (a 0 0) (a 1) c.2.1, wX2 g (a 0 1) (a 2) c.2.2.1, wX0 g (a 0 3) (a 3) c.2.2.2.1, wYs g a nw c.2.2.2.2.1, wX6 g (a 0 6) (a 6) c.2.2.2.2.2.1, wX4 g (a 0 7) (a 9) c.2.2.2.2.2.2.1, wTs g a c.2.2.2.2.2.2.2.1, wSs g a c.2.2.2.2.2.2.2.2.1, wX1 g (a 0 11) (a 5) c.2.2.2.2.2.2.2.2.2.1, wF g (a 5 3) 6 c.2.2.2.2.2.2.2.2.2.2]) (br := []) (bs' := [wX7 g o a nw q6.1, wX2 g (a 0 0) (a 1) q6.2.1, wX2 g (a 0 1) (a 2) q6.2.2.1, wX0 g (a 0 3) (a 3) q6.2.2.2.1, wYs g a nw q6.2.2.2.2.1, wX6 g (a 0 6) (a 6) q6.2.2.2.2.2.1, wX4 g (a 0 7) (a 9) q6.2.2.2.2.2.2.1, wTs g a q6.2.2.2.2.2.2.2.1, wSs g a q6.2.2.2.2.2.2.2.2.1, wX1 g (a 0 11) (a 5) q6.2.2.2.2.2.2.2.2.2.1, wF g (a 5 3) 6 q6.2.2.2.2.2.2.2.2.2.2]) (As := [.ref (a 4 w2)]) (rest := []) X hG hl.1 (c_X7_runDay g l o a nw n w2 (c.1, c.2.1, c.2.2.1, c.2.2.2.1, c.2.2.2.2.1, c.2.2.2.2.2.1, c.2.2.2.2.2.2.1, c.2.2.2.2.2.2.2.1, c.2.2.2.2.2.2.2.2.1, c.2.2.2.2.2.2.2.2.2.1, c.2.2.2.2.2.2.2.2.2.2) q6 hq6 hw3) (List.Perm.refl _) (List.Perm.refl _) lk_X7_runDay lv_X7_runDay ml_7_170 (j := 0) (k := 0) rfl rfl rfl rfl rfl ⟨Nat.le_of_ble_eq_true rfl, Nat.le_of_ble_eq_true rfl⟩ rfl rfl (Nat.le_of_ble_eq_true rfl) ⟨Nat.zero_le _, Nat.zero_le _⟩ dX7_behind_26 (fun H locs hG => ?_)
      refine lv_iconst (v := 0) hx hb dX7_behind_29 (by decide) ?_
      refine lv_istore (lv' := [(4, .int 0), (3, .ref (a 4 w2)), (0, .ref o), (1, .int a1), (2, .int a2)]) hx hb dX7_behind_30 hl (by decide) rfl (fun ls hl => ?_)
      refine lp_go (P := fun (t7 : Int32) => ∀ (H : Heap) (locs : List Loc) (ls : Array Slot), GM g A s.heap H locs [wX7 g o a nw q6.1, wX2 g (a 0 0) (a 1) q6.2.1, wX2 g (a 0 1) (a 2) q6.2.2.1, wX0 g (a 0 3) (a 3) q6.2.2.2.1, wYs g a nw q6.2.2.2.2.1, wX6 g (a 0 6) (a 6) q6.2.2.2.2.2.1, wX4 g (a 0 7) (a 9) q6.2.2.2.2.2.2.1, wTs g a q6.2.2.2.2.2.2.2.1, wSs g a q6.2.2.2.2.2.2.2.2.1, wX1 g (a 0 11) (a 5) q6.2.2.2.2.2.2.2.2.2.1, wF g (a 5 3) 6 q6.2.2.2.2.2.2.2.2.2.2] → lv_has ls 5 [(0, .ref o), (2, .int a2), (4, .int t7)] → W p l e rmX7_behind s m args below meth c9 H locs 0 0 Q (F0 m 32 ls [])) hf (fun K8 hK8 t7 hf H locs ls hG hl => ?_) _ _ _ hG (lv_sub hl [2, 4, 0] rfl)
      refine lv_iload hx hb dX7_behind_32 (lv_at hl 2 rfl) ?_
      refine lv_aload_n hx hb dX7_behind_34 rfl (lv_at hl 0 rfl) ?_
      refine G_7_10 X hG 0 rfl dX7_behind_35 ?_
      refine G_7_122 X hG 1 rfl dX7_behind_38 ?_
      refine lv_icmp_ge (tgt := 71) hx hb dX7_behind_41 (by decide) (fun hc9 => ?_) (fun hc9 => ?_)
      · replace hf := ite_t hf hc9
        refine lv_iconst (v := (-1)) hx hb dX7_behind_71 (by decide) ?_
        have hq9 := Option.some.inj hf
        subst hq9
        subst hQ
        exact r_iret X hG dX7_behind_72
      · replace hf := ite_f hf hc9
        refine lv_aload_n hx hb dX7_behind_44 rfl (lv_at hl 0 rfl) ?_
        refine G_7_72 X hG 0 rfl dX7_behind_45 ?_
        refine lv_aload_n hx hb dX7_behind_48 rfl (lv_at hl 0 rfl) ?_
        refine G_7_10 X hG 0 rfl dX7_behind_49 ?_
        refine lv_iconst (v := (-1)) hx hb dX7_behind_52 (by decide) ?_
        refine lv_iload hx hb dX7_behind_53 (lv_at hl 2 rfl) ?_
        obtain ⟨q10, hq10, hf⟩ := cl_inv hf
        refine r_callVi (bc := [wX1 g (a 0 11) (a 5) q6.2.2.2.2.2.2.2.2.2.1, wX2 g (a 0 0) (a 1) q6.2.1]) (br := [wX7 g o a nw q6.1, wX2 g (a 0 1) (a 2) q6.2.2.1, wX0 g (a 0 3) (a 3) q6.2.2.2.1, wYs g a nw q6.2.2.2.2.1, wX6 g (a 0 6) (a 6) q6.2.2.2.2.2.1, wX4 g (a 0 7) (a 9) q6.2.2.2.2.2.2.1, wTs g a q6.2.2.2.2.2.2.2.1, wSs g a q6.2.2.2.2.2.2.2.2.1, wF g (a 5 3) 6 q6.2.2.2.2.2.2.2.2.2.2]) (bs' := [wX7 g o a nw q6.1, wX2 g (a 0 0) (a 1) q6.2.1, wX2 g (a 0 1) (a 2) q6.2.2.1, wX0 g (a 0 3) (a 3) q6.2.2.2.1, wYs g a nw q6.2.2.2.2.1, wX6 g (a 0 6) (a 6) q6.2.2.2.2.2.1, wX4 g (a 0 7) (a 9) q6.2.2.2.2.2.2.1, wTs g a q6.2.2.2.2.2.2.2.1, wSs g a q6.2.2.2.2.2.2.2.2.1, wX1 g (a 0 11) (a 5) q6.2.2.2.2.2.2.2.2.2.1, wF g (a 5 3) 6 q6.2.2.2.2.2.2.2.2.2.2]) (As := [.ref (a 0 0), .int (-1), .int t7]) (rest := []) X hG hl.1 (c_X1_downBehind g l (a 0 11) (a 5) (a 0 0) (a 1) n (-1) t7 q6.2.2.2.2.2.2.2.2.2.1 q6.2.1 q10 hq10) ((blk_perm2 [9, 1, 0, 2, 3, 4, 5, 6, 7, 8, 10] 11 rfl rfl (by decide)).flatten) ((blk_perm2 [2, 1, 3, 4, 5, 6, 7, 8, 9, 0, 10] 11 rfl rfl (by decide)).flatten) lk_X1_downBehind lv_X1_downBehind ml_7_199 (j := 9) (k := 0) rfl rfl rfl rfl rfl ⟨Nat.le_of_ble_eq_true rfl, Nat.le_of_ble_eq_true rfl⟩ rfl rfl (Nat.le_of_ble_eq_true rfl) ⟨Nat.zero_le _, Nat.zero_le _⟩ dX7_behind_55 (fun H locs hG => ?_)
        refine lv_iload_n hx hb dX7_behind_58 rfl (lv_at hl 1 rfl) ?_
        refine lv_icmp_lt (tgt := 65) hx hb dX7_behind_59 (by decide) (fun hc11 => ?_) (fun hc11 => ?_)
        · replace hf := ite_t hf hc11
          refine lv_iinc (v := (t7 + 1)) (lv' := [(4, .int (t7 + 1)), (0, .ref o), (2, .int a2)]) hx hb dX7_behind_65 hl (k := 2) rfl rfl (by decide) rfl (fun ls hl => ?_)
          refine lv_goto (tgt := 32) hx hb dX7_behind_68 (by decide) ?_
          exact hK8 _ hf _ _ _ hG (lv_sub hl [1, 2, 0] rfl)
        · replace hf := ite_f hf hc11
          refine lv_iload hx hb dX7_behind_62 (lv_at hl 2 rfl) ?_
          have hq9 := Option.some.inj hf
          subst hq9
          subst hQ
          exact r_iret X hG dX7_behind_64
    · replace hf := ite_t hf hc5
      refine lv_bipush (v := (-2)) hx hb dX7_behind_21 (by decide) ?_
      have hq9 := Option.some.inj hf
      subst hq9
      subst hQ
      exact r_iret X hG dX7_behind_23
def rmX7_latest : Room := { frames := 6, cells := 0, slots := 0, locals := 154 }
set_option maxHeartbeats 4000000 in
set_option maxRecDepth 100000 in
theorem c_X7_latest (g : GT) (l : Launch) (o : Nat) (a : Nat → Nat → Nat) (nw : Nat) (n : Nat) (a1 : Int32) (a2 : Int32) (c : CS) (q : Int32 × CS) (hf : f_X7_latest n nw a1 a2 c = some q) : CI g l yX7_latest cX7_latest 5 (some .int) rmX7_latest [.ref o, .int a1, .int a2] (wC g o a nw c) q.1 (wC g o a nw q.2) := by
  refine CI_intro RX7 rfl (by decide +kernel) (Nat.le_of_ble_eq_true rfl) ?_
  intro p e s m args below meth c9 A ls Q hQ X hl hG
  have hl : lv_has ls 5 [(0, .ref o), (1, .int a1), (2, .int a2)] := hl
  have hG : GM g A s.heap s.heap [] [wX7 g o a nw c.1, wX2 g (a 0 0) (a 1) c.2.1, wX2 g (a 0 1) (a 2) c.2.2.1, wX0 g (a 0 3) (a 3) c.2.2.2.1, wYs g a nw c.2.2.2.2.1, wX6 g (a 0 6) (a 6) c.2.2.2.2.2.1, wX4 g (a 0 7) (a 9) c.2.2.2.2.2.2.1, wTs g a c.2.2.2.2.2.2.2.1, wSs g a c.2.2.2.2.2.2.2.2.1, wX1 g (a 0 11) (a 5) c.2.2.2.2.2.2.2.2.2.1, wF g (a 5 3) 6 c.2.2.2.2.2.2.2.2.2.2] := hG
  have hx := X.1
  have hb := X.2.1
  have hown := X.2.2.2.1
  unfold f_X7_latest at hf
  refine lv_aload_n hx hb dX7_latest_0 rfl (lv_at hl 0 rfl) ?_
  refine lv_iload_n hx hb dX7_latest_1 rfl (lv_at hl 1 rfl) ?_
  obtain ⟨q1, hq1, hf⟩ := cl_inv hf
  refine r_callVq (bc := [wX7 g o a nw c.1, wX2 g (a 0 0) (a 1) c.2.1, wX2 g (a 0 1) (a 2) c.2.2.1, wX0 g (a 0 3) (a 3) c.2.2.2.1, wYs g a nw c.2.2.2.2.1, wX6 g (a 0 6) (a 6) c.2.2.2.2.2.1, wX4 g (a 0 7) (a 9) c.2.2.2.2.2.2.1, wTs g a c.2.2.2.2.2.2.2.1, wSs g a c.2.2.2.2.2.2.2.2.1, wX1 g (a 0 11) (a 5) c.2.2.2.2.2.2.2.2.2.1, wF g (a 5 3) 6 c.2.2.2.2.2.2.2.2.2.2]) (br := []) (bs' := [wX7 g o a nw c.1, wX2 g (a 0 0) (a 1) c.2.1, wX2 g (a 0 1) (a 2) c.2.2.1, wX0 g (a 0 3) (a 3) c.2.2.2.1, wYs g a nw c.2.2.2.2.1, wX6 g (a 0 6) (a 6) c.2.2.2.2.2.1, wX4 g (a 0 7) (a 9) c.2.2.2.2.2.2.1, wTs g a c.2.2.2.2.2.2.2.1, wSs g a c.2.2.2.2.2.2.2.2.1, wX1 g (a 0 11) (a 5) c.2.2.2.2.2.2.2.2.2.1, wF g (a 5 3) 6 c.2.2.2.2.2.2.2.2.2.2]) (As := [.int a1]) (rest := []) X hG hl.1 (c_X7_wayAt g l o a nw n a1 (c.1, c.2.1, c.2.2.1, c.2.2.2.1, c.2.2.2.2.1, c.2.2.2.2.2.1, c.2.2.2.2.2.2.1, c.2.2.2.2.2.2.2.1, c.2.2.2.2.2.2.2.2.1, c.2.2.2.2.2.2.2.2.2.1, c.2.2.2.2.2.2.2.2.2.2) q1 hq1) (List.Perm.refl _) (List.Perm.refl _) lk_X7_wayAt lv_X7_wayAt ml_7_139 (j := 0) (k := 0) rfl rfl rfl rfl rfl ⟨Nat.le_of_ble_eq_true rfl, Nat.le_of_ble_eq_true rfl⟩ rfl rfl (Nat.le_of_ble_eq_true rfl) ⟨Nat.zero_le _, Nat.zero_le _⟩ dX7_latest_2 (fun H locs hG => ?_)
  rcases q1 with _ | w2
  · replace hf := oc_n hf
    refine W.eq (g2 := F0 m 5 ls [.null]) rfl ?_
    refine lv_astore_nN (lv' := [(3, .null), (0, .ref o), (1, .int a1), (2, .int a2)]) hx hb dX7_latest_5 rfl hl (by decide) rfl (fun ls hl => ?_)
    refine lv_aload_nN hx hb dX7_latest_6 rfl (lv_at hl 0 rfl) ?_
    refine lv_ifnullN (tgt := 21) hx hb dX7_latest_7 (by decide) ?_
    refine lv_bipush (v := (-2)) hx hb dX7_latest_21 (by decide) ?_
    have hq9 := Option.some.inj hf
    subst hq9
    subst hQ
    exact r_iret X hG dX7_latest_23
  · replace hf := oc_s hf
    obtain ⟨hw3, hf⟩ := ck_inv hf
    replace hw3 := of_decide_eq_true hw3
    refine W.eq (g2 := F0 m 5 ls [.ref (a 4 w2)]) rfl ?_
    refine lv_astore_n (lv' := [(3, .ref (a 4 w2)), (0, .ref o), (1, .int a1), (2, .int a2)]) hx hb dX7_latest_5 rfl hl (by decide) rfl (fun ls hl => ?_)
    refine lv_aload_n hx hb dX7_latest_6 rfl (lv_at hl 0 rfl) ?_
    refine lv_ifnull hx hb dX7_latest_7 ?_
    refine lv_iload_n hx hb dX7_latest_10 rfl (lv_at hl 3 rfl) ?_
    refine lv_iconst (v := 0) hx hb dX7_latest_11 (by decide) ?_
    refine lv_sipush (v := 2400) hx hb dX7_latest_12 (by decide) ?_
    obtain ⟨q4, hq4, hf⟩ := cl_inv hf
    refine r_callSi (bc := []) (br := [wX7 g o a nw c.1, wX2 g (a 0 0) (a 1) c.2.1, wX2 g (a 0 1) (a 2) c.2.2.1, wX0 g (a 0 3) (a 3) c.2.2.2.1, wYs g a nw c.2.2.2.2.1, wX6 g (a 0 6) (a 6) c.2.2.2.2.2.1, wX4 g (a 0 7) (a 9) c.2.2.2.2.2.2.1, wTs g a c.2.2.2.2.2.2.2.1, wSs g a c.2.2.2.2.2.2.2.2.1, wX1 g (a 0 11) (a 5) c.2.2.2.2.2.2.2.2.2.1, wF g (a 5 3) 6 c.2.2.2.2.2.2.2.2.2.2]) (bs' := [wX7 g o a nw c.1, wX2 g (a 0 0) (a 1) c.2.1, wX2 g (a 0 1) (a 2) c.2.2.1, wX0 g (a 0 3) (a 3) c.2.2.2.1, wYs g a nw c.2.2.2.2.1, wX6 g (a 0 6) (a 6) c.2.2.2.2.2.1, wX4 g (a 0 7) (a 9) c.2.2.2.2.2.2.1, wTs g a c.2.2.2.2.2.2.2.1, wSs g a c.2.2.2.2.2.2.2.2.1, wX1 g (a 0 11) (a 5) c.2.2.2.2.2.2.2.2.2.1, wF g (a 5 3) 6 c.2.2.2.2.2.2.2.2.2.2]) (As := [.int a2, .int 0, .int 2400]) (rest := []) X hG hl.1 (c_X7_between g l n a2 0 2400 q4 hq4) (List.Perm.refl _) (List.Perm.refl _) lk_X7_between ls_X7_between ml_7_106 rfl rfl ⟨Nat.le_of_ble_eq_true rfl, Nat.le_of_ble_eq_true rfl⟩ rfl rfl (Nat.le_of_ble_eq_true rfl) ⟨Nat.zero_le _, Nat.zero_le _⟩ dX7_latest_15 (fun H locs hG => ?_)
    refine lv_if_ne (tgt := 24) hx hb dX7_latest_18 (by decide) (fun hc5 => ?_) (fun hc5 => ?_)
    · replace hf := ite_f hf hc5
      refine lv_aload_n hx hb dX7_latest_24 rfl (lv_at hl 1 rfl) ?_
      refine G_7_10 X hG 0 rfl dX7_latest_25 ?_
      refine G_7_122 X hG 1 rfl dX7_latest_28 ?_
      refine lv_iconst (v := 1) hx hb dX7_latest_31 (by decide) ?_
      refine lv_isub hx hb dX7_latest_32 ?_
      refine r_bni hf (fun x6 hf => ?_)
      refine lv_istore (lv' := [(4, .int x6), (3, .ref (a 4 w2)), (0, .ref o), (1, .int a1), (2, .int a2)]) hx hb dX7_latest_33 hl (by decide) rfl (fun ls hl => ?_)
      refine lp_go (P := fun (t7 : Int32 × MS × MS × MS × MS × MS × MS × MS × (Nat → MS) × (Nat → MS) × MS × MS) => ∀ (H : Heap) (locs : List Loc) (ls : Array Slot), GM g A s.heap H locs [wX7 g o a nw t7.2.1, wX2 g (a 0 0) (a 1) t7.2.2.1, wX2 g (a 0 1) (a 2) t7.2.2.2.1, wX0 g (a 0 3) (a 3) t7.2.2.2.2.1, wYs g a nw t7.2.2.2.2.2.1, wX6 g (a 0 6) (a 6) t7.2.2.2.2.2.2.1, wX4 g (a 0 7) (a 9) t7.2.2.2.2.2.2.2.1, wTs g a t7.2.2.2.2.2.2.2.2.1, wSs g a t7.2.2.2.2.2.2.2.2.2.1, wX1 g (a 0 11) (a 5) t7.2.2.2.2.2.2.2.2.2.2.1, wF g (a 5 3) 6 t7.2.2.2.2.2.2.2.2.2.2.2] → lv_has ls 5 [(0, .ref o), (2, .int a2), (3, .ref (a 4 w2)), (4, .int t7.1)] → W p l e rmX7_latest s m args below meth c9 H locs 0 0 Q (F0 m 35 ls [])) hf (fun K8 hK8 t7 hf H locs ls hG hl => ?_) _ _ _ hG (lv_sub hl [2, 4, 1, 0] rfl)
      refine lv_iload hx hb dX7_latest_35 (lv_at hl 3 rfl) ?_
      refine lv_if_lt (tgt := 61) hx hb dX7_latest_37 (by decide) (fun hc9 => ?_) (fun hc9 => ?_)
      · replace hf := ite_t hf hc9
        refine lv_iconst (v := (-1)) hx hb dX7_latest_61 (by decide) ?_
        have hq9 := Option.some.inj hf
        subst hq9
        subst hQ
        exact r_iret X hG dX7_latest_62
      · replace hf := ite_f hf hc9
        refine lv_aload_n hx hb dX7_latest_40 rfl (lv_at hl 0 rfl) ?_
        refine lv_aload_n hx hb dX7_latest_41 rfl (lv_at hl 2 rfl) ?_
        refine lv_iload hx hb dX7_latest_42 (lv_at hl 3 rfl) ?_
        refine lv_iconst (v := 0) hx hb dX7_latest_44 (by decide) ?_
        obtain ⟨q10, hq10, hf⟩ := cl_inv hf
        refine r_callVi (bc := [wX7 g o a nw t7.2.1, wX2 g (a 0 0) (a 1) t7.2.2.1, wX2 g (a 0 1) (a 2) t7.2.2.2.1, wX0 g (a 0 3) (a 3) t7.2.2.2.2.1, wYs g a nw t7.2.2.2.2.2.1, wX6 g (a 0 6) (a 6) t7.2.2.2.2.2.2.1, wX4 g (a 0 7) (a 9) t7.2.2.2.2.2.2.2.1, wTs g a t7.2.2.2.2.2.2.2.2.1, wSs g a t7.2.2.2.2.2.2.2.2.2.1, wX1 g (a 0 11) (a 5) t7.2.2.2.2.2.2.2.2.2.2.1, wF g (a 5 3) 6 t7.2.2.2.2.2.2.2.2.2.2.2]) (br := []) (bs' := [wX7 g o a nw q10.2.1, wX2 g (a 0 0) (a 1) q10.2.2.1, wX2 g (a 0 1) (a 2) q10.2.2.2.1, wX0 g (a 0 3) (a 3) q10.2.2.2.2.1, wYs g a nw q10.2.2.2.2.2.1, wX6 g (a 0 6) (a 6) q10.2.2.2.2.2.2.1, wX4 g (a 0 7) (a 9) q10.2.2.2.2.2.2.2.1, wTs g a q10.2.2.2.2.2.2.2.2.1, wSs g a q10.2.2.2.2.2.2.2.2.2.1, wX1 g (a 0 11) (a 5) q10.2.2.2.2.2.2.2.2.2.2.1, wF g (a 5 3) 6 q10.2.2.2.2.2.2.2.2.2.2.2]) (As := [.ref (a 4 w2), .int t7.1, .int 0]) (rest := []) X hG hl.1 (c_X7_leftBy g l o a nw n w2 t7.1 0 (t7.2.1, t7.2.2.1, t7.2.2.2.1, t7.2.2.2.2.1, t7.2.2.2.2.2.1, t7.2.2.2.2.2.2.1, t7.2.2.2.2.2.2.2.1, t7.2.2.2.2.2.2.2.2.1, t7.2.2.2.2.2.2.2.2.2.1, t7.2.2.2.2.2.2.2.2.2.2.1, t7.2.2.2.2.2.2.2.2.2.2.2) q10 hq10 hw3) (List.Perm.refl _) (List.Perm.refl _) lk_X7_leftBy lv_X7_leftBy ml_7_203 (j := 0) (k := 0) rfl rfl rfl rfl rfl ⟨Nat.le_of_ble_eq_true rfl, Nat.le_of_ble_eq_true rfl⟩ rfl rfl (Nat.le_of_ble_eq_true rfl) ⟨Nat.zero_le _, Nat.zero_le _⟩ dX7_latest_45 (fun H locs hG => ?_)
        refine lv_iload_n hx hb dX7_latest_48 rfl (lv_at hl 1 rfl) ?_
        refine lv_icmp_gt (tgt := 55) hx hb dX7_latest_49 (by decide) (fun hc11 => ?_) (fun hc11 => ?_)
        · replace hf := ite_t hf hc11
          refine lv_iinc (v := (t7.1 + (-1))) (lv' := [(4, .int (t7.1 + (-1))), (0, .ref o), (2, .int a2), (3, .ref (a 4 w2))]) hx hb dX7_latest_55 hl (k := 3) rfl rfl (by decide) rfl (fun ls hl => ?_)
          refine lv_goto (tgt := 35) hx hb dX7_latest_58 (by decide) ?_
          exact hK8 _ hf _ _ _ hG (lv_sub hl [1, 2, 3, 0] rfl)
        · replace hf := ite_f hf hc11
          refine lv_iload hx hb dX7_latest_52 (lv_at hl 3 rfl) ?_
          have hq9 := Option.some.inj hf
          subst hq9
          subst hQ
          exact r_iret X hG dX7_latest_54
    · replace hf := ite_t hf hc5
      refine lv_bipush (v := (-2)) hx hb dX7_latest_21 (by decide) ?_
      have hq9 := Option.some.inj hf
      subst hq9
      subst hQ
      exact r_iret X hG dX7_latest_23
def rmX7_more : Room := { frames := 6, cells := 0, slots := 0, locals := 154 }
set_option maxHeartbeats 4000000 in
set_option maxRecDepth 100000 in
theorem c_X7_more (g : GT) (l : Launch) (o : Nat) (a : Nat → Nat → Nat) (nw : Nat) (n : Nat) (a1 : Int32) (a2 : Int32) (c : CS) (q : Int32 × CS) (hf : f_X7_more n nw a1 a2 c = some q) : CI g l yX7_more cX7_more 5 (some .int) rmX7_more [.ref o, .int a1, .int a2] (wC g o a nw c) q.1 (wC g o a nw q.2) := by
  refine CI_intro RX7 rfl (by decide +kernel) (Nat.le_of_ble_eq_true rfl) ?_
  intro p e s m args below meth c9 A ls Q hQ X hl hG
  have hl : lv_has ls 5 [(0, .ref o), (1, .int a1), (2, .int a2)] := hl
  have hG : GM g A s.heap s.heap [] [wX7 g o a nw c.1, wX2 g (a 0 0) (a 1) c.2.1, wX2 g (a 0 1) (a 2) c.2.2.1, wX0 g (a 0 3) (a 3) c.2.2.2.1, wYs g a nw c.2.2.2.2.1, wX6 g (a 0 6) (a 6) c.2.2.2.2.2.1, wX4 g (a 0 7) (a 9) c.2.2.2.2.2.2.1, wTs g a c.2.2.2.2.2.2.2.1, wSs g a c.2.2.2.2.2.2.2.2.1, wX1 g (a 0 11) (a 5) c.2.2.2.2.2.2.2.2.2.1, wF g (a 5 3) 6 c.2.2.2.2.2.2.2.2.2.2] := hG
  have hx := X.1
  have hb := X.2.1
  have hown := X.2.2.2.1
  unfold f_X7_more at hf
  refine lv_aload_n hx hb dX7_more_0 rfl (lv_at hl 0 rfl) ?_
  refine lv_iload_n hx hb dX7_more_1 rfl (lv_at hl 1 rfl) ?_
  obtain ⟨q1, hq1, hf⟩ := cl_inv hf
  refine r_callVq (bc := [wX7 g o a nw c.1, wX2 g (a 0 0) (a 1) c.2.1, wX2 g (a 0 1) (a 2) c.2.2.1, wX0 g (a 0 3) (a 3) c.2.2.2.1, wYs g a nw c.2.2.2.2.1, wX6 g (a 0 6) (a 6) c.2.2.2.2.2.1, wX4 g (a 0 7) (a 9) c.2.2.2.2.2.2.1, wTs g a c.2.2.2.2.2.2.2.1, wSs g a c.2.2.2.2.2.2.2.2.1, wX1 g (a 0 11) (a 5) c.2.2.2.2.2.2.2.2.2.1, wF g (a 5 3) 6 c.2.2.2.2.2.2.2.2.2.2]) (br := []) (bs' := [wX7 g o a nw c.1, wX2 g (a 0 0) (a 1) c.2.1, wX2 g (a 0 1) (a 2) c.2.2.1, wX0 g (a 0 3) (a 3) c.2.2.2.1, wYs g a nw c.2.2.2.2.1, wX6 g (a 0 6) (a 6) c.2.2.2.2.2.1, wX4 g (a 0 7) (a 9) c.2.2.2.2.2.2.1, wTs g a c.2.2.2.2.2.2.2.1, wSs g a c.2.2.2.2.2.2.2.2.1, wX1 g (a 0 11) (a 5) c.2.2.2.2.2.2.2.2.2.1, wF g (a 5 3) 6 c.2.2.2.2.2.2.2.2.2.2]) (As := [.int a1]) (rest := []) X hG hl.1 (c_X7_wayAt g l o a nw n a1 (c.1, c.2.1, c.2.2.1, c.2.2.2.1, c.2.2.2.2.1, c.2.2.2.2.2.1, c.2.2.2.2.2.2.1, c.2.2.2.2.2.2.2.1, c.2.2.2.2.2.2.2.2.1, c.2.2.2.2.2.2.2.2.2.1, c.2.2.2.2.2.2.2.2.2.2) q1 hq1) (List.Perm.refl _) (List.Perm.refl _) lk_X7_wayAt lv_X7_wayAt ml_7_139 (j := 0) (k := 0) rfl rfl rfl rfl rfl ⟨Nat.le_of_ble_eq_true rfl, Nat.le_of_ble_eq_true rfl⟩ rfl rfl (Nat.le_of_ble_eq_true rfl) ⟨Nat.zero_le _, Nat.zero_le _⟩ dX7_more_2 (fun H locs hG => ?_)
  rcases q1 with _ | w2
  · replace hf := oc_n hf
    refine W.eq (g2 := F0 m 5 ls [.null]) rfl ?_
    refine lv_astore_nN (lv' := [(3, .null), (0, .ref o), (1, .int a1), (2, .int a2)]) hx hb dX7_more_5 rfl hl (by decide) rfl (fun ls hl => ?_)
    refine lv_aload_nN hx hb dX7_more_6 rfl (lv_at hl 0 rfl) ?_
    refine lv_ifnullN (tgt := 31) hx hb dX7_more_7 (by decide) ?_
    refine lv_bipush (v := (-2)) hx hb dX7_more_31 (by decide) ?_
    have hq9 := Option.some.inj hf
    subst hq9
    subst hQ
    exact r_iret X hG dX7_more_33
  · replace hf := oc_s hf
    obtain ⟨hw3, hf⟩ := ck_inv hf
    replace hw3 := of_decide_eq_true hw3
    refine W.eq (g2 := F0 m 5 ls [.ref (a 4 w2)]) rfl ?_
    refine lv_astore_n (lv' := [(3, .ref (a 4 w2)), (0, .ref o), (1, .int a1), (2, .int a2)]) hx hb dX7_more_5 rfl hl (by decide) rfl (fun ls hl => ?_)
    refine lv_aload_n hx hb dX7_more_6 rfl (lv_at hl 0 rfl) ?_
    refine lv_ifnull hx hb dX7_more_7 ?_
    refine lv_iload_n hx hb dX7_more_10 rfl (lv_at hl 3 rfl) ?_
    refine lv_iconst (v := 0) hx hb dX7_more_11 (by decide) ?_
    refine lv_sipush (v := 2400) hx hb dX7_more_12 (by decide) ?_
    obtain ⟨q4, hq4, hf⟩ := cl_inv hf
    refine r_callSi (bc := []) (br := [wX7 g o a nw c.1, wX2 g (a 0 0) (a 1) c.2.1, wX2 g (a 0 1) (a 2) c.2.2.1, wX0 g (a 0 3) (a 3) c.2.2.2.1, wYs g a nw c.2.2.2.2.1, wX6 g (a 0 6) (a 6) c.2.2.2.2.2.1, wX4 g (a 0 7) (a 9) c.2.2.2.2.2.2.1, wTs g a c.2.2.2.2.2.2.2.1, wSs g a c.2.2.2.2.2.2.2.2.1, wX1 g (a 0 11) (a 5) c.2.2.2.2.2.2.2.2.2.1, wF g (a 5 3) 6 c.2.2.2.2.2.2.2.2.2.2]) (bs' := [wX7 g o a nw c.1, wX2 g (a 0 0) (a 1) c.2.1, wX2 g (a 0 1) (a 2) c.2.2.1, wX0 g (a 0 3) (a 3) c.2.2.2.1, wYs g a nw c.2.2.2.2.1, wX6 g (a 0 6) (a 6) c.2.2.2.2.2.1, wX4 g (a 0 7) (a 9) c.2.2.2.2.2.2.1, wTs g a c.2.2.2.2.2.2.2.1, wSs g a c.2.2.2.2.2.2.2.2.1, wX1 g (a 0 11) (a 5) c.2.2.2.2.2.2.2.2.2.1, wF g (a 5 3) 6 c.2.2.2.2.2.2.2.2.2.2]) (As := [.int a2, .int 0, .int 2400]) (rest := []) X hG hl.1 (c_X7_between g l n a2 0 2400 q4 hq4) (List.Perm.refl _) (List.Perm.refl _) lk_X7_between ls_X7_between ml_7_106 rfl rfl ⟨Nat.le_of_ble_eq_true rfl, Nat.le_of_ble_eq_true rfl⟩ rfl rfl (Nat.le_of_ble_eq_true rfl) ⟨Nat.zero_le _, Nat.zero_le _⟩ dX7_more_15 (fun H locs hG => ?_)
    refine lv_if_eq (tgt := 31) hx hb dX7_more_18 (by decide) (fun hc5 => ?_) (fun hc5 => ?_)
    · replace hf := ite_t hf hc5
      refine lv_bipush (v := (-2)) hx hb dX7_more_31 (by decide) ?_
      have hq9 := Option.some.inj hf
      subst hq9
      subst hQ
      exact r_iret X hG dX7_more_33
    · replace hf := ite_f hf hc5
      refine lv_aload_n hx hb dX7_more_21 rfl (lv_at hl 1 rfl) ?_
      refine G_7_26 X hG 0 rfl dX7_more_22 ?_
      refine G_7_184 X hG 3 rfl dX7_more_25 ?_
      refine lv_if_ne (tgt := 34) hx hb dX7_more_28 (by decide) (fun hc6 => ?_) (fun hc6 => ?_)
      · replace hf := ite_f hf hc6
        refine lv_iconst (v := 0) hx hb dX7_more_34 (by decide) ?_
        refine lv_istore (lv' := [(4, .int 0), (3, .ref (a 4 w2)), (0, .ref o), (1, .int a1), (2, .int a2)]) hx hb dX7_more_35 hl (by decide) rfl (fun ls hl => ?_)
        refine lp_go (P := fun (t7 : Int32 × MS × MS × MS × MS × MS × MS × MS × (Nat → MS) × (Nat → MS) × MS × MS) => ∀ (H : Heap) (locs : List Loc) (ls : Array Slot), GM g A s.heap H locs [wX7 g o a nw t7.2.1, wX2 g (a 0 0) (a 1) t7.2.2.1, wX2 g (a 0 1) (a 2) t7.2.2.2.1, wX0 g (a 0 3) (a 3) t7.2.2.2.2.1, wYs g a nw t7.2.2.2.2.2.1, wX6 g (a 0 6) (a 6) t7.2.2.2.2.2.2.1, wX4 g (a 0 7) (a 9) t7.2.2.2.2.2.2.2.1, wTs g a t7.2.2.2.2.2.2.2.2.1, wSs g a t7.2.2.2.2.2.2.2.2.2.1, wX1 g (a 0 11) (a 5) t7.2.2.2.2.2.2.2.2.2.2.1, wF g (a 5 3) 6 t7.2.2.2.2.2.2.2.2.2.2.2] → lv_has ls 5 [(0, .ref o), (2, .int a2), (3, .ref (a 4 w2)), (4, .int t7.1)] → W p l e rmX7_more s m args below meth c9 H locs 0 0 Q (F0 m 37 ls [])) hf (fun K8 hK8 t7 hf H locs ls hG hl => ?_) _ _ _ hG (lv_sub hl [2, 4, 1, 0] rfl)
        refine lv_iload hx hb dX7_more_37 (lv_at hl 3 rfl) ?_
        refine lv_bipush (v := 20) hx hb dX7_more_39 (by decide) ?_
        refine lv_icmp_gt (tgt := 68) hx hb dX7_more_41 (by decide) (fun hc9 => ?_) (fun hc9 => ?_)
        · replace hf := ite_t hf hc9
          refine lv_iconst (v := (-1)) hx hb dX7_more_68 (by decide) ?_
          have hq9 := Option.some.inj hf
          subst hq9
          subst hQ
          exact r_iret X hG dX7_more_69
        · replace hf := ite_f hf hc9
          refine lv_aload_n hx hb dX7_more_44 rfl (lv_at hl 0 rfl) ?_
          refine lv_aload_n hx hb dX7_more_45 rfl (lv_at hl 2 rfl) ?_
          refine lv_aload_n hx hb dX7_more_46 rfl (lv_at hl 2 rfl) ?_
          refine r_get X hG 4 w2 rfl (Y_get hw3) rfl 1 (by decide) inX6 (TW_at 167 (by decide +kernel) (by decide +kernel)) rfl dX7_more_47 ?_
          refine lv_iload hx hb dX7_more_50 (lv_at hl 3 rfl) ?_
          obtain ⟨q10, hq10, hf⟩ := cl_inv hf
          refine r_callVi (bc := [wX7 g o a nw t7.2.1, wX2 g (a 0 0) (a 1) t7.2.2.1, wX2 g (a 0 1) (a 2) t7.2.2.2.1, wX0 g (a 0 3) (a 3) t7.2.2.2.2.1, wYs g a nw t7.2.2.2.2.2.1, wX6 g (a 0 6) (a 6) t7.2.2.2.2.2.2.1, wX4 g (a 0 7) (a 9) t7.2.2.2.2.2.2.2.1, wTs g a t7.2.2.2.2.2.2.2.2.1, wSs g a t7.2.2.2.2.2.2.2.2.2.1, wX1 g (a 0 11) (a 5) t7.2.2.2.2.2.2.2.2.2.2.1, wF g (a 5 3) 6 t7.2.2.2.2.2.2.2.2.2.2.2]) (br := []) (bs' := [wX7 g o a nw q10.2.1, wX2 g (a 0 0) (a 1) q10.2.2.1, wX2 g (a 0 1) (a 2) q10.2.2.2.1, wX0 g (a 0 3) (a 3) q10.2.2.2.2.1, wYs g a nw q10.2.2.2.2.2.1, wX6 g (a 0 6) (a 6) q10.2.2.2.2.2.2.1, wX4 g (a 0 7) (a 9) q10.2.2.2.2.2.2.2.1, wTs g a q10.2.2.2.2.2.2.2.2.1, wSs g a q10.2.2.2.2.2.2.2.2.2.1, wX1 g (a 0 11) (a 5) q10.2.2.2.2.2.2.2.2.2.2.1, wF g (a 5 3) 6 q10.2.2.2.2.2.2.2.2.2.2.2]) (As := [.ref (a 4 w2), .int (t7.2.2.2.2.2.1.2 1 w2), .int t7.1]) (rest := []) X hG hl.1 (c_X7_leftBy g l o a nw n w2 (t7.2.2.2.2.2.1.2 1 w2) t7.1 (t7.2.1, t7.2.2.1, t7.2.2.2.1, t7.2.2.2.2.1, t7.2.2.2.2.2.1, t7.2.2.2.2.2.2.1, t7.2.2.2.2.2.2.2.1, t7.2.2.2.2.2.2.2.2.1, t7.2.2.2.2.2.2.2.2.2.1, t7.2.2.2.2.2.2.2.2.2.2.1, t7.2.2.2.2.2.2.2.2.2.2.2) q10 hq10 hw3) (List.Perm.refl _) (List.Perm.refl _) lk_X7_leftBy lv_X7_leftBy ml_7_203 (j := 0) (k := 0) rfl rfl rfl rfl rfl ⟨Nat.le_of_ble_eq_true rfl, Nat.le_of_ble_eq_true rfl⟩ rfl rfl (Nat.le_of_ble_eq_true rfl) ⟨Nat.zero_le _, Nat.zero_le _⟩ dX7_more_52 (fun H locs hG => ?_)
          refine lv_iload_n hx hb dX7_more_55 rfl (lv_at hl 1 rfl) ?_
          refine lv_icmp_gt (tgt := 62) hx hb dX7_more_56 (by decide) (fun hc11 => ?_) (fun hc11 => ?_)
          · replace hf := ite_t hf hc11
            refine lv_iinc (v := (t7.1 + 1)) (lv' := [(4, .int (t7.1 + 1)), (0, .ref o), (2, .int a2), (3, .ref (a 4 w2))]) hx hb dX7_more_62 hl (k := 3) rfl rfl (by decide) rfl (fun ls hl => ?_)
            refine lv_goto (tgt := 37) hx hb dX7_more_65 (by decide) ?_
            exact hK8 _ hf _ _ _ hG (lv_sub hl [1, 2, 3, 0] rfl)
          · replace hf := ite_f hf hc11
            refine lv_iload hx hb dX7_more_59 (lv_at hl 3 rfl) ?_
            have hq9 := Option.some.inj hf
            subst hq9
            subst hQ
            exact r_iret X hG dX7_more_61
      · replace hf := ite_t hf hc6
        refine lv_bipush (v := (-2)) hx hb dX7_more_31 (by decide) ?_
        have hq9 := Option.some.inj hf
        subst hq9
        subst hQ
        exact r_iret X hG dX7_more_33
def rmX7_choose : Room := { frames := 6, cells := 0, slots := 0, locals := 152 }
set_option maxHeartbeats 4000000 in
set_option maxRecDepth 100000 in
theorem c_X7_choose (g : GT) (l : Launch) (o : Nat) (a : Nat → Nat → Nat) (nw : Nat) (n : Nat) (a1 : Int32) (c : CS) (q : Int64 × CS) (hf : f_X7_choose n nw a1 c = some q) : CL g l yX7_choose cX7_choose 8 (some .long) rmX7_choose [.ref o, .int a1] (wC g o a nw c) q.1 (wC g o a nw q.2) := by
  refine CL_intro RX7 rfl (by decide +kernel) (Nat.le_of_ble_eq_true rfl) ?_
  intro p e s m args below meth c9 A ls Q hQ X hl hG
  have hl : lv_has ls 8 [(0, .ref o), (1, .int a1)] := hl
  have hG : GM g A s.heap s.heap [] [wX7 g o a nw c.1, wX2 g (a 0 0) (a 1) c.2.1, wX2 g (a 0 1) (a 2) c.2.2.1, wX0 g (a 0 3) (a 3) c.2.2.2.1, wYs g a nw c.2.2.2.2.1, wX6 g (a 0 6) (a 6) c.2.2.2.2.2.1, wX4 g (a 0 7) (a 9) c.2.2.2.2.2.2.1, wTs g a c.2.2.2.2.2.2.2.1, wSs g a c.2.2.2.2.2.2.2.2.1, wX1 g (a 0 11) (a 5) c.2.2.2.2.2.2.2.2.2.1, wF g (a 5 3) 6 c.2.2.2.2.2.2.2.2.2.2] := hG
  have hx := X.1
  have hb := X.2.1
  have hown := X.2.2.2.1
  unfold f_X7_choose at hf
  refine lv_iload_n hx hb dX7_choose_0 rfl (lv_at hl 1 rfl) ?_
  refine lv_iconst (v := 0) hx hb dX7_choose_1 (by decide) ?_
  refine lv_iconst (v := 1) hx hb dX7_choose_2 (by decide) ?_
  obtain ⟨q1, hq1, hf⟩ := cl_inv hf
  refine r_callSi (bc := []) (br := [wX7 g o a nw c.1, wX2 g (a 0 0) (a 1) c.2.1, wX2 g (a 0 1) (a 2) c.2.2.1, wX0 g (a 0 3) (a 3) c.2.2.2.1, wYs g a nw c.2.2.2.2.1, wX6 g (a 0 6) (a 6) c.2.2.2.2.2.1, wX4 g (a 0 7) (a 9) c.2.2.2.2.2.2.1, wTs g a c.2.2.2.2.2.2.2.1, wSs g a c.2.2.2.2.2.2.2.2.1, wX1 g (a 0 11) (a 5) c.2.2.2.2.2.2.2.2.2.1, wF g (a 5 3) 6 c.2.2.2.2.2.2.2.2.2.2]) (bs' := [wX7 g o a nw c.1, wX2 g (a 0 0) (a 1) c.2.1, wX2 g (a 0 1) (a 2) c.2.2.1, wX0 g (a 0 3) (a 3) c.2.2.2.1, wYs g a nw c.2.2.2.2.1, wX6 g (a 0 6) (a 6) c.2.2.2.2.2.1, wX4 g (a 0 7) (a 9) c.2.2.2.2.2.2.1, wTs g a c.2.2.2.2.2.2.2.1, wSs g a c.2.2.2.2.2.2.2.2.1, wX1 g (a 0 11) (a 5) c.2.2.2.2.2.2.2.2.2.1, wF g (a 5 3) 6 c.2.2.2.2.2.2.2.2.2.2]) (As := [.int a1, .int 0, .int 1]) (rest := []) X hG hl.1 (c_X7_between g l n a1 0 1 q1 hq1) (List.Perm.refl _) (List.Perm.refl _) lk_X7_between ls_X7_between ml_7_106 rfl rfl ⟨Nat.le_of_ble_eq_true rfl, Nat.le_of_ble_eq_true rfl⟩ rfl rfl (Nat.le_of_ble_eq_true rfl) ⟨Nat.zero_le _, Nat.zero_le _⟩ dX7_choose_3 (fun H locs hG => ?_)
  refine lv_if_ne (tgt := 13) hx hb dX7_choose_6 (by decide) (fun hc2 => ?_) (fun hc2 => ?_)
  · replace hf := ite_f hf hc2
    refine lv_iconst (v := (-1)) hx hb dX7_choose_13 (by decide) ?_
    refine lv_istore_n (lv' := [(2, .int (-1)), (0, .ref o), (1, .int a1)]) hx hb dX7_choose_14 rfl hl (by decide) rfl (fun ls hl => ?_)
    refine lv_ldc2 hx hb hown (X.2.2.2.2.1 _ kl_7_178) dX7_choose_15 ?_
    refine lv_lstore_n (lv' := [(3, .long (-4611686018427387904)), (2, .int (-1)), (0, .ref o), (1, .int a1)]) hx hb dX7_choose_18 rfl hl (by decide) rfl (fun ls hl => ?_)
    refine lv_iconst (v := 0) hx hb dX7_choose_19 (by decide) ?_
    refine lv_istore (lv' := [(5, .int 0), (3, .long (-4611686018427387904)), (2, .int (-1)), (0, .ref o), (1, .int a1)]) hx hb dX7_choose_20 hl (by decide) rfl (fun ls hl => ?_)
    refine lp_go (P := fun (t3 : Int32 × Int64 × Int32 × MS × MS × MS × MS × MS × MS × MS × (Nat → MS) × (Nat → MS) × MS × MS) => ∀ (H : Heap) (locs : List Loc) (ls : Array Slot), GM g A s.heap H locs [wX7 g o a nw t3.2.2.2.1, wX2 g (a 0 0) (a 1) t3.2.2.2.2.1, wX2 g (a 0 1) (a 2) t3.2.2.2.2.2.1, wX0 g (a 0 3) (a 3) t3.2.2.2.2.2.2.1, wYs g a nw t3.2.2.2.2.2.2.2.1, wX6 g (a 0 6) (a 6) t3.2.2.2.2.2.2.2.2.1, wX4 g (a 0 7) (a 9) t3.2.2.2.2.2.2.2.2.2.1, wTs g a t3.2.2.2.2.2.2.2.2.2.2.1, wSs g a t3.2.2.2.2.2.2.2.2.2.2.2.1, wX1 g (a 0 11) (a 5) t3.2.2.2.2.2.2.2.2.2.2.2.2.1, wF g (a 5 3) 6 t3.2.2.2.2.2.2.2.2.2.2.2.2.2] → lv_has ls 8 [(0, .ref o), (1, .int a1), (2, .int t3.1), (3, .long t3.2.1), (5, .int t3.2.2.1)] → W p l e rmX7_choose s m args below meth c9 H locs 0 0 Q (F0 m 22 ls [])) hf (fun K4 hK4 t3 hf H locs ls hG hl => ?_) _ _ _ hG (lv_sub hl [3, 4, 2, 1, 0] rfl)
    refine lv_iload hx hb dX7_choose_22 (lv_at hl 4 rfl) ?_
    refine lv_aload_n hx hb dX7_choose_24 rfl (lv_at hl 0 rfl) ?_
    refine G_7_36 X hG 0 rfl dX7_choose_25 ?_
    refine lv_icmp_ge (tgt := 91) hx hb dX7_choose_28 (by decide) (fun hc5 => ?_) (fun hc5 => ?_)
    · replace hf := ite_t hf hc5
      refine lv_iload_n hx hb dX7_choose_91 rfl (lv_at hl 2 rfl) ?_
      refine lv_iconst (v := (-1)) hx hb dX7_choose_92 (by decide) ?_
      refine lv_icmp_ne (tgt := 100) hx hb dX7_choose_93 (by decide) (fun hc6 => ?_) (fun hc6 => ?_)
      · replace hf := ite_f hf hc6
        refine lv_iload_n hx hb dX7_choose_100 rfl (lv_at hl 1 rfl) ?_
        refine lv_if_ne (tgt := 109) hx hb dX7_choose_101 (by decide) (fun hc7 => ?_) (fun hc7 => ?_)
        · replace hf := ite_f hf hc7
          refine lv_lload_n hx hb dX7_choose_109 rfl (lv_at hl 3 rfl) ?_
          have hq9 := Option.some.inj hf
          subst hq9
          subst hQ
          exact r_lret X hG dX7_choose_110
        · replace hf := ite_t hf hc7
          refine lv_iload_n hx hb dX7_choose_104 rfl (lv_at hl 2 rfl) ?_
          refine lv_i2l hx hb dX7_choose_105 rfl ?_
          refine lv_goto (tgt := 110) hx hb dX7_choose_106 (by decide) ?_
          have hq9 := Option.some.inj hf
          subst hq9
          subst hQ
          exact r_lret X hG dX7_choose_110
      · replace hf := ite_t hf hc6
        refine lv_ldc2 hx hb hown (X.2.2.2.2.1 _ kl_7_178) dX7_choose_96 ?_
        have hq9 := Option.some.inj hf
        subst hq9
        subst hQ
        exact r_lret X hG dX7_choose_99
    · replace hf := ite_f hf hc5
      refine lv_aload_n hx hb dX7_choose_31 rfl (lv_at hl 0 rfl) ?_
      refine lv_aload_n hx hb dX7_choose_32 rfl (lv_at hl 0 rfl) ?_
      refine G_7_32 X hG 0 rfl dX7_choose_33 ?_
      refine lv_iload hx hb dX7_choose_36 (lv_at hl 4 rfl) ?_
      refine r_aaldq 5 X hG 0 1 rfl rfl rfl hf dX7_choose_38 (fun hb8 hf => ?_)
      obtain ⟨hw9, hf⟩ := ck_inv hf
      replace hw9 := of_decide_eq_true hw9
      refine W.eq (g2 := F0 m 39 ls [.ref (a 4 (Int32.toNatClampNeg t3.2.2.1)), .ref o]) (by simp only [if_pos hw9]; rfl) ?_
      obtain ⟨q10, hq10, hf⟩ := cl_inv hf
      refine r_callVv (bc := [wX7 g o a nw t3.2.2.2.1, wX2 g (a 0 0) (a 1) t3.2.2.2.2.1, wX2 g (a 0 1) (a 2) t3.2.2.2.2.2.1, wX0 g (a 0 3) (a 3) t3.2.2.2.2.2.2.1, wYs g a nw t3.2.2.2.2.2.2.2.1, wX6 g (a 0 6) (a 6) t3.2.2.2.2.2.2.2.2.1, wX4 g (a 0 7) (a 9) t3.2.2.2.2.2.2.2.2.2.1, wTs g a t3.2.2.2.2.2.2.2.2.2.2.1, wSs g a t3.2.2.2.2.2.2.2.2.2.2.2.1, wX1 g (a 0 11) (a 5) t3.2.2.2.2.2.2.2.2.2.2.2.2.1, wF g (a 5 3) 6 t3.2.2.2.2.2.2.2.2.2.2.2.2.2]) (br := []) (bs' := [wX7 g o a nw q10.1, wX2 g (a 0 0) (a 1) q10.2.1, wX2 g (a 0 1) (a 2) q10.2.2.1, wX0 g (a 0 3) (a 3) q10.2.2.2.1, wYs g a nw q10.2.2.2.2.1, wX6 g (a 0 6) (a 6) q10.2.2.2.2.2.1, wX4 g (a 0 7) (a 9) q10.2.2.2.2.2.2.1, wTs g a q10.2.2.2.2.2.2.2.1, wSs g a q10.2.2.2.2.2.2.2.2.1, wX1 g (a 0 11) (a 5) q10.2.2.2.2.2.2.2.2.2.1, wF g (a 5 3) 6 q10.2.2.2.2.2.2.2.2.2.2]) (As := [.ref (a 4 (Int32.toNatClampNeg t3.2.2.1))]) (rest := []) X hG hl.1 (c_X7_runDay g l o a nw n (Int32.toNatClampNeg t3.2.2.1) (t3.2.2.2.1, t3.2.2.2.2.1, t3.2.2.2.2.2.1, t3.2.2.2.2.2.2.1, t3.2.2.2.2.2.2.2.1, t3.2.2.2.2.2.2.2.2.1, t3.2.2.2.2.2.2.2.2.2.1, t3.2.2.2.2.2.2.2.2.2.2.1, t3.2.2.2.2.2.2.2.2.2.2.2.1, t3.2.2.2.2.2.2.2.2.2.2.2.2.1, t3.2.2.2.2.2.2.2.2.2.2.2.2.2) q10 hq10 hw9) (List.Perm.refl _) (List.Perm.refl _) lk_X7_runDay lv_X7_runDay ml_7_170 (j := 0) (k := 0) rfl rfl rfl rfl rfl ⟨Nat.le_of_ble_eq_true rfl, Nat.le_of_ble_eq_true rfl⟩ rfl rfl (Nat.le_of_ble_eq_true rfl) ⟨Nat.zero_le _, Nat.zero_le _⟩ dX7_choose_39 (fun H locs hG => ?_)
      refine lv_aload_n hx hb dX7_choose_42 rfl (lv_at hl 0 rfl) ?_
      refine G_7_72 X hG 0 rfl dX7_choose_43 ?_
      refine lv_aload_n hx hb dX7_choose_46 rfl (lv_at hl 0 rfl) ?_
      refine G_7_10 X hG 0 rfl dX7_choose_47 ?_
      refine lv_aload_n hx hb dX7_choose_50 rfl (lv_at hl 0 rfl) ?_
      refine G_7_56 X hG 0 rfl dX7_choose_51 ?_
      refine lv_aload_n hx hb dX7_choose_54 rfl (lv_at hl 0 rfl) ?_
      refine G_7_10 X hG 0 rfl dX7_choose_55 ?_
      refine G_7_164 X hG 1 rfl dX7_choose_58 ?_
      refine r_aaldq 3 X hG 0 2 rfl rfl rfl hf dX7_choose_61 (fun hb11 hf => ?_)
      refine W.eq (g2 := F0 m 62 ls [.ref (a 7 (Int32.toNatClampNeg (q10.2.1.1 9))), .ref (a 0 0), .ref (a 0 11)]) rfl ?_
      obtain ⟨q12, hq12, hf⟩ := cl_inv hf
      refine r_callVl (bc := [wX1 g (a 0 11) (a 5) q10.2.2.2.2.2.2.2.2.2.1, wF g (a 5 3) 6 q10.2.2.2.2.2.2.2.2.2.2, wX2 g (a 0 0) (a 1) q10.2.1, wX5 g (a 7 (Int32.toNatClampNeg (q10.2.1.1 9))) (a (20 + (Int32.toNatClampNeg (q10.2.1.1 9)))) (q10.2.2.2.2.2.2.2.1 (Int32.toNatClampNeg (q10.2.1.1 9)))]) (br := [wX7 g o a nw q10.1, wX2 g (a 0 1) (a 2) q10.2.2.1, wX0 g (a 0 3) (a 3) q10.2.2.2.1, wYs g a nw q10.2.2.2.2.1, wX6 g (a 0 6) (a 6) q10.2.2.2.2.2.1, wX4 g (a 0 7) (a 9) q10.2.2.2.2.2.2.1, wTsR g a q10.2.2.2.2.2.2.2.1 (Int32.toNatClampNeg (q10.2.1.1 9)), wSs g a q10.2.2.2.2.2.2.2.2.1]) (bs' := [wX7 g o a nw q10.1, wX2 g (a 0 0) (a 1) q10.2.1, wX2 g (a 0 1) (a 2) q10.2.2.1, wX0 g (a 0 3) (a 3) q10.2.2.2.1, wYs g a nw q10.2.2.2.2.1, wX6 g (a 0 6) (a 6) q10.2.2.2.2.2.1, wX4 g (a 0 7) (a 9) q10.2.2.2.2.2.2.1, wTs g a (va_up q10.2.2.2.2.2.2.2.1 (Int32.toNatClampNeg (q10.2.1.1 9)) q12.2.2), wSs g a q10.2.2.2.2.2.2.2.2.1, wX1 g (a 0 11) (a 5) q10.2.2.2.2.2.2.2.2.2.1, wF g (a 5 3) 6 q12.2.1]) (As := [.ref (a 0 0), .ref (a 7 (Int32.toNatClampNeg (q10.2.1.1 9)))]) (rest := []) X hG hl.1 (c_X1_harmDone g l (a 0 11) (a 5) (a 0 0) (a 1) (a 7 (Int32.toNatClampNeg (q10.2.1.1 9))) (a (20 + (Int32.toNatClampNeg (q10.2.1.1 9)))) n q10.2.2.2.2.2.2.2.2.2.1 q10.2.2.2.2.2.2.2.2.2.2 q10.2.1 (q10.2.2.2.2.2.2.2.1 (Int32.toNatClampNeg (q10.2.1.1 9))) q12 hq12) ((focus_perm 7 rfl (T_focus (ib_lt hb11))).trans (blk_perm2 [10, 11, 1, 7, 0, 2, 3, 4, 5, 6, 8, 9] 12 rfl rfl (by decide)).flatten) ((blk_perm2 [4, 2, 5, 6, 7, 8, 9, 3, 10, 11, 0, 1] 12 rfl rfl (by decide)).flatten.trans (focus_perm 7 rfl (T_focus2 (ib_lt hb11) _ _)).symm) lk_X1_harmDone lv_X1_harmDone ml_7_180 (j := 9) (k := 0) rfl rfl rfl rfl rfl ⟨Nat.le_of_ble_eq_true rfl, Nat.le_of_ble_eq_true rfl⟩ rfl rfl (Nat.le_of_ble_eq_true rfl) ⟨Nat.zero_le _, Nat.zero_le _⟩ dX7_choose_62 (fun H locs hG => ?_)
      refine lv_lstore (lv' := [(6, .long q12.1), (0, .ref o), (1, .int a1), (2, .int t3.1), (3, .long t3.2.1), (5, .int t3.2.2.1)]) hx hb dX7_choose_65 hl (by decide) rfl (fun ls hl => ?_)
      refine lv_iload_n hx hb dX7_choose_67 rfl (lv_at hl 3 rfl) ?_
      refine lv_iconst (v := (-1)) hx hb dX7_choose_68 (by decide) ?_
      refine jn_use (P := fun (t13 : Int32 × Int64) => ∀ (H : Heap) (locs : List Loc) (ls : Array Slot), GM g A s.heap H locs [wX7 g o a nw q10.1, wX2 g (a 0 0) (a 1) q10.2.1, wX2 g (a 0 1) (a 2) q10.2.2.1, wX0 g (a 0 3) (a 3) q10.2.2.2.1, wYs g a nw q10.2.2.2.2.1, wX6 g (a 0 6) (a 6) q10.2.2.2.2.2.1, wX4 g (a 0 7) (a 9) q10.2.2.2.2.2.2.1, wTs g a (va_up q10.2.2.2.2.2.2.2.1 (Int32.toNatClampNeg (q10.2.1.1 9)) q12.2.2), wSs g a q10.2.2.2.2.2.2.2.2.1, wX1 g (a 0 11) (a 5) q10.2.2.2.2.2.2.2.2.2.1, wF g (a 5 3) 6 q12.2.1] → lv_has ls 8 [(0, .ref o), (1, .int a1), (2, .int t13.1), (3, .long t13.2), (5, .int t3.2.2.1)] → W p l e rmX7_choose s m args below meth c9 H locs 0 0 Q (F0 m 85 ls [])) hf (fun t13 hf H locs ls hG hl => ?_) (fun K14 hK14 hf => ?_)
      · refine lv_iinc (v := (t3.2.2.1 + 1)) (lv' := [(5, .int (t3.2.2.1 + 1)), (0, .ref o), (1, .int a1), (2, .int t13.1), (3, .long t13.2)]) hx hb dX7_choose_85 hl (k := 4) rfl rfl (by decide) rfl (fun ls hl => ?_)
        refine lv_goto (tgt := 22) hx hb dX7_choose_88 (by decide) ?_
        exact hK4 _ hf _ _ _ hG (lv_sub hl [1, 2, 3, 4, 0] rfl)
      refine jn_use (P := fun (t15 : Unit) => ∀ (H : Heap) (locs : List Loc) (ls : Array Slot), GM g A s.heap H locs [wX7 g o a nw q10.1, wX2 g (a 0 0) (a 1) q10.2.1, wX2 g (a 0 1) (a 2) q10.2.2.1, wX0 g (a 0 3) (a 3) q10.2.2.2.1, wYs g a nw q10.2.2.2.2.1, wX6 g (a 0 6) (a 6) q10.2.2.2.2.2.1, wX4 g (a 0 7) (a 9) q10.2.2.2.2.2.2.1, wTs g a (va_up q10.2.2.2.2.2.2.2.1 (Int32.toNatClampNeg (q10.2.1.1 9)) q12.2.2), wSs g a q10.2.2.2.2.2.2.2.2.1, wX1 g (a 0 11) (a 5) q10.2.2.2.2.2.2.2.2.2.1, wF g (a 5 3) 6 q12.2.1] → lv_has ls 8 [(0, .ref o), (1, .int a1), (5, .int t3.2.2.1), (6, .long q12.1)] → W p l e rmX7_choose s m args below meth c9 H locs 0 0 Q (F0 m 79 ls [])) hf (fun t15 hf H locs ls hG hl => ?_) (fun K16 hK16 hf => ?_)
      · refine lv_iload hx hb dX7_choose_79 (lv_at hl 2 rfl) ?_
        refine lv_istore_n (lv' := [(2, .int t3.2.2.1), (0, .ref o), (1, .int a1), (5, .int t3.2.2.1), (6, .long q12.1)]) hx hb dX7_choose_81 rfl hl (by decide) rfl (fun ls hl => ?_)
        refine lv_lload hx hb dX7_choose_82 (lv_at hl 4 rfl) ?_
        refine lv_lstore_n (lv' := [(3, .long q12.1), (2, .int t3.2.2.1), (0, .ref o), (1, .int a1), (5, .int t3.2.2.1), (6, .long q12.1)]) hx hb dX7_choose_84 rfl hl (by decide) rfl (fun ls hl => ?_)
        exact hK14 _ hf _ _ _ hG (lv_sub hl [2, 3, 1, 0, 4] rfl)
      refine lv_icmp_eq (tgt := 79) hx hb dX7_choose_69 (by decide) (fun hc17 => ?_) (fun hc17 => ?_)
      · replace hf := ite_t hf hc17
        exact hK16 _ hf _ _ _ hG (lv_sub hl [1, 2, 5, 0] rfl)
      · replace hf := ite_f hf hc17
        refine lv_lload hx hb dX7_choose_72 (lv_at hl 0 rfl) ?_
        refine lv_lload_n hx hb dX7_choose_74 rfl (lv_at hl 4 rfl) ?_
        refine W.lcmp hx hb dX7_choose_75 ?_
        refine lv_if_ge (tgt := 85) hx hb dX7_choose_76 (by decide) (fun hc18 => ?_) (fun hc18 => ?_)
        · replace hf := ite_t hf hc18
          exact hK14 _ hf _ _ _ hG (lv_sub hl [1, 2, 3, 4, 5] rfl)
        · replace hf := ite_f hf hc18
          exact hK16 _ hf _ _ _ hG (lv_sub hl [1, 2, 5, 0] rfl)
  · replace hf := ite_t hf hc2
    refine lv_ldc2 hx hb hown (X.2.2.2.2.1 _ kl_7_178) dX7_choose_9 ?_
    have hq9 := Option.some.inj hf
    subst hq9
    subst hQ
    exact r_lret X hG dX7_choose_12
def rmX7_judge : Room := { frames := 5, cells := 0, slots := 0, locals := 131 }
set_option maxHeartbeats 4000000 in
set_option maxRecDepth 100000 in
theorem c_X7_judge (g : GT) (l : Launch) (o : Nat) (a : Nat → Nat → Nat) (nw : Nat) (n : Nat) (a1 : Int32) (c : CS) (q : Int32 × CS) (hf : f_X7_judge n nw a1 c = some q) : CI g l yX7_judge cX7_judge 3 (some .int) rmX7_judge [.ref o, .int a1] (wC g o a nw c) q.1 (wC g o a nw q.2) := by
  refine CI_intro RX7 rfl (by decide +kernel) (Nat.le_of_ble_eq_true rfl) ?_
  intro p e s m args below meth c9 A ls Q hQ X hl hG
  have hl : lv_has ls 3 [(0, .ref o), (1, .int a1)] := hl
  have hG : GM g A s.heap s.heap [] [wX7 g o a nw c.1, wX2 g (a 0 0) (a 1) c.2.1, wX2 g (a 0 1) (a 2) c.2.2.1, wX0 g (a 0 3) (a 3) c.2.2.2.1, wYs g a nw c.2.2.2.2.1, wX6 g (a 0 6) (a 6) c.2.2.2.2.2.1, wX4 g (a 0 7) (a 9) c.2.2.2.2.2.2.1, wTs g a c.2.2.2.2.2.2.2.1, wSs g a c.2.2.2.2.2.2.2.2.1, wX1 g (a 0 11) (a 5) c.2.2.2.2.2.2.2.2.2.1, wF g (a 5 3) 6 c.2.2.2.2.2.2.2.2.2.2] := hG
  have hx := X.1
  have hb := X.2.1
  have hown := X.2.2.2.1
  unfold f_X7_judge at hf
  refine lv_iload_n hx hb dX7_judge_0 rfl (lv_at hl 1 rfl) ?_
  obtain ⟨q1, hq1, hf⟩ := cl_inv hf
  refine r_callSi (bc := []) (br := [wX7 g o a nw c.1, wX2 g (a 0 0) (a 1) c.2.1, wX2 g (a 0 1) (a 2) c.2.2.1, wX0 g (a 0 3) (a 3) c.2.2.2.1, wYs g a nw c.2.2.2.2.1, wX6 g (a 0 6) (a 6) c.2.2.2.2.2.1, wX4 g (a 0 7) (a 9) c.2.2.2.2.2.2.1, wTs g a c.2.2.2.2.2.2.2.1, wSs g a c.2.2.2.2.2.2.2.2.1, wX1 g (a 0 11) (a 5) c.2.2.2.2.2.2.2.2.2.1, wF g (a 5 3) 6 c.2.2.2.2.2.2.2.2.2.2]) (bs' := [wX7 g o a nw c.1, wX2 g (a 0 0) (a 1) c.2.1, wX2 g (a 0 1) (a 2) c.2.2.1, wX0 g (a 0 3) (a 3) c.2.2.2.1, wYs g a nw c.2.2.2.2.1, wX6 g (a 0 6) (a 6) c.2.2.2.2.2.1, wX4 g (a 0 7) (a 9) c.2.2.2.2.2.2.1, wTs g a c.2.2.2.2.2.2.2.1, wSs g a c.2.2.2.2.2.2.2.2.1, wX1 g (a 0 11) (a 5) c.2.2.2.2.2.2.2.2.2.1, wF g (a 5 3) 6 c.2.2.2.2.2.2.2.2.2.2]) (As := [.int a1]) (rest := []) X hG hl.1 (c_X7_isSheet g l n a1 q1 hq1) (List.Perm.refl _) (List.Perm.refl _) lk_X7_isSheet ls_X7_isSheet ml_7_222 rfl rfl ⟨Nat.le_of_ble_eq_true rfl, Nat.le_of_ble_eq_true rfl⟩ rfl rfl (Nat.le_of_ble_eq_true rfl) ⟨Nat.zero_le _, Nat.zero_le _⟩ dX7_judge_1 (fun H locs hG => ?_)
  refine lv_if_ne (tgt := 10) hx hb dX7_judge_4 (by decide) (fun hc2 => ?_) (fun hc2 => ?_)
  · replace hf := ite_f hf hc2
    refine lv_aload_n hx hb dX7_judge_10 rfl (lv_at hl 0 rfl) ?_
    refine G_7_65 X hG 0 rfl dX7_judge_11 ?_
    refine lv_iload_n hx hb dX7_judge_14 rfl (lv_at hl 1 rfl) ?_
    refine r_aaldq 4 X hG 0 3 rfl rfl rfl hf dX7_judge_15 (fun hb3 hf => ?_)
    refine W.eq (g2 := F0 m 16 ls [.ref (a 8 (Int32.toNatClampNeg a1))]) rfl ?_
    refine lv_astore_n (lv' := [(2, .ref (a 8 (Int32.toNatClampNeg a1))), (0, .ref o), (1, .int a1)]) hx hb dX7_judge_16 rfl hl (by decide) rfl (fun ls hl => ?_)
    refine lv_aload_n hx hb dX7_judge_17 rfl (lv_at hl 0 rfl) ?_
    refine r_get X hG 8 (2 * (Int32.toNatClampNeg a1)) rfl (S_get (ib_lt hb3)) rfl 0 (by decide) inX3 (TW_at 436 (by decide +kernel) (by decide +kernel)) rfl dX7_judge_18 ?_
    refine lv_iconst (v := (-1)) hx hb dX7_judge_21 (by decide) ?_
    refine lv_icmp_ne (tgt := 28) hx hb dX7_judge_22 (by decide) (fun hc4 => ?_) (fun hc4 => ?_)
    · replace hf := ite_f hf hc4
      refine lv_aload_n hx hb dX7_judge_28 rfl (lv_at hl 0 rfl) ?_
      refine lv_iconst (v := 0) hx hb dX7_judge_29 (by decide) ?_
      refine lv_bipush (v := 99) hx hb dX7_judge_30 (by decide) ?_
      obtain ⟨q5, hq5, hf⟩ := cl_inv hf
      refine r_callVi (bc := [wX3 g (a 8 (Int32.toNatClampNeg a1)) (a (30 + (Int32.toNatClampNeg a1))) (c.2.2.2.2.2.2.2.2.1 (Int32.toNatClampNeg a1))]) (br := [wX7 g o a nw c.1, wX2 g (a 0 0) (a 1) c.2.1, wX2 g (a 0 1) (a 2) c.2.2.1, wX0 g (a 0 3) (a 3) c.2.2.2.1, wYs g a nw c.2.2.2.2.1, wX6 g (a 0 6) (a 6) c.2.2.2.2.2.1, wX4 g (a 0 7) (a 9) c.2.2.2.2.2.2.1, wTs g a c.2.2.2.2.2.2.2.1, wSsR g a c.2.2.2.2.2.2.2.2.1 (Int32.toNatClampNeg a1), wX1 g (a 0 11) (a 5) c.2.2.2.2.2.2.2.2.2.1, wF g (a 5 3) 6 c.2.2.2.2.2.2.2.2.2.2]) (bs' := [wX7 g o a nw c.1, wX2 g (a 0 0) (a 1) c.2.1, wX2 g (a 0 1) (a 2) c.2.2.1, wX0 g (a 0 3) (a 3) c.2.2.2.1, wYs g a nw c.2.2.2.2.1, wX6 g (a 0 6) (a 6) c.2.2.2.2.2.1, wX4 g (a 0 7) (a 9) c.2.2.2.2.2.2.1, wTs g a c.2.2.2.2.2.2.2.1, wSs g a c.2.2.2.2.2.2.2.2.1, wX1 g (a 0 11) (a 5) c.2.2.2.2.2.2.2.2.2.1, wF g (a 5 3) 6 c.2.2.2.2.2.2.2.2.2.2]) (As := [.int 0, .int 99]) (rest := []) X hG hl.1 (c_X3_allBetween g l (a 8 (Int32.toNatClampNeg a1)) (a (30 + (Int32.toNatClampNeg a1))) n 0 99 (c.2.2.2.2.2.2.2.2.1 (Int32.toNatClampNeg a1)) q5 hq5) ((focus_perm 8 rfl (S_focus (ib_lt hb3))).trans (blk_perm2 [8, 0, 1, 2, 3, 4, 5, 6, 7, 9, 10, 11] 12 rfl rfl (by decide)).flatten) ((blk_perm2 [1, 2, 3, 4, 5, 6, 7, 8, 0, 9, 10, 11] 12 rfl rfl (by decide)).flatten.trans (focus_perm 8 rfl (S_focus (ib_lt hb3))).symm) lk_X3_allBetween lv_X3_allBetween ml_7_228 (j := 8) (k := (2 * (Int32.toNatClampNeg a1))) rfl (S_get (ib_lt hb3)) rfl rfl rfl ⟨Nat.le_of_ble_eq_true rfl, Nat.le_of_ble_eq_true rfl⟩ rfl rfl (Nat.le_of_ble_eq_true rfl) ⟨Nat.zero_le _, Nat.zero_le _⟩ dX7_judge_32 (fun H locs hG => ?_)
      refine lv_if_ne (tgt := 41) hx hb dX7_judge_35 (by decide) (fun hc6 => ?_) (fun hc6 => ?_)
      · replace hf := ite_f hf hc6
        refine lv_aload_n hx hb dX7_judge_41 rfl (lv_at hl 1 rfl) ?_
        refine G_7_72 X hG 0 rfl dX7_judge_42 ?_
        refine lv_aload_n hx hb dX7_judge_45 rfl (lv_at hl 1 rfl) ?_
        refine G_7_43 X hG 0 rfl dX7_judge_46 ?_
        refine lv_aload_n hx hb dX7_judge_49 rfl (lv_at hl 1 rfl) ?_
        refine G_7_43 X hG 0 rfl dX7_judge_50 ?_
        refine G_7_146 X hG 5 rfl dX7_judge_53 ?_
        refine lv_aload_n hx hb dX7_judge_56 rfl (lv_at hl 1 rfl) ?_
        refine G_7_10 X hG 0 rfl dX7_judge_57 ?_
        obtain ⟨q7, hq7, hf⟩ := cl_inv hf
        refine r_callVv (bc := [wX1 g (a 0 11) (a 5) c.2.2.2.2.2.2.2.2.2.1, wX6 g (a 0 6) (a 6) c.2.2.2.2.2.1, wX2 g (a 0 0) (a 1) c.2.1]) (br := [wX7 g o a nw c.1, wX2 g (a 0 1) (a 2) c.2.2.1, wX0 g (a 0 3) (a 3) c.2.2.2.1, wYs g a nw c.2.2.2.2.1, wX4 g (a 0 7) (a 9) c.2.2.2.2.2.2.1, wTs g a c.2.2.2.2.2.2.2.1, wSs g a c.2.2.2.2.2.2.2.2.1, wF g (a 5 3) 6 c.2.2.2.2.2.2.2.2.2.2]) (bs' := [wX7 g o a nw c.1, wX2 g (a 0 0) (a 1) c.2.1, wX2 g (a 0 1) (a 2) c.2.2.1, wX0 g (a 0 3) (a 3) c.2.2.2.1, wYs g a nw c.2.2.2.2.1, wX6 g (a 0 6) (a 6) c.2.2.2.2.2.1, wX4 g (a 0 7) (a 9) c.2.2.2.2.2.2.1, wTs g a c.2.2.2.2.2.2.2.1, wSs g a c.2.2.2.2.2.2.2.2.1, wX1 g (a 0 11) (a 5) q7, wF g (a 5 3) 6 c.2.2.2.2.2.2.2.2.2.2]) (As := [.ref (a 0 6), .int (c.2.2.2.2.2.1.1 1), .ref (a 0 0)]) (rest := []) X hG hl.1 (c_X1_hearWay g l (a 0 11) (a 5) (a 0 6) (a 6) (a 0 0) (a 1) n (c.2.2.2.2.2.1.1 1) c.2.2.2.2.2.2.2.2.2.1 c.2.2.2.2.2.1 c.2.1 q7 hq7) ((blk_perm2 [9, 5, 1, 0, 2, 3, 4, 6, 7, 8, 10] 11 rfl rfl (by decide)).flatten) ((blk_perm2 [3, 2, 4, 5, 6, 1, 7, 8, 9, 0, 10] 11 rfl rfl (by decide)).flatten) lk_X1_hearWay lv_X1_hearWay ml_7_231 (j := 9) (k := 0) rfl rfl rfl rfl rfl ⟨Nat.le_of_ble_eq_true rfl, Nat.le_of_ble_eq_true rfl⟩ rfl rfl (Nat.le_of_ble_eq_true rfl) ⟨Nat.zero_le _, Nat.zero_le _⟩ dX7_judge_60 (fun H locs hG => ?_)
        refine lv_aload_n hx hb dX7_judge_63 rfl (lv_at hl 1 rfl) ?_
        refine G_7_72 X hG 0 rfl dX7_judge_64 ?_
        refine lv_aload_n hx hb dX7_judge_67 rfl (lv_at hl 0 rfl) ?_
        obtain ⟨q8, hq8, hf⟩ := cl_inv hf
        refine r_callVv (bc := [wX1 g (a 0 11) (a 5) q7, wX3 g (a 8 (Int32.toNatClampNeg a1)) (a (30 + (Int32.toNatClampNeg a1))) (c.2.2.2.2.2.2.2.2.1 (Int32.toNatClampNeg a1))]) (br := [wX7 g o a nw c.1, wX2 g (a 0 0) (a 1) c.2.1, wX2 g (a 0 1) (a 2) c.2.2.1, wX0 g (a 0 3) (a 3) c.2.2.2.1, wYs g a nw c.2.2.2.2.1, wX6 g (a 0 6) (a 6) c.2.2.2.2.2.1, wX4 g (a 0 7) (a 9) c.2.2.2.2.2.2.1, wTs g a c.2.2.2.2.2.2.2.1, wSsR g a c.2.2.2.2.2.2.2.2.1 (Int32.toNatClampNeg a1), wF g (a 5 3) 6 c.2.2.2.2.2.2.2.2.2.2]) (bs' := [wX7 g o a nw c.1, wX2 g (a 0 0) (a 1) c.2.1, wX2 g (a 0 1) (a 2) c.2.2.1, wX0 g (a 0 3) (a 3) c.2.2.2.1, wYs g a nw c.2.2.2.2.1, wX6 g (a 0 6) (a 6) c.2.2.2.2.2.1, wX4 g (a 0 7) (a 9) c.2.2.2.2.2.2.1, wTs g a c.2.2.2.2.2.2.2.1, wSs g a c.2.2.2.2.2.2.2.2.1, wX1 g (a 0 11) (a 5) q8, wF g (a 5 3) 6 c.2.2.2.2.2.2.2.2.2.2]) (As := [.ref (a 8 (Int32.toNatClampNeg a1))]) (rest := []) X hG hl.1 (c_X1_hearSheet g l (a 0 11) (a 5) (a 8 (Int32.toNatClampNeg a1)) (a (30 + (Int32.toNatClampNeg a1))) n q7 (c.2.2.2.2.2.2.2.2.1 (Int32.toNatClampNeg a1)) q8 hq8) ((focus_perm 8 rfl (S_focus (ib_lt hb3))).trans (blk_perm2 [10, 8, 0, 1, 2, 3, 4, 5, 6, 7, 9, 11] 12 rfl rfl (by decide)).flatten) ((blk_perm2 [2, 3, 4, 5, 6, 7, 8, 9, 1, 10, 0, 11] 12 rfl rfl (by decide)).flatten.trans (focus_perm 8 rfl (S_focus (ib_lt hb3))).symm) lk_X1_hearSheet lv_X1_hearSheet ml_7_235 (j := 9) (k := 0) rfl rfl rfl rfl rfl ⟨Nat.le_of_ble_eq_true rfl, Nat.le_of_ble_eq_true rfl⟩ rfl rfl (Nat.le_of_ble_eq_true rfl) ⟨Nat.zero_le _, Nat.zero_le _⟩ dX7_judge_68 (fun H locs hG => ?_)
        refine lv_aload_n hx hb dX7_judge_71 rfl (lv_at hl 1 rfl) ?_
        refine G_7_72 X hG 0 rfl dX7_judge_72 ?_
        refine lv_aload_n hx hb dX7_judge_75 rfl (lv_at hl 1 rfl) ?_
        refine G_7_10 X hG 0 rfl dX7_judge_76 ?_
        refine lv_aload_n hx hb dX7_judge_79 rfl (lv_at hl 1 rfl) ?_
        refine G_7_26 X hG 0 rfl dX7_judge_80 ?_
        refine lv_aload_n hx hb dX7_judge_83 rfl (lv_at hl 1 rfl) ?_
        refine G_7_26 X hG 0 rfl dX7_judge_84 ?_
        refine G_7_184 X hG 3 rfl dX7_judge_87 ?_
        refine lv_aload_n hx hb dX7_judge_90 rfl (lv_at hl 1 rfl) ?_
        refine G_7_56 X hG 0 rfl dX7_judge_91 ?_
        refine lv_aload_n hx hb dX7_judge_94 rfl (lv_at hl 1 rfl) ?_
        refine G_7_10 X hG 0 rfl dX7_judge_95 ?_
        refine G_7_164 X hG 1 rfl dX7_judge_98 ?_
        refine r_aaldq 3 X hG 0 2 rfl rfl rfl hf dX7_judge_101 (fun hb9 hf => ?_)
        refine W.eq (g2 := F0 m 102 ls [.ref (a 7 (Int32.toNatClampNeg (c.2.1.1 9))), .int (c.2.2.2.1.1 0), .ref (a 0 3), .ref (a 0 0), .ref (a 0 11)]) rfl ?_
        obtain ⟨q10, hq10, hf⟩ := cl_inv hf
        refine r_callVv (bc := [wX1 g (a 0 11) (a 5) q8, wF g (a 5 3) 6 c.2.2.2.2.2.2.2.2.2.2, wX2 g (a 0 0) (a 1) c.2.1, wX0 g (a 0 3) (a 3) c.2.2.2.1, wX5 g (a 7 (Int32.toNatClampNeg (c.2.1.1 9))) (a (20 + (Int32.toNatClampNeg (c.2.1.1 9)))) (c.2.2.2.2.2.2.2.1 (Int32.toNatClampNeg (c.2.1.1 9)))]) (br := [wX7 g o a nw c.1, wX2 g (a 0 1) (a 2) c.2.2.1, wYs g a nw c.2.2.2.2.1, wX6 g (a 0 6) (a 6) c.2.2.2.2.2.1, wX4 g (a 0 7) (a 9) c.2.2.2.2.2.2.1, wTsR g a c.2.2.2.2.2.2.2.1 (Int32.toNatClampNeg (c.2.1.1 9)), wSs g a c.2.2.2.2.2.2.2.2.1]) (bs' := [wX7 g o a nw c.1, wX2 g (a 0 0) (a 1) c.2.1, wX2 g (a 0 1) (a 2) c.2.2.1, wX0 g (a 0 3) (a 3) c.2.2.2.1, wYs g a nw c.2.2.2.2.1, wX6 g (a 0 6) (a 6) c.2.2.2.2.2.1, wX4 g (a 0 7) (a 9) c.2.2.2.2.2.2.1, wTs g a (va_up c.2.2.2.2.2.2.2.1 (Int32.toNatClampNeg (c.2.1.1 9)) q10.2.2), wSs g a c.2.2.2.2.2.2.2.2.1, wX1 g (a 0 11) (a 5) q10.1, wF g (a 5 3) 6 q10.2.1]) (As := [.ref (a 0 0), .ref (a 0 3), .int (c.2.2.2.1.1 0), .ref (a 7 (Int32.toNatClampNeg (c.2.1.1 9)))]) (rest := []) X hG hl.1 (c_X1_run g l (a 0 11) (a 5) (a 0 0) (a 1) (a 0 3) (a 3) (a 7 (Int32.toNatClampNeg (c.2.1.1 9))) (a (20 + (Int32.toNatClampNeg (c.2.1.1 9)))) n (c.2.2.2.1.1 0) q8 c.2.2.2.2.2.2.2.2.2.2 c.2.1 c.2.2.2.1 (c.2.2.2.2.2.2.2.1 (Int32.toNatClampNeg (c.2.1.1 9))) q10 hq10) ((focus_perm 7 rfl (T_focus (ib_lt hb9))).trans (blk_perm2 [10, 11, 1, 3, 7, 0, 2, 4, 5, 6, 8, 9] 12 rfl rfl (by decide)).flatten) ((blk_perm2 [5, 2, 6, 3, 7, 8, 9, 4, 10, 11, 0, 1] 12 rfl rfl (by decide)).flatten.trans (focus_perm 7 rfl (T_focus2 (ib_lt hb9) _ _)).symm) lk_X1_run lv_X1_run ml_7_239 (j := 9) (k := 0) rfl rfl rfl rfl rfl ⟨Nat.le_of_ble_eq_true rfl, Nat.le_of_ble_eq_true rfl⟩ rfl rfl (Nat.le_of_ble_eq_true rfl) ⟨Nat.zero_le _, Nat.zero_le _⟩ dX7_judge_102 (fun H locs hG => ?_)
        refine lv_aload_n hx hb dX7_judge_105 rfl (lv_at hl 1 rfl) ?_
        refine G_7_72 X hG 0 rfl dX7_judge_106 ?_
        refine lv_aload_n hx hb dX7_judge_109 rfl (lv_at hl 1 rfl) ?_
        refine G_7_10 X hG 0 rfl dX7_judge_110 ?_
        refine lv_iconst (v := (-1)) hx hb dX7_judge_113 (by decide) ?_
        obtain ⟨q11, hq11, hf⟩ := cl_inv hf
        refine r_callVi (bc := [wX1 g (a 0 11) (a 5) q10.1, wX2 g (a 0 0) (a 1) c.2.1]) (br := [wX7 g o a nw c.1, wX2 g (a 0 1) (a 2) c.2.2.1, wX0 g (a 0 3) (a 3) c.2.2.2.1, wYs g a nw c.2.2.2.2.1, wX6 g (a 0 6) (a 6) c.2.2.2.2.2.1, wX4 g (a 0 7) (a 9) c.2.2.2.2.2.2.1, wTs g a (va_up c.2.2.2.2.2.2.2.1 (Int32.toNatClampNeg (c.2.1.1 9)) q10.2.2), wSs g a c.2.2.2.2.2.2.2.2.1, wF g (a 5 3) 6 q10.2.1]) (bs' := [wX7 g o a nw c.1, wX2 g (a 0 0) (a 1) c.2.1, wX2 g (a 0 1) (a 2) c.2.2.1, wX0 g (a 0 3) (a 3) c.2.2.2.1, wYs g a nw c.2.2.2.2.1, wX6 g (a 0 6) (a 6) c.2.2.2.2.2.1, wX4 g (a 0 7) (a 9) c.2.2.2.2.2.2.1, wTs g a (va_up c.2.2.2.2.2.2.2.1 (Int32.toNatClampNeg (c.2.1.1 9)) q10.2.2), wSs g a c.2.2.2.2.2.2.2.2.1, wX1 g (a 0 11) (a 5) q10.1, wF g (a 5 3) 6 q10.2.1]) (As := [.ref (a 0 0), .int (-1)]) (rest := []) X hG hl.1 (c_X1_leftOf g l (a 0 11) (a 5) (a 0 0) (a 1) n (-1) q10.1 c.2.1 q11 hq11) ((blk_perm2 [9, 1, 0, 2, 3, 4, 5, 6, 7, 8, 10] 11 rfl rfl (by decide)).flatten) ((blk_perm2 [2, 1, 3, 4, 5, 6, 7, 8, 9, 0, 10] 11 rfl rfl (by decide)).flatten) lk_X1_leftOf lv_X1_leftOf ml_7_174 (j := 9) (k := 0) rfl rfl rfl rfl rfl ⟨Nat.le_of_ble_eq_true rfl, Nat.le_of_ble_eq_true rfl⟩ rfl rfl (Nat.le_of_ble_eq_true rfl) ⟨Nat.zero_le _, Nat.zero_le _⟩ dX7_judge_114 (fun H locs hG => ?_)
        have hq9 := Option.some.inj hf
        subst hq9
        subst hQ
        exact r_iret X hG dX7_judge_117
      · replace hf := ite_t hf hc6
        refine lv_bipush (v := (-2)) hx hb dX7_judge_38 (by decide) ?_
        have hq9 := Option.some.inj hf
        subst hq9
        subst hQ
        exact r_iret X hG dX7_judge_40
    · replace hf := ite_t hf hc4
      refine lv_bipush (v := (-11)) hx hb dX7_judge_25 (by decide) ?_
      have hq9 := Option.some.inj hf
      subst hq9
      subst hQ
      exact r_iret X hG dX7_judge_27
  · replace hf := ite_t hf hc2
    refine lv_bipush (v := (-2)) hx hb dX7_judge_7 (by decide) ?_
    have hq9 := Option.some.inj hf
    subst hq9
    subst hQ
    exact r_iret X hG dX7_judge_9
def rmX7_image : Room := { frames := 2, cells := 0, slots := 0, locals := 61 }
set_option maxHeartbeats 4000000 in
set_option maxRecDepth 100000 in
theorem c_X7_image (g : GT) (l : Launch) (o : Nat) (a : Nat → Nat → Nat) (nw : Nat) (n : Nat) (c : CS) (q : Int32 × CS) (hf : f_X7_image n nw c = some q) : CI g l yX7_image cX7_image 1 (some .int) rmX7_image [.ref o] (wC g o a nw c) q.1 (wC g o a nw q.2) := by
  refine CI_intro RX7 rfl (by decide +kernel) (Nat.le_of_ble_eq_true rfl) ?_
  intro p e s m args below meth c9 A ls Q hQ X hl hG
  have hl : lv_has ls 1 [(0, .ref o)] := hl
  have hG : GM g A s.heap s.heap [] [wX7 g o a nw c.1, wX2 g (a 0 0) (a 1) c.2.1, wX2 g (a 0 1) (a 2) c.2.2.1, wX0 g (a 0 3) (a 3) c.2.2.2.1, wYs g a nw c.2.2.2.2.1, wX6 g (a 0 6) (a 6) c.2.2.2.2.2.1, wX4 g (a 0 7) (a 9) c.2.2.2.2.2.2.1, wTs g a c.2.2.2.2.2.2.2.1, wSs g a c.2.2.2.2.2.2.2.2.1, wX1 g (a 0 11) (a 5) c.2.2.2.2.2.2.2.2.2.1, wF g (a 5 3) 6 c.2.2.2.2.2.2.2.2.2.2] := hG
  have hx := X.1
  have hb := X.2.1
  have hown := X.2.2.2.1
  unfold f_X7_image at hf
  refine lv_aload_n hx hb dX7_image_0 rfl (lv_at hl 0 rfl) ?_
  refine G_7_16 X hG 0 rfl dX7_image_1 ?_
  refine lv_aload_n hx hb dX7_image_4 rfl (lv_at hl 0 rfl) ?_
  refine G_7_10 X hG 0 rfl dX7_image_5 ?_
  obtain ⟨q1, hq1, hf⟩ := cl_inv hf
  refine r_callVv (bc := [wX2 g (a 0 1) (a 2) c.2.2.1, wX2 g (a 0 0) (a 1) c.2.1]) (br := [wX7 g o a nw c.1, wX0 g (a 0 3) (a 3) c.2.2.2.1, wYs g a nw c.2.2.2.2.1, wX6 g (a 0 6) (a 6) c.2.2.2.2.2.1, wX4 g (a 0 7) (a 9) c.2.2.2.2.2.2.1, wTs g a c.2.2.2.2.2.2.2.1, wSs g a c.2.2.2.2.2.2.2.2.1, wX1 g (a 0 11) (a 5) c.2.2.2.2.2.2.2.2.2.1, wF g (a 5 3) 6 c.2.2.2.2.2.2.2.2.2.2]) (bs' := [wX7 g o a nw c.1, wX2 g (a 0 0) (a 1) c.2.1, wX2 g (a 0 1) (a 2) q1, wX0 g (a 0 3) (a 3) c.2.2.2.1, wYs g a nw c.2.2.2.2.1, wX6 g (a 0 6) (a 6) c.2.2.2.2.2.1, wX4 g (a 0 7) (a 9) c.2.2.2.2.2.2.1, wTs g a c.2.2.2.2.2.2.2.1, wSs g a c.2.2.2.2.2.2.2.2.1, wX1 g (a 0 11) (a 5) c.2.2.2.2.2.2.2.2.2.1, wF g (a 5 3) 6 c.2.2.2.2.2.2.2.2.2.2]) (As := [.ref (a 0 0)]) (rest := []) X hG hl.1 (c_X2_takeOver g l (a 0 1) (a 2) (a 0 0) (a 1) n c.2.2.1 c.2.1 q1 hq1) ((blk_perm2 [2, 1, 0, 3, 4, 5, 6, 7, 8, 9, 10] 11 rfl rfl (by decide)).flatten) ((blk_perm2 [2, 1, 0, 3, 4, 5, 6, 7, 8, 9, 10] 11 rfl rfl (by decide)).flatten) lk_X2_takeOver lv_X2_takeOver ml_7_243 (j := 2) (k := 0) rfl rfl rfl rfl rfl ⟨Nat.le_of_ble_eq_true rfl, Nat.le_of_ble_eq_true rfl⟩ rfl rfl (Nat.le_of_ble_eq_true rfl) ⟨Nat.zero_le _, Nat.zero_le _⟩ dX7_image_8 (fun H locs hG => ?_)
  refine lv_aload_n hx hb dX7_image_11 rfl (lv_at hl 0 rfl) ?_
  refine lv_iconst (v := 1) hx hb dX7_image_12 (by decide) ?_
  refine P_7_19 X hG 0 rfl hf (fun t => [wX7 g o a nw t, wX2 g (a 0 0) (a 1) c.2.1, wX2 g (a 0 1) (a 2) q1, wX0 g (a 0 3) (a 3) c.2.2.2.1, wYs g a nw c.2.2.2.2.1, wX6 g (a 0 6) (a 6) c.2.2.2.2.2.1, wX4 g (a 0 7) (a 9) c.2.2.2.2.2.2.1, wTs g a c.2.2.2.2.2.2.2.1, wSs g a c.2.2.2.2.2.2.2.2.1, wX1 g (a 0 11) (a 5) c.2.2.2.2.2.2.2.2.2.1, wF g (a 5 3) 6 c.2.2.2.2.2.2.2.2.2.2]) (fun _ => rfl) (by decide) dX7_image_13 (fun z2 H locs hf hG => ?_)
  refine lv_aload_n hx hb dX7_image_16 rfl (lv_at hl 0 rfl) ?_
  refine G_7_10 X hG 0 rfl dX7_image_17 ?_
  refine G_7_216 X hG 1 rfl dX7_image_20 ?_
  have hq9 := Option.some.inj hf
  subst hq9
  subst hQ
  exact r_iret X hG dX7_image_23
def rmX7_back : Room := { frames := 2, cells := 0, slots := 0, locals := 61 }
set_option maxHeartbeats 4000000 in
set_option maxRecDepth 100000 in
theorem c_X7_back (g : GT) (l : Launch) (o : Nat) (a : Nat → Nat → Nat) (nw : Nat) (n : Nat) (c : CS) (q : Int32 × CS) (hf : f_X7_back n nw c = some q) : CI g l yX7_back cX7_back 1 (some .int) rmX7_back [.ref o] (wC g o a nw c) q.1 (wC g o a nw q.2) := by
  refine CI_intro RX7 rfl (by decide +kernel) (Nat.le_of_ble_eq_true rfl) ?_
  intro p e s m args below meth c9 A ls Q hQ X hl hG
  have hl : lv_has ls 1 [(0, .ref o)] := hl
  have hG : GM g A s.heap s.heap [] [wX7 g o a nw c.1, wX2 g (a 0 0) (a 1) c.2.1, wX2 g (a 0 1) (a 2) c.2.2.1, wX0 g (a 0 3) (a 3) c.2.2.2.1, wYs g a nw c.2.2.2.2.1, wX6 g (a 0 6) (a 6) c.2.2.2.2.2.1, wX4 g (a 0 7) (a 9) c.2.2.2.2.2.2.1, wTs g a c.2.2.2.2.2.2.2.1, wSs g a c.2.2.2.2.2.2.2.2.1, wX1 g (a 0 11) (a 5) c.2.2.2.2.2.2.2.2.2.1, wF g (a 5 3) 6 c.2.2.2.2.2.2.2.2.2.2] := hG
  have hx := X.1
  have hb := X.2.1
  have hown := X.2.2.2.1
  unfold f_X7_back at hf
  refine lv_aload_n hx hb dX7_back_0 rfl (lv_at hl 0 rfl) ?_
  refine G_7_19 X hG 0 rfl dX7_back_1 ?_
  refine lv_if_ne (tgt := 10) hx hb dX7_back_4 (by decide) (fun hc1 => ?_) (fun hc1 => ?_)
  · replace hf := ite_f hf hc1
    refine lv_aload_n hx hb dX7_back_10 rfl (lv_at hl 0 rfl) ?_
    refine G_7_10 X hG 0 rfl dX7_back_11 ?_
    refine lv_aload_n hx hb dX7_back_14 rfl (lv_at hl 0 rfl) ?_
    refine G_7_16 X hG 0 rfl dX7_back_15 ?_
    obtain ⟨q2, hq2, hf⟩ := cl_inv hf
    refine r_callVv (bc := [wX2 g (a 0 0) (a 1) c.2.1, wX2 g (a 0 1) (a 2) c.2.2.1]) (br := [wX7 g o a nw c.1, wX0 g (a 0 3) (a 3) c.2.2.2.1, wYs g a nw c.2.2.2.2.1, wX6 g (a 0 6) (a 6) c.2.2.2.2.2.1, wX4 g (a 0 7) (a 9) c.2.2.2.2.2.2.1, wTs g a c.2.2.2.2.2.2.2.1, wSs g a c.2.2.2.2.2.2.2.2.1, wX1 g (a 0 11) (a 5) c.2.2.2.2.2.2.2.2.2.1, wF g (a 5 3) 6 c.2.2.2.2.2.2.2.2.2.2]) (bs' := [wX7 g o a nw c.1, wX2 g (a 0 0) (a 1) q2, wX2 g (a 0 1) (a 2) c.2.2.1, wX0 g (a 0 3) (a 3) c.2.2.2.1, wYs g a nw c.2.2.2.2.1, wX6 g (a 0 6) (a 6) c.2.2.2.2.2.1, wX4 g (a 0 7) (a 9) c.2.2.2.2.2.2.1, wTs g a c.2.2.2.2.2.2.2.1, wSs g a c.2.2.2.2.2.2.2.2.1, wX1 g (a 0 11) (a 5) c.2.2.2.2.2.2.2.2.2.1, wF g (a 5 3) 6 c.2.2.2.2.2.2.2.2.2.2]) (As := [.ref (a 0 1)]) (rest := []) X hG hl.1 (c_X2_takeOver g l (a 0 0) (a 1) (a 0 1) (a 2) n c.2.1 c.2.2.1 q2 hq2) ((blk_perm2 [1, 2, 0, 3, 4, 5, 6, 7, 8, 9, 10] 11 rfl rfl (by decide)).flatten) ((blk_perm2 [2, 0, 1, 3, 4, 5, 6, 7, 8, 9, 10] 11 rfl rfl (by decide)).flatten) lk_X2_takeOver lv_X2_takeOver ml_7_243 (j := 1) (k := 0) rfl rfl rfl rfl rfl ⟨Nat.le_of_ble_eq_true rfl, Nat.le_of_ble_eq_true rfl⟩ rfl rfl (Nat.le_of_ble_eq_true rfl) ⟨Nat.zero_le _, Nat.zero_le _⟩ dX7_back_18 (fun H locs hG => ?_)
    refine lv_aload_n hx hb dX7_back_21 rfl (lv_at hl 0 rfl) ?_
    refine G_7_10 X hG 0 rfl dX7_back_22 ?_
    refine G_7_216 X hG 1 rfl dX7_back_25 ?_
    have hq9 := Option.some.inj hf
    subst hq9
    subst hQ
    exact r_iret X hG dX7_back_28
  · replace hf := ite_t hf hc1
    refine lv_bipush (v := (-3)) hx hb dX7_back_7 (by decide) ?_
    have hq9 := Option.some.inj hf
    subst hq9
    subst hQ
    exact r_iret X hG dX7_back_9
def rmX7_sheet : Room := { frames := 2, cells := 0, slots := 0, locals := 52 }
set_option maxHeartbeats 4000000 in
set_option maxRecDepth 100000 in
theorem c_X7_sheet (g : GT) (l : Launch) (o : Nat) (a : Nat → Nat → Nat) (nw : Nat) (n : Nat) (a1 : Int32) (a2 : Int32) (a3 : Int32) (c : CS) (q : Int32 × CS) (hf : f_X7_sheet n nw a1 a2 a3 c = some q) : CI g l yX7_sheet cX7_sheet 4 (some .int) rmX7_sheet [.ref o, .int a1, .int a2, .int a3] (wC g o a nw c) q.1 (wC g o a nw q.2) := by
  refine CI_intro RX7 rfl (by decide +kernel) (Nat.le_of_ble_eq_true rfl) ?_
  intro p e s m args below meth c9 A ls Q hQ X hl hG
  have hl : lv_has ls 4 [(0, .ref o), (1, .int a1), (2, .int a2), (3, .int a3)] := hl
  have hG : GM g A s.heap s.heap [] [wX7 g o a nw c.1, wX2 g (a 0 0) (a 1) c.2.1, wX2 g (a 0 1) (a 2) c.2.2.1, wX0 g (a 0 3) (a 3) c.2.2.2.1, wYs g a nw c.2.2.2.2.1, wX6 g (a 0 6) (a 6) c.2.2.2.2.2.1, wX4 g (a 0 7) (a 9) c.2.2.2.2.2.2.1, wTs g a c.2.2.2.2.2.2.2.1, wSs g a c.2.2.2.2.2.2.2.2.1, wX1 g (a 0 11) (a 5) c.2.2.2.2.2.2.2.2.2.1, wF g (a 5 3) 6 c.2.2.2.2.2.2.2.2.2.2] := hG
  have hx := X.1
  have hb := X.2.1
  have hown := X.2.2.2.1
  unfold f_X7_sheet at hf
  refine lv_iload_n hx hb dX7_sheet_0 rfl (lv_at hl 1 rfl) ?_
  obtain ⟨q1, hq1, hf⟩ := cl_inv hf
  refine r_callSi (bc := []) (br := [wX7 g o a nw c.1, wX2 g (a 0 0) (a 1) c.2.1, wX2 g (a 0 1) (a 2) c.2.2.1, wX0 g (a 0 3) (a 3) c.2.2.2.1, wYs g a nw c.2.2.2.2.1, wX6 g (a 0 6) (a 6) c.2.2.2.2.2.1, wX4 g (a 0 7) (a 9) c.2.2.2.2.2.2.1, wTs g a c.2.2.2.2.2.2.2.1, wSs g a c.2.2.2.2.2.2.2.2.1, wX1 g (a 0 11) (a 5) c.2.2.2.2.2.2.2.2.2.1, wF g (a 5 3) 6 c.2.2.2.2.2.2.2.2.2.2]) (bs' := [wX7 g o a nw c.1, wX2 g (a 0 0) (a 1) c.2.1, wX2 g (a 0 1) (a 2) c.2.2.1, wX0 g (a 0 3) (a 3) c.2.2.2.1, wYs g a nw c.2.2.2.2.1, wX6 g (a 0 6) (a 6) c.2.2.2.2.2.1, wX4 g (a 0 7) (a 9) c.2.2.2.2.2.2.1, wTs g a c.2.2.2.2.2.2.2.1, wSs g a c.2.2.2.2.2.2.2.2.1, wX1 g (a 0 11) (a 5) c.2.2.2.2.2.2.2.2.2.1, wF g (a 5 3) 6 c.2.2.2.2.2.2.2.2.2.2]) (As := [.int a1]) (rest := []) X hG hl.1 (c_X7_isSheet g l n a1 q1 hq1) (List.Perm.refl _) (List.Perm.refl _) lk_X7_isSheet ls_X7_isSheet ml_7_222 rfl rfl ⟨Nat.le_of_ble_eq_true rfl, Nat.le_of_ble_eq_true rfl⟩ rfl rfl (Nat.le_of_ble_eq_true rfl) ⟨Nat.zero_le _, Nat.zero_le _⟩ dX7_sheet_1 (fun H locs hG => ?_)
  refine lv_if_eq (tgt := 16) hx hb dX7_sheet_4 (by decide) (fun hc2 => ?_) (fun hc2 => ?_)
  · replace hf := ite_t hf hc2
    refine lv_bipush (v := (-2)) hx hb dX7_sheet_16 (by decide) ?_
    have hq9 := Option.some.inj hf
    subst hq9
    subst hQ
    exact r_iret X hG dX7_sheet_18
  · replace hf := ite_f hf hc2
    refine lv_iload_n hx hb dX7_sheet_7 rfl (lv_at hl 2 rfl) ?_
    refine lv_iconst (v := (-1)) hx hb dX7_sheet_8 (by decide) ?_
    refine lv_iconst (v := 2) hx hb dX7_sheet_9 (by decide) ?_
    obtain ⟨q3, hq3, hf⟩ := cl_inv hf
    refine r_callSi (bc := []) (br := [wX7 g o a nw c.1, wX2 g (a 0 0) (a 1) c.2.1, wX2 g (a 0 1) (a 2) c.2.2.1, wX0 g (a 0 3) (a 3) c.2.2.2.1, wYs g a nw c.2.2.2.2.1, wX6 g (a 0 6) (a 6) c.2.2.2.2.2.1, wX4 g (a 0 7) (a 9) c.2.2.2.2.2.2.1, wTs g a c.2.2.2.2.2.2.2.1, wSs g a c.2.2.2.2.2.2.2.2.1, wX1 g (a 0 11) (a 5) c.2.2.2.2.2.2.2.2.2.1, wF g (a 5 3) 6 c.2.2.2.2.2.2.2.2.2.2]) (bs' := [wX7 g o a nw c.1, wX2 g (a 0 0) (a 1) c.2.1, wX2 g (a 0 1) (a 2) c.2.2.1, wX0 g (a 0 3) (a 3) c.2.2.2.1, wYs g a nw c.2.2.2.2.1, wX6 g (a 0 6) (a 6) c.2.2.2.2.2.1, wX4 g (a 0 7) (a 9) c.2.2.2.2.2.2.1, wTs g a c.2.2.2.2.2.2.2.1, wSs g a c.2.2.2.2.2.2.2.2.1, wX1 g (a 0 11) (a 5) c.2.2.2.2.2.2.2.2.2.1, wF g (a 5 3) 6 c.2.2.2.2.2.2.2.2.2.2]) (As := [.int a2, .int (-1), .int 2]) (rest := []) X hG hl.1 (c_X7_between g l n a2 (-1) 2 q3 hq3) (List.Perm.refl _) (List.Perm.refl _) lk_X7_between ls_X7_between ml_7_106 rfl rfl ⟨Nat.le_of_ble_eq_true rfl, Nat.le_of_ble_eq_true rfl⟩ rfl rfl (Nat.le_of_ble_eq_true rfl) ⟨Nat.zero_le _, Nat.zero_le _⟩ dX7_sheet_10 (fun H locs hG => ?_)
    refine lv_if_ne (tgt := 19) hx hb dX7_sheet_13 (by decide) (fun hc4 => ?_) (fun hc4 => ?_)
    · replace hf := ite_f hf hc4
      refine lv_iload_n hx hb dX7_sheet_19 rfl (lv_at hl 2 rfl) ?_
      refine lv_iconst (v := (-1)) hx hb dX7_sheet_20 (by decide) ?_
      refine jn_use (P := fun (t5 : Unit) => ∀ (H : Heap) (locs : List Loc) (ls : Array Slot), GM g A s.heap H locs [wX7 g o a nw c.1, wX2 g (a 0 0) (a 1) c.2.1, wX2 g (a 0 1) (a 2) c.2.2.1, wX0 g (a 0 3) (a 3) c.2.2.2.1, wYs g a nw c.2.2.2.2.1, wX6 g (a 0 6) (a 6) c.2.2.2.2.2.1, wX4 g (a 0 7) (a 9) c.2.2.2.2.2.2.1, wTs g a c.2.2.2.2.2.2.2.1, wSs g a c.2.2.2.2.2.2.2.2.1, wX1 g (a 0 11) (a 5) c.2.2.2.2.2.2.2.2.2.1, wF g (a 5 3) 6 c.2.2.2.2.2.2.2.2.2.2] → lv_has ls 4 [(0, .ref o), (1, .int a1), (2, .int a2), (3, .int a3)] → W p l e rmX7_sheet s m args below meth c9 H locs 0 0 Q (F0 m 33 ls [])) hf (fun t5 hf H locs ls hG hl => ?_) (fun K6 hK6 hf => ?_)
      · refine lv_iload_n hx hb dX7_sheet_33 rfl (lv_at hl 2 rfl) ?_
        refine lv_iconst (v := (-1)) hx hb dX7_sheet_34 (by decide) ?_
        refine jn_use (P := fun (t7 : Unit) => ∀ (H : Heap) (locs : List Loc) (ls : Array Slot), GM g A s.heap H locs [wX7 g o a nw c.1, wX2 g (a 0 0) (a 1) c.2.1, wX2 g (a 0 1) (a 2) c.2.2.1, wX0 g (a 0 3) (a 3) c.2.2.2.1, wYs g a nw c.2.2.2.2.1, wX6 g (a 0 6) (a 6) c.2.2.2.2.2.1, wX4 g (a 0 7) (a 9) c.2.2.2.2.2.2.1, wTs g a c.2.2.2.2.2.2.2.1, wSs g a c.2.2.2.2.2.2.2.2.1, wX1 g (a 0 11) (a 5) c.2.2.2.2.2.2.2.2.2.1, wF g (a 5 3) 6 c.2.2.2.2.2.2.2.2.2.2] → lv_has ls 4 [(0, .ref o), (1, .int a1), (2, .int a2), (3, .int a3)] → W p l e rmX7_sheet s m args below meth c9 H locs 0 0 Q (F0 m 45 ls [])) hf (fun t7 hf H locs ls hG hl => ?_) (fun K8 hK8 hf => ?_)
        · refine lv_aload_n hx hb dX7_sheet_45 rfl (lv_at hl 0 rfl) ?_
          refine G_7_65 X hG 0 rfl dX7_sheet_46 ?_
          refine lv_iload_n hx hb dX7_sheet_49 rfl (lv_at hl 1 rfl) ?_
          refine r_aaldq 4 X hG 0 3 rfl rfl rfl hf dX7_sheet_50 (fun hb9 hf => ?_)
          refine W.eq (g2 := F0 m 51 ls [.ref (a 8 (Int32.toNatClampNeg a1))]) rfl ?_
          refine lv_iload_n hx hb dX7_sheet_51 rfl (lv_at hl 2 rfl) ?_
          refine lv_iload_n hx hb dX7_sheet_52 rfl (lv_at hl 2 rfl) ?_
          refine lv_iconst (v := (-1)) hx hb dX7_sheet_53 (by decide) ?_
          refine jn_use (P := fun (t10 : Int32) => ∀ (H : Heap) (locs : List Loc) (ls : Array Slot), GM g A s.heap H locs [wX7 g o a nw c.1, wX2 g (a 0 0) (a 1) c.2.1, wX2 g (a 0 1) (a 2) c.2.2.1, wX0 g (a 0 3) (a 3) c.2.2.2.1, wYs g a nw c.2.2.2.2.1, wX6 g (a 0 6) (a 6) c.2.2.2.2.2.1, wX4 g (a 0 7) (a 9) c.2.2.2.2.2.2.1, wTs g a c.2.2.2.2.2.2.2.1, wSs g a c.2.2.2.2.2.2.2.2.1, wX1 g (a 0 11) (a 5) c.2.2.2.2.2.2.2.2.2.1, wF g (a 5 3) 6 c.2.2.2.2.2.2.2.2.2.2] → lv_has ls 4 [] → W p l e rmX7_sheet s m args below meth c9 H locs 0 0 Q (F0 m 62 ls [.int t10, .int a2, .ref (a 8 (Int32.toNatClampNeg a1))])) hf (fun t10 hf H locs ls hG hl => ?_) (fun K11 hK11 hf => ?_)
          · obtain ⟨q12, hq12, hf⟩ := cl_inv hf
            refine r_callVv (bc := [wX3 g (a 8 (Int32.toNatClampNeg a1)) (a (30 + (Int32.toNatClampNeg a1))) (c.2.2.2.2.2.2.2.2.1 (Int32.toNatClampNeg a1))]) (br := [wX7 g o a nw c.1, wX2 g (a 0 0) (a 1) c.2.1, wX2 g (a 0 1) (a 2) c.2.2.1, wX0 g (a 0 3) (a 3) c.2.2.2.1, wYs g a nw c.2.2.2.2.1, wX6 g (a 0 6) (a 6) c.2.2.2.2.2.1, wX4 g (a 0 7) (a 9) c.2.2.2.2.2.2.1, wTs g a c.2.2.2.2.2.2.2.1, wSsR g a c.2.2.2.2.2.2.2.2.1 (Int32.toNatClampNeg a1), wX1 g (a 0 11) (a 5) c.2.2.2.2.2.2.2.2.2.1, wF g (a 5 3) 6 c.2.2.2.2.2.2.2.2.2.2]) (bs' := [wX7 g o a nw c.1, wX2 g (a 0 0) (a 1) c.2.1, wX2 g (a 0 1) (a 2) c.2.2.1, wX0 g (a 0 3) (a 3) c.2.2.2.1, wYs g a nw c.2.2.2.2.1, wX6 g (a 0 6) (a 6) c.2.2.2.2.2.1, wX4 g (a 0 7) (a 9) c.2.2.2.2.2.2.1, wTs g a c.2.2.2.2.2.2.2.1, wSs g a (va_up c.2.2.2.2.2.2.2.2.1 (Int32.toNatClampNeg a1) q12), wX1 g (a 0 11) (a 5) c.2.2.2.2.2.2.2.2.2.1, wF g (a 5 3) 6 c.2.2.2.2.2.2.2.2.2.2]) (As := [.int a2, .int t10]) (rest := []) X hG hl.1 (c_X3_become g l (a 8 (Int32.toNatClampNeg a1)) (a (30 + (Int32.toNatClampNeg a1))) n a2 t10 (c.2.2.2.2.2.2.2.2.1 (Int32.toNatClampNeg a1)) q12 hq12) ((focus_perm 8 rfl (S_focus (ib_lt hb9))).trans (blk_perm2 [8, 0, 1, 2, 3, 4, 5, 6, 7, 9, 10, 11] 12 rfl rfl (by decide)).flatten) ((blk_perm2 [1, 2, 3, 4, 5, 6, 7, 8, 0, 9, 10, 11] 12 rfl rfl (by decide)).flatten.trans (focus_perm 8 rfl (S_focus2 (ib_lt hb9) _ _)).symm) lk_X3_become lv_X3_become ml_7_247 (j := 8) (k := (2 * (Int32.toNatClampNeg a1))) rfl (S_get (ib_lt hb9)) rfl rfl rfl ⟨Nat.le_of_ble_eq_true rfl, Nat.le_of_ble_eq_true rfl⟩ rfl rfl (Nat.le_of_ble_eq_true rfl) ⟨Nat.zero_le _, Nat.zero_le _⟩ dX7_sheet_62 (fun H locs hG => ?_)
            refine lv_iconst (v := 1) hx hb dX7_sheet_65 (by decide) ?_
            have hq9 := Option.some.inj hf
            subst hq9
            subst hQ
            exact r_iret X hG dX7_sheet_66
          refine lv_icmp_ne (tgt := 61) hx hb dX7_sheet_54 (by decide) (fun hc13 => ?_) (fun hc13 => ?_)
          · replace hf := ite_f hf hc13
            refine lv_iload_n hx hb dX7_sheet_61 rfl (lv_at hl 3 rfl) ?_
            exact hK11 _ hf _ _ _ hG (lv_sub hl [] rfl)
          · replace hf := ite_t hf hc13
            refine lv_iconst (v := 0) hx hb dX7_sheet_57 (by decide) ?_
            refine lv_goto (tgt := 62) hx hb dX7_sheet_58 (by decide) ?_
            exact hK11 _ hf _ _ _ hG (lv_sub hl [] rfl)
        refine lv_icmp_eq (tgt := 45) hx hb dX7_sheet_35 (by decide) (fun hc14 => ?_) (fun hc14 => ?_)
        · replace hf := ite_t hf hc14
          exact hK8 _ hf _ _ _ hG (lv_sub hl [0, 1, 2, 3] rfl)
        · replace hf := ite_f hf hc14
          refine lv_iload_n hx hb dX7_sheet_38 rfl (lv_at hl 3 rfl) ?_
          refine lv_if_ge (tgt := 45) hx hb dX7_sheet_39 (by decide) (fun hc15 => ?_) (fun hc15 => ?_)
          · replace hf := ite_t hf hc15
            exact hK8 _ hf _ _ _ hG (lv_sub hl [0, 1, 2, 3] rfl)
          · replace hf := ite_f hf hc15
            refine lv_bipush (v := (-14)) hx hb dX7_sheet_42 (by decide) ?_
            have hq9 := Option.some.inj hf
            subst hq9
            subst hQ
            exact r_iret X hG dX7_sheet_44
      refine lv_icmp_eq (tgt := 33) hx hb dX7_sheet_21 (by decide) (fun hc16 => ?_) (fun hc16 => ?_)
      · replace hf := ite_t hf hc16
        exact hK6 _ hf _ _ _ hG (lv_sub hl [0, 1, 2, 3] rfl)
      · replace hf := ite_f hf hc16
        refine lv_iload_n hx hb dX7_sheet_24 rfl (lv_at hl 3 rfl) ?_
        refine lv_bipush (v := 40) hx hb dX7_sheet_25 (by decide) ?_
        refine lv_icmp_le (tgt := 33) hx hb dX7_sheet_27 (by decide) (fun hc17 => ?_) (fun hc17 => ?_)
        · replace hf := ite_t hf hc17
          exact hK6 _ hf _ _ _ hG (lv_sub hl [0, 1, 2, 3] rfl)
        · replace hf := ite_f hf hc17
          refine lv_bipush (v := (-2)) hx hb dX7_sheet_30 (by decide) ?_
          have hq9 := Option.some.inj hf
          subst hq9
          subst hQ
          exact r_iret X hG dX7_sheet_32
    · replace hf := ite_t hf hc4
      refine lv_bipush (v := (-2)) hx hb dX7_sheet_16 (by decide) ?_
      have hq9 := Option.some.inj hf
      subst hq9
      subst hQ
      exact r_iret X hG dX7_sheet_18
def rmX7_cell : Room := { frames := 2, cells := 0, slots := 0, locals := 43 }
set_option maxHeartbeats 4000000 in
set_option maxRecDepth 100000 in
theorem c_X7_cell (g : GT) (l : Launch) (o : Nat) (a : Nat → Nat → Nat) (nw : Nat) (n : Nat) (a1 : Int32) (a2 : Int32) (a3 : Int32) (c : CS) (q : Int32 × CS) (hf : f_X7_cell n nw a1 a2 a3 c = some q) : CI g l yX7_cell cX7_cell 5 (some .int) rmX7_cell [.ref o, .int a1, .int a2, .int a3] (wC g o a nw c) q.1 (wC g o a nw q.2) := by
  refine CI_intro RX7 rfl (by decide +kernel) (Nat.le_of_ble_eq_true rfl) ?_
  intro p e s m args below meth c9 A ls Q hQ X hl hG
  have hl : lv_has ls 5 [(0, .ref o), (1, .int a1), (2, .int a2), (3, .int a3)] := hl
  have hG : GM g A s.heap s.heap [] [wX7 g o a nw c.1, wX2 g (a 0 0) (a 1) c.2.1, wX2 g (a 0 1) (a 2) c.2.2.1, wX0 g (a 0 3) (a 3) c.2.2.2.1, wYs g a nw c.2.2.2.2.1, wX6 g (a 0 6) (a 6) c.2.2.2.2.2.1, wX4 g (a 0 7) (a 9) c.2.2.2.2.2.2.1, wTs g a c.2.2.2.2.2.2.2.1, wSs g a c.2.2.2.2.2.2.2.2.1, wX1 g (a 0 11) (a 5) c.2.2.2.2.2.2.2.2.2.1, wF g (a 5 3) 6 c.2.2.2.2.2.2.2.2.2.2] := hG
  have hx := X.1
  have hb := X.2.1
  have hown := X.2.2.2.1
  unfold f_X7_cell at hf
  refine lv_iload_n hx hb dX7_cell_0 rfl (lv_at hl 1 rfl) ?_
  obtain ⟨q1, hq1, hf⟩ := cl_inv hf
  refine r_callSi (bc := []) (br := [wX7 g o a nw c.1, wX2 g (a 0 0) (a 1) c.2.1, wX2 g (a 0 1) (a 2) c.2.2.1, wX0 g (a 0 3) (a 3) c.2.2.2.1, wYs g a nw c.2.2.2.2.1, wX6 g (a 0 6) (a 6) c.2.2.2.2.2.1, wX4 g (a 0 7) (a 9) c.2.2.2.2.2.2.1, wTs g a c.2.2.2.2.2.2.2.1, wSs g a c.2.2.2.2.2.2.2.2.1, wX1 g (a 0 11) (a 5) c.2.2.2.2.2.2.2.2.2.1, wF g (a 5 3) 6 c.2.2.2.2.2.2.2.2.2.2]) (bs' := [wX7 g o a nw c.1, wX2 g (a 0 0) (a 1) c.2.1, wX2 g (a 0 1) (a 2) c.2.2.1, wX0 g (a 0 3) (a 3) c.2.2.2.1, wYs g a nw c.2.2.2.2.1, wX6 g (a 0 6) (a 6) c.2.2.2.2.2.1, wX4 g (a 0 7) (a 9) c.2.2.2.2.2.2.1, wTs g a c.2.2.2.2.2.2.2.1, wSs g a c.2.2.2.2.2.2.2.2.1, wX1 g (a 0 11) (a 5) c.2.2.2.2.2.2.2.2.2.1, wF g (a 5 3) 6 c.2.2.2.2.2.2.2.2.2.2]) (As := [.int a1]) (rest := []) X hG hl.1 (c_X7_isSheet g l n a1 q1 hq1) (List.Perm.refl _) (List.Perm.refl _) lk_X7_isSheet ls_X7_isSheet ml_7_222 rfl rfl ⟨Nat.le_of_ble_eq_true rfl, Nat.le_of_ble_eq_true rfl⟩ rfl rfl (Nat.le_of_ble_eq_true rfl) ⟨Nat.zero_le _, Nat.zero_le _⟩ dX7_cell_1 (fun H locs hG => ?_)
  refine lv_if_ne (tgt := 10) hx hb dX7_cell_4 (by decide) (fun hc2 => ?_) (fun hc2 => ?_)
  · replace hf := ite_f hf hc2
    refine lv_aload_n hx hb dX7_cell_10 rfl (lv_at hl 0 rfl) ?_
    refine G_7_65 X hG 0 rfl dX7_cell_11 ?_
    refine lv_iload_n hx hb dX7_cell_14 rfl (lv_at hl 1 rfl) ?_
    refine r_aaldq 4 X hG 0 3 rfl rfl rfl hf dX7_cell_15 (fun hb3 hf => ?_)
    refine W.eq (g2 := F0 m 16 ls [.ref (a 8 (Int32.toNatClampNeg a1))]) rfl ?_
    refine lv_astore (lv' := [(4, .ref (a 8 (Int32.toNatClampNeg a1))), (0, .ref o), (1, .int a1), (2, .int a2), (3, .int a3)]) hx hb dX7_cell_16 hl (by decide) rfl (fun ls hl => ?_)
    refine lv_aload hx hb dX7_cell_18 (lv_at hl 0 rfl) ?_
    refine r_get X hG 8 (2 * (Int32.toNatClampNeg a1)) rfl (S_get (ib_lt hb3)) rfl 0 (by decide) inX3 (TW_at 436 (by decide +kernel) (by decide +kernel)) rfl dX7_cell_20 ?_
    refine lv_iconst (v := (-1)) hx hb dX7_cell_23 (by decide) ?_
    refine lv_icmp_ne (tgt := 30) hx hb dX7_cell_24 (by decide) (fun hc4 => ?_) (fun hc4 => ?_)
    · replace hf := ite_f hf hc4
      refine lv_aload hx hb dX7_cell_30 (lv_at hl 0 rfl) ?_
      refine lv_iload_n hx hb dX7_cell_32 rfl (lv_at hl 3 rfl) ?_
      obtain ⟨q5, hq5, hf⟩ := cl_inv hf
      refine r_callVi (bc := [wX3 g (a 8 (Int32.toNatClampNeg a1)) (a (30 + (Int32.toNatClampNeg a1))) (c.2.2.2.2.2.2.2.2.1 (Int32.toNatClampNeg a1))]) (br := [wX7 g o a nw c.1, wX2 g (a 0 0) (a 1) c.2.1, wX2 g (a 0 1) (a 2) c.2.2.1, wX0 g (a 0 3) (a 3) c.2.2.2.1, wYs g a nw c.2.2.2.2.1, wX6 g (a 0 6) (a 6) c.2.2.2.2.2.1, wX4 g (a 0 7) (a 9) c.2.2.2.2.2.2.1, wTs g a c.2.2.2.2.2.2.2.1, wSsR g a c.2.2.2.2.2.2.2.2.1 (Int32.toNatClampNeg a1), wX1 g (a 0 11) (a 5) c.2.2.2.2.2.2.2.2.2.1, wF g (a 5 3) 6 c.2.2.2.2.2.2.2.2.2.2]) (bs' := [wX7 g o a nw c.1, wX2 g (a 0 0) (a 1) c.2.1, wX2 g (a 0 1) (a 2) c.2.2.1, wX0 g (a 0 3) (a 3) c.2.2.2.1, wYs g a nw c.2.2.2.2.1, wX6 g (a 0 6) (a 6) c.2.2.2.2.2.1, wX4 g (a 0 7) (a 9) c.2.2.2.2.2.2.1, wTs g a c.2.2.2.2.2.2.2.1, wSs g a c.2.2.2.2.2.2.2.2.1, wX1 g (a 0 11) (a 5) c.2.2.2.2.2.2.2.2.2.1, wF g (a 5 3) 6 c.2.2.2.2.2.2.2.2.2.2]) (As := [.int a2]) (rest := []) X hG hl.1 (c_X3_has g l (a 8 (Int32.toNatClampNeg a1)) (a (30 + (Int32.toNatClampNeg a1))) n a2 (c.2.2.2.2.2.2.2.2.1 (Int32.toNatClampNeg a1)) q5 hq5) ((focus_perm 8 rfl (S_focus (ib_lt hb3))).trans (blk_perm2 [8, 0, 1, 2, 3, 4, 5, 6, 7, 9, 10, 11] 12 rfl rfl (by decide)).flatten) ((blk_perm2 [1, 2, 3, 4, 5, 6, 7, 8, 0, 9, 10, 11] 12 rfl rfl (by decide)).flatten.trans (focus_perm 8 rfl (S_focus (ib_lt hb3))).symm) lk_X3_has lv_X3_has ml_7_251 (j := 8) (k := (2 * (Int32.toNatClampNeg a1))) rfl (S_get (ib_lt hb3)) rfl rfl rfl ⟨Nat.le_of_ble_eq_true rfl, Nat.le_of_ble_eq_true rfl⟩ rfl rfl (Nat.le_of_ble_eq_true rfl) ⟨Nat.zero_le _, Nat.zero_le _⟩ dX7_cell_33 (fun H locs hG => ?_)
      refine lv_if_ne (tgt := 42) hx hb dX7_cell_36 (by decide) (fun hc6 => ?_) (fun hc6 => ?_)
      · replace hf := ite_f hf hc6
        refine lv_aload hx hb dX7_cell_42 (lv_at hl 0 rfl) ?_
        refine lv_iload_n hx hb dX7_cell_44 rfl (lv_at hl 3 rfl) ?_
        refine lv_iload_n hx hb dX7_cell_45 rfl (lv_at hl 4 rfl) ?_
        obtain ⟨q7, hq7, hf⟩ := cl_inv hf
        refine r_callVv (bc := [wX3 g (a 8 (Int32.toNatClampNeg a1)) (a (30 + (Int32.toNatClampNeg a1))) (c.2.2.2.2.2.2.2.2.1 (Int32.toNatClampNeg a1))]) (br := [wX7 g o a nw c.1, wX2 g (a 0 0) (a 1) c.2.1, wX2 g (a 0 1) (a 2) c.2.2.1, wX0 g (a 0 3) (a 3) c.2.2.2.1, wYs g a nw c.2.2.2.2.1, wX6 g (a 0 6) (a 6) c.2.2.2.2.2.1, wX4 g (a 0 7) (a 9) c.2.2.2.2.2.2.1, wTs g a c.2.2.2.2.2.2.2.1, wSsR g a c.2.2.2.2.2.2.2.2.1 (Int32.toNatClampNeg a1), wX1 g (a 0 11) (a 5) c.2.2.2.2.2.2.2.2.2.1, wF g (a 5 3) 6 c.2.2.2.2.2.2.2.2.2.2]) (bs' := [wX7 g o a nw c.1, wX2 g (a 0 0) (a 1) c.2.1, wX2 g (a 0 1) (a 2) c.2.2.1, wX0 g (a 0 3) (a 3) c.2.2.2.1, wYs g a nw c.2.2.2.2.1, wX6 g (a 0 6) (a 6) c.2.2.2.2.2.1, wX4 g (a 0 7) (a 9) c.2.2.2.2.2.2.1, wTs g a c.2.2.2.2.2.2.2.1, wSs g a (va_up c.2.2.2.2.2.2.2.2.1 (Int32.toNatClampNeg a1) q7), wX1 g (a 0 11) (a 5) c.2.2.2.2.2.2.2.2.2.1, wF g (a 5 3) 6 c.2.2.2.2.2.2.2.2.2.2]) (As := [.int a2, .int a3]) (rest := []) X hG hl.1 (c_X3_put g l (a 8 (Int32.toNatClampNeg a1)) (a (30 + (Int32.toNatClampNeg a1))) n a2 a3 (c.2.2.2.2.2.2.2.2.1 (Int32.toNatClampNeg a1)) q7 hq7) ((focus_perm 8 rfl (S_focus (ib_lt hb3))).trans (blk_perm2 [8, 0, 1, 2, 3, 4, 5, 6, 7, 9, 10, 11] 12 rfl rfl (by decide)).flatten) ((blk_perm2 [1, 2, 3, 4, 5, 6, 7, 8, 0, 9, 10, 11] 12 rfl rfl (by decide)).flatten.trans (focus_perm 8 rfl (S_focus2 (ib_lt hb3) _ _)).symm) lk_X3_put lv_X3_put ml_7_254 (j := 8) (k := (2 * (Int32.toNatClampNeg a1))) rfl (S_get (ib_lt hb3)) rfl rfl rfl ⟨Nat.le_of_ble_eq_true rfl, Nat.le_of_ble_eq_true rfl⟩ rfl rfl (Nat.le_of_ble_eq_true rfl) ⟨Nat.zero_le _, Nat.zero_le _⟩ dX7_cell_46 (fun H locs hG => ?_)
        refine lv_iconst (v := 1) hx hb dX7_cell_49 (by decide) ?_
        have hq9 := Option.some.inj hf
        subst hq9
        subst hQ
        exact r_iret X hG dX7_cell_50
      · replace hf := ite_t hf hc6
        refine lv_bipush (v := (-12)) hx hb dX7_cell_39 (by decide) ?_
        have hq9 := Option.some.inj hf
        subst hq9
        subst hQ
        exact r_iret X hG dX7_cell_41
    · replace hf := ite_t hf hc4
      refine lv_bipush (v := (-11)) hx hb dX7_cell_27 (by decide) ?_
      have hq9 := Option.some.inj hf
      subst hq9
      subst hQ
      exact r_iret X hG dX7_cell_29
  · replace hf := ite_t hf hc2
    refine lv_bipush (v := (-2)) hx hb dX7_cell_7 (by decide) ?_
    have hq9 := Option.some.inj hf
    subst hq9
    subst hQ
    exact r_iret X hG dX7_cell_9
def rmX7_copy : Room := { frames := 2, cells := 0, slots := 0, locals := 44 }
set_option maxHeartbeats 4000000 in
set_option maxRecDepth 100000 in
theorem c_X7_copy (g : GT) (l : Launch) (o : Nat) (a : Nat → Nat → Nat) (nw : Nat) (n : Nat) (a1 : Int32) (a2 : Int32) (a3 : Int32) (a4 : Int32) (a5 : Int32) (c : CS) (q : Int32 × CS) (hf : f_X7_copy n nw a1 a2 a3 a4 a5 c = some q) : CI g l yX7_copy cX7_copy 8 (some .int) rmX7_copy [.ref o, .int a1, .int a2, .int a3, .int a4, .int a5] (wC g o a nw c) q.1 (wC g o a nw q.2) := by
  refine CI_intro RX7 rfl (by decide +kernel) (Nat.le_of_ble_eq_true rfl) ?_
  intro p e s m args below meth c9 A ls Q hQ X hl hG
  have hl : lv_has ls 8 [(0, .ref o), (1, .int a1), (2, .int a2), (3, .int a3), (4, .int a4), (5, .int a5)] := hl
  have hG : GM g A s.heap s.heap [] [wX7 g o a nw c.1, wX2 g (a 0 0) (a 1) c.2.1, wX2 g (a 0 1) (a 2) c.2.2.1, wX0 g (a 0 3) (a 3) c.2.2.2.1, wYs g a nw c.2.2.2.2.1, wX6 g (a 0 6) (a 6) c.2.2.2.2.2.1, wX4 g (a 0 7) (a 9) c.2.2.2.2.2.2.1, wTs g a c.2.2.2.2.2.2.2.1, wSs g a c.2.2.2.2.2.2.2.2.1, wX1 g (a 0 11) (a 5) c.2.2.2.2.2.2.2.2.2.1, wF g (a 5 3) 6 c.2.2.2.2.2.2.2.2.2.2] := hG
  have hx := X.1
  have hb := X.2.1
  have hown := X.2.2.2.1
  unfold f_X7_copy at hf
  refine lv_iload_n hx hb dX7_copy_0 rfl (lv_at hl 1 rfl) ?_
  obtain ⟨q1, hq1, hf⟩ := cl_inv hf
  refine r_callSi (bc := []) (br := [wX7 g o a nw c.1, wX2 g (a 0 0) (a 1) c.2.1, wX2 g (a 0 1) (a 2) c.2.2.1, wX0 g (a 0 3) (a 3) c.2.2.2.1, wYs g a nw c.2.2.2.2.1, wX6 g (a 0 6) (a 6) c.2.2.2.2.2.1, wX4 g (a 0 7) (a 9) c.2.2.2.2.2.2.1, wTs g a c.2.2.2.2.2.2.2.1, wSs g a c.2.2.2.2.2.2.2.2.1, wX1 g (a 0 11) (a 5) c.2.2.2.2.2.2.2.2.2.1, wF g (a 5 3) 6 c.2.2.2.2.2.2.2.2.2.2]) (bs' := [wX7 g o a nw c.1, wX2 g (a 0 0) (a 1) c.2.1, wX2 g (a 0 1) (a 2) c.2.2.1, wX0 g (a 0 3) (a 3) c.2.2.2.1, wYs g a nw c.2.2.2.2.1, wX6 g (a 0 6) (a 6) c.2.2.2.2.2.1, wX4 g (a 0 7) (a 9) c.2.2.2.2.2.2.1, wTs g a c.2.2.2.2.2.2.2.1, wSs g a c.2.2.2.2.2.2.2.2.1, wX1 g (a 0 11) (a 5) c.2.2.2.2.2.2.2.2.2.1, wF g (a 5 3) 6 c.2.2.2.2.2.2.2.2.2.2]) (As := [.int a1]) (rest := []) X hG hl.1 (c_X7_isSheet g l n a1 q1 hq1) (List.Perm.refl _) (List.Perm.refl _) lk_X7_isSheet ls_X7_isSheet ml_7_222 rfl rfl ⟨Nat.le_of_ble_eq_true rfl, Nat.le_of_ble_eq_true rfl⟩ rfl rfl (Nat.le_of_ble_eq_true rfl) ⟨Nat.zero_le _, Nat.zero_le _⟩ dX7_copy_1 (fun H locs hG => ?_)
  refine lv_if_eq (tgt := 14) hx hb dX7_copy_4 (by decide) (fun hc2 => ?_) (fun hc2 => ?_)
  · replace hf := ite_t hf hc2
    refine lv_bipush (v := (-2)) hx hb dX7_copy_14 (by decide) ?_
    have hq9 := Option.some.inj hf
    subst hq9
    subst hQ
    exact r_iret X hG dX7_copy_16
  · replace hf := ite_f hf hc2
    refine lv_iload_n hx hb dX7_copy_7 rfl (lv_at hl 3 rfl) ?_
    obtain ⟨q3, hq3, hf⟩ := cl_inv hf
    refine r_callSi (bc := []) (br := [wX7 g o a nw c.1, wX2 g (a 0 0) (a 1) c.2.1, wX2 g (a 0 1) (a 2) c.2.2.1, wX0 g (a 0 3) (a 3) c.2.2.2.1, wYs g a nw c.2.2.2.2.1, wX6 g (a 0 6) (a 6) c.2.2.2.2.2.1, wX4 g (a 0 7) (a 9) c.2.2.2.2.2.2.1, wTs g a c.2.2.2.2.2.2.2.1, wSs g a c.2.2.2.2.2.2.2.2.1, wX1 g (a 0 11) (a 5) c.2.2.2.2.2.2.2.2.2.1, wF g (a 5 3) 6 c.2.2.2.2.2.2.2.2.2.2]) (bs' := [wX7 g o a nw c.1, wX2 g (a 0 0) (a 1) c.2.1, wX2 g (a 0 1) (a 2) c.2.2.1, wX0 g (a 0 3) (a 3) c.2.2.2.1, wYs g a nw c.2.2.2.2.1, wX6 g (a 0 6) (a 6) c.2.2.2.2.2.1, wX4 g (a 0 7) (a 9) c.2.2.2.2.2.2.1, wTs g a c.2.2.2.2.2.2.2.1, wSs g a c.2.2.2.2.2.2.2.2.1, wX1 g (a 0 11) (a 5) c.2.2.2.2.2.2.2.2.2.1, wF g (a 5 3) 6 c.2.2.2.2.2.2.2.2.2.2]) (As := [.int a3]) (rest := []) X hG hl.1 (c_X7_isSheet g l n a3 q3 hq3) (List.Perm.refl _) (List.Perm.refl _) lk_X7_isSheet ls_X7_isSheet ml_7_222 rfl rfl ⟨Nat.le_of_ble_eq_true rfl, Nat.le_of_ble_eq_true rfl⟩ rfl rfl (Nat.le_of_ble_eq_true rfl) ⟨Nat.zero_le _, Nat.zero_le _⟩ dX7_copy_8 (fun H locs hG => ?_)
    refine lv_if_ne (tgt := 17) hx hb dX7_copy_11 (by decide) (fun hc4 => ?_) (fun hc4 => ?_)
    · replace hf := ite_f hf hc4
      refine lv_aload_n hx hb dX7_copy_17 rfl (lv_at hl 0 rfl) ?_
      refine G_7_65 X hG 0 rfl dX7_copy_18 ?_
      refine lv_iload_n hx hb dX7_copy_21 rfl (lv_at hl 1 rfl) ?_
      refine r_aaldq 4 X hG 0 3 rfl rfl rfl hf dX7_copy_22 (fun hb5 hf => ?_)
      refine W.eq (g2 := F0 m 23 ls [.ref (a 8 (Int32.toNatClampNeg a1))]) rfl ?_
      refine lv_astore (lv' := [(6, .ref (a 8 (Int32.toNatClampNeg a1))), (0, .ref o), (1, .int a1), (2, .int a2), (3, .int a3), (4, .int a4), (5, .int a5)]) hx hb dX7_copy_23 hl (by decide) rfl (fun ls hl => ?_)
      refine lv_aload_n hx hb dX7_copy_25 rfl (lv_at hl 1 rfl) ?_
      refine G_7_65 X hG 0 rfl dX7_copy_26 ?_
      refine lv_iload_n hx hb dX7_copy_29 rfl (lv_at hl 4 rfl) ?_
      refine r_aaldq 4 X hG 0 3 rfl rfl rfl hf dX7_copy_30 (fun hb6 hf => ?_)
      refine W.eq (g2 := F0 m 31 ls [.ref (a 8 (Int32.toNatClampNeg a3))]) rfl ?_
      refine lv_astore (lv' := [(7, .ref (a 8 (Int32.toNatClampNeg a3))), (6, .ref (a 8 (Int32.toNatClampNeg a1))), (0, .ref o), (1, .int a1), (2, .int a2), (3, .int a3), (4, .int a4), (5, .int a5)]) hx hb dX7_copy_31 hl (by decide) rfl (fun ls hl => ?_)
      refine lv_aload hx hb dX7_copy_33 (lv_at hl 1 rfl) ?_
      refine r_get X hG 8 (2 * (Int32.toNatClampNeg a1)) rfl (S_get (ib_lt hb5)) rfl 0 (by decide) inX3 (TW_at 436 (by decide +kernel) (by decide +kernel)) rfl dX7_copy_35 ?_
      refine lv_iconst (v := (-1)) hx hb dX7_copy_38 (by decide) ?_
      refine lv_icmp_eq (tgt := 51) hx hb dX7_copy_39 (by decide) (fun hc7 => ?_) (fun hc7 => ?_)
      · replace hf := ite_t hf hc7
        refine lv_bipush (v := (-11)) hx hb dX7_copy_51 (by decide) ?_
        have hq9 := Option.some.inj hf
        subst hq9
        subst hQ
        exact r_iret X hG dX7_copy_53
      · replace hf := ite_f hf hc7
        refine lv_aload hx hb dX7_copy_42 (lv_at hl 0 rfl) ?_
        refine r_get X hG 8 (2 * (Int32.toNatClampNeg a3)) rfl (S_get (ib_lt hb6)) rfl 0 (by decide) inX3 (TW_at 436 (by decide +kernel) (by decide +kernel)) rfl dX7_copy_44 ?_
        refine lv_iconst (v := (-1)) hx hb dX7_copy_47 (by decide) ?_
        refine lv_icmp_ne (tgt := 54) hx hb dX7_copy_48 (by decide) (fun hc8 => ?_) (fun hc8 => ?_)
        · replace hf := ite_f hf hc8
          refine lv_aload hx hb dX7_copy_54 (lv_at hl 1 rfl) ?_
          refine r_get X hG 8 (2 * (Int32.toNatClampNeg a1)) rfl (S_get (ib_lt hb5)) rfl 0 (by decide) inX3 (TW_at 436 (by decide +kernel) (by decide +kernel)) rfl dX7_copy_56 ?_
          refine lv_aload hx hb dX7_copy_59 (lv_at hl 0 rfl) ?_
          refine r_get X hG 8 (2 * (Int32.toNatClampNeg a3)) rfl (S_get (ib_lt hb6)) rfl 0 (by decide) inX3 (TW_at 436 (by decide +kernel) (by decide +kernel)) rfl dX7_copy_61 ?_
          refine lv_icmp_eq (tgt := 70) hx hb dX7_copy_64 (by decide) (fun hc9 => ?_) (fun hc9 => ?_)
          · replace hf := ite_t hf hc9
            refine lv_aload hx hb dX7_copy_70 (lv_at hl 1 rfl) ?_
            refine lv_iload_n hx hb dX7_copy_72 rfl (lv_at hl 4 rfl) ?_
            refine lv_iload hx hb dX7_copy_73 (lv_at hl 7 rfl) ?_
            obtain ⟨q10, hq10, hf⟩ := cl_inv hf
            refine r_callVi (bc := [wX3 g (a 8 (Int32.toNatClampNeg a1)) (a (30 + (Int32.toNatClampNeg a1))) (c.2.2.2.2.2.2.2.2.1 (Int32.toNatClampNeg a1))]) (br := [wX7 g o a nw c.1, wX2 g (a 0 0) (a 1) c.2.1, wX2 g (a 0 1) (a 2) c.2.2.1, wX0 g (a 0 3) (a 3) c.2.2.2.1, wYs g a nw c.2.2.2.2.1, wX6 g (a 0 6) (a 6) c.2.2.2.2.2.1, wX4 g (a 0 7) (a 9) c.2.2.2.2.2.2.1, wTs g a c.2.2.2.2.2.2.2.1, wSsR g a c.2.2.2.2.2.2.2.2.1 (Int32.toNatClampNeg a1), wX1 g (a 0 11) (a 5) c.2.2.2.2.2.2.2.2.2.1, wF g (a 5 3) 6 c.2.2.2.2.2.2.2.2.2.2]) (bs' := [wX7 g o a nw c.1, wX2 g (a 0 0) (a 1) c.2.1, wX2 g (a 0 1) (a 2) c.2.2.1, wX0 g (a 0 3) (a 3) c.2.2.2.1, wYs g a nw c.2.2.2.2.1, wX6 g (a 0 6) (a 6) c.2.2.2.2.2.1, wX4 g (a 0 7) (a 9) c.2.2.2.2.2.2.1, wTs g a c.2.2.2.2.2.2.2.1, wSs g a c.2.2.2.2.2.2.2.2.1, wX1 g (a 0 11) (a 5) c.2.2.2.2.2.2.2.2.2.1, wF g (a 5 3) 6 c.2.2.2.2.2.2.2.2.2.2]) (As := [.int a2, .int a5]) (rest := []) X hG hl.1 (c_X3_hasRow g l (a 8 (Int32.toNatClampNeg a1)) (a (30 + (Int32.toNatClampNeg a1))) n a2 a5 (c.2.2.2.2.2.2.2.2.1 (Int32.toNatClampNeg a1)) q10 hq10) ((focus_perm 8 rfl (S_focus (ib_lt hb5))).trans (blk_perm2 [8, 0, 1, 2, 3, 4, 5, 6, 7, 9, 10, 11] 12 rfl rfl (by decide)).flatten) ((blk_perm2 [1, 2, 3, 4, 5, 6, 7, 8, 0, 9, 10, 11] 12 rfl rfl (by decide)).flatten.trans (focus_perm 8 rfl (S_focus (ib_lt hb5))).symm) lk_X3_hasRow lv_X3_hasRow ml_7_257 (j := 8) (k := (2 * (Int32.toNatClampNeg a1))) rfl (S_get (ib_lt hb5)) rfl rfl rfl ⟨Nat.le_of_ble_eq_true rfl, Nat.le_of_ble_eq_true rfl⟩ rfl rfl (Nat.le_of_ble_eq_true rfl) ⟨Nat.zero_le _, Nat.zero_le _⟩ dX7_copy_75 (fun H locs hG => ?_)
            refine lv_if_eq (tgt := 93) hx hb dX7_copy_78 (by decide) (fun hc11 => ?_) (fun hc11 => ?_)
            · replace hf := ite_t hf hc11
              refine lv_bipush (v := (-12)) hx hb dX7_copy_93 (by decide) ?_
              have hq9 := Option.some.inj hf
              subst hq9
              subst hQ
              exact r_iret X hG dX7_copy_95
            · replace hf := ite_f hf hc11
              refine lv_aload hx hb dX7_copy_81 (lv_at hl 0 rfl) ?_
              refine lv_iload hx hb dX7_copy_83 (lv_at hl 6 rfl) ?_
              refine lv_iload hx hb dX7_copy_85 (lv_at hl 7 rfl) ?_
              obtain ⟨q12, hq12, hf⟩ := cl_inv hf
              refine r_callVi (bc := [wX3 g (a 8 (Int32.toNatClampNeg a3)) (a (30 + (Int32.toNatClampNeg a3))) (c.2.2.2.2.2.2.2.2.1 (Int32.toNatClampNeg a3))]) (br := [wX7 g o a nw c.1, wX2 g (a 0 0) (a 1) c.2.1, wX2 g (a 0 1) (a 2) c.2.2.1, wX0 g (a 0 3) (a 3) c.2.2.2.1, wYs g a nw c.2.2.2.2.1, wX6 g (a 0 6) (a 6) c.2.2.2.2.2.1, wX4 g (a 0 7) (a 9) c.2.2.2.2.2.2.1, wTs g a c.2.2.2.2.2.2.2.1, wSsR g a c.2.2.2.2.2.2.2.2.1 (Int32.toNatClampNeg a3), wX1 g (a 0 11) (a 5) c.2.2.2.2.2.2.2.2.2.1, wF g (a 5 3) 6 c.2.2.2.2.2.2.2.2.2.2]) (bs' := [wX7 g o a nw c.1, wX2 g (a 0 0) (a 1) c.2.1, wX2 g (a 0 1) (a 2) c.2.2.1, wX0 g (a 0 3) (a 3) c.2.2.2.1, wYs g a nw c.2.2.2.2.1, wX6 g (a 0 6) (a 6) c.2.2.2.2.2.1, wX4 g (a 0 7) (a 9) c.2.2.2.2.2.2.1, wTs g a c.2.2.2.2.2.2.2.1, wSs g a c.2.2.2.2.2.2.2.2.1, wX1 g (a 0 11) (a 5) c.2.2.2.2.2.2.2.2.2.1, wF g (a 5 3) 6 c.2.2.2.2.2.2.2.2.2.2]) (As := [.int a4, .int a5]) (rest := []) X hG hl.1 (c_X3_hasRow g l (a 8 (Int32.toNatClampNeg a3)) (a (30 + (Int32.toNatClampNeg a3))) n a4 a5 (c.2.2.2.2.2.2.2.2.1 (Int32.toNatClampNeg a3)) q12 hq12) ((focus_perm 8 rfl (S_focus (ib_lt hb6))).trans (blk_perm2 [8, 0, 1, 2, 3, 4, 5, 6, 7, 9, 10, 11] 12 rfl rfl (by decide)).flatten) ((blk_perm2 [1, 2, 3, 4, 5, 6, 7, 8, 0, 9, 10, 11] 12 rfl rfl (by decide)).flatten.trans (focus_perm 8 rfl (S_focus (ib_lt hb6))).symm) lk_X3_hasRow lv_X3_hasRow ml_7_257 (j := 8) (k := (2 * (Int32.toNatClampNeg a3))) rfl (S_get (ib_lt hb6)) rfl rfl rfl ⟨Nat.le_of_ble_eq_true rfl, Nat.le_of_ble_eq_true rfl⟩ rfl rfl (Nat.le_of_ble_eq_true rfl) ⟨Nat.zero_le _, Nat.zero_le _⟩ dX7_copy_87 (fun H locs hG => ?_)
              refine lv_if_ne (tgt := 96) hx hb dX7_copy_90 (by decide) (fun hc13 => ?_) (fun hc13 => ?_)
              · replace hf := ite_f hf hc13
                refine lv_aload hx hb dX7_copy_96 (lv_at hl 1 rfl) ?_
                refine r_get X hG 8 (2 * (Int32.toNatClampNeg a1)) rfl (S_get (ib_lt hb5)) rfl 2 (by decide) inX3 (TW_at 441 (by decide +kernel) (by decide +kernel)) rfl dX7_copy_98 ?_
                refine lv_iload_n hx hb dX7_copy_101 rfl (lv_at hl 4 rfl) ?_
                refine lv_aload hx hb dX7_copy_102 (lv_at hl 0 rfl) ?_
                refine r_get X hG 8 (2 * (Int32.toNatClampNeg a3)) rfl (S_get (ib_lt hb6)) rfl 2 (by decide) inX3 (TW_at 441 (by decide +kernel) (by decide +kernel)) rfl dX7_copy_104 ?_
                refine lv_iload hx hb dX7_copy_107 (lv_at hl 6 rfl) ?_
                refine lv_iload hx hb dX7_copy_109 (lv_at hl 7 rfl) ?_
                refine r_copy (idx := 263) X hG hl.1 (TW_at 797 (by decide +kernel) (by decide +kernel)) (TW_at 749 (by decide +kernel) (by decide +kernel)) (TW_at 748 (by decide +kernel) (by decide +kernel)) (TW_at 74 (by decide +kernel) (by decide +kernel)) 8 (2 * (Int32.toNatClampNeg a1) + 1) 8 (2 * (Int32.toNatClampNeg a3) + 1) rfl rfl (S_get1 (ib_lt hb5)) (S_get1 (ib_lt hb6)) hf (fun t => [wX7 g o a nw c.1, wX2 g (a 0 0) (a 1) c.2.1, wX2 g (a 0 1) (a 2) c.2.2.1, wX0 g (a 0 3) (a 3) c.2.2.2.1, wYs g a nw c.2.2.2.2.1, wX6 g (a 0 6) (a 6) c.2.2.2.2.2.1, wX4 g (a 0 7) (a 9) c.2.2.2.2.2.2.1, wTs g a c.2.2.2.2.2.2.2.1, wSs g a t, wX1 g (a 0 11) (a 5) c.2.2.2.2.2.2.2.2.2.1, wF g (a 5 3) 6 c.2.2.2.2.2.2.2.2.2.2]) (congrArg (fun b => [wX7 g o a nw c.1, wX2 g (a 0 0) (a 1) c.2.1, wX2 g (a 0 1) (a 2) c.2.2.1, wX0 g (a 0 3) (a 3) c.2.2.2.1, wYs g a nw c.2.2.2.2.1, wX6 g (a 0 6) (a 6) c.2.2.2.2.2.1, wX4 g (a 0 7) (a 9) c.2.2.2.2.2.2.1, wTs g a c.2.2.2.2.2.2.2.1, b, wX1 g (a 0 11) (a 5) c.2.2.2.2.2.2.2.2.2.1, wF g (a 5 3) 6 c.2.2.2.2.2.2.2.2.2.2]) (S_set1 (ib_lt hb6) _)) (Nat.le_of_ble_eq_true rfl) (Nat.le_of_ble_eq_true rfl) dX7_copy_111 (fun z14 H locs hf hG => ?_)
                refine lv_iload hx hb dX7_copy_114 (lv_at hl 7 rfl) ?_
                have hq9 := Option.some.inj hf
                subst hq9
                subst hQ
                exact r_iret X hG dX7_copy_116
              · replace hf := ite_t hf hc13
                refine lv_bipush (v := (-12)) hx hb dX7_copy_93 (by decide) ?_
                have hq9 := Option.some.inj hf
                subst hq9
                subst hQ
                exact r_iret X hG dX7_copy_95
          · replace hf := ite_f hf hc9
            refine lv_bipush (v := (-13)) hx hb dX7_copy_67 (by decide) ?_
            have hq9 := Option.some.inj hf
            subst hq9
            subst hQ
            exact r_iret X hG dX7_copy_69
        · replace hf := ite_t hf hc8
          refine lv_bipush (v := (-11)) hx hb dX7_copy_51 (by decide) ?_
          have hq9 := Option.some.inj hf
          subst hq9
          subst hQ
          exact r_iret X hG dX7_copy_53
    · replace hf := ite_t hf hc4
      refine lv_bipush (v := (-2)) hx hb dX7_copy_14 (by decide) ?_
      have hq9 := Option.some.inj hf
      subst hq9
      subst hQ
      exact r_iret X hG dX7_copy_16
def rmX7_sorts : Room := { frames := 3, cells := 0, slots := 0, locals := 68 }
set_option maxHeartbeats 4000000 in
set_option maxRecDepth 100000 in
theorem c_X7_sorts (g : GT) (l : Launch) (o : Nat) (a : Nat → Nat → Nat) (nw : Nat) (n : Nat) (a1 : Int32) (a2 : Int32) (a3 : Int32) (a4 : Int32) (c : CS) (q : Int32 × CS) (hf : f_X7_sorts n nw a1 a2 a3 a4 c = some q) : CI g l yX7_sorts cX7_sorts 9 (some .int) rmX7_sorts [.ref o, .int a1, .int a2, .int a3, .int a4] (wC g o a nw c) q.1 (wC g o a nw q.2) := by
  refine CI_intro RX7 rfl (by decide +kernel) (Nat.le_of_ble_eq_true rfl) ?_
  intro p e s m args below meth c9 A ls Q hQ X hl hG
  have hl : lv_has ls 9 [(0, .ref o), (1, .int a1), (2, .int a2), (3, .int a3), (4, .int a4)] := hl
  have hG : GM g A s.heap s.heap [] [wX7 g o a nw c.1, wX2 g (a 0 0) (a 1) c.2.1, wX2 g (a 0 1) (a 2) c.2.2.1, wX0 g (a 0 3) (a 3) c.2.2.2.1, wYs g a nw c.2.2.2.2.1, wX6 g (a 0 6) (a 6) c.2.2.2.2.2.1, wX4 g (a 0 7) (a 9) c.2.2.2.2.2.2.1, wTs g a c.2.2.2.2.2.2.2.1, wSs g a c.2.2.2.2.2.2.2.2.1, wX1 g (a 0 11) (a 5) c.2.2.2.2.2.2.2.2.2.1, wF g (a 5 3) 6 c.2.2.2.2.2.2.2.2.2.2] := hG
  have hx := X.1
  have hb := X.2.1
  have hown := X.2.2.2.1
  unfold f_X7_sorts at hf
  refine lv_iload_n hx hb dX7_sorts_0 rfl (lv_at hl 1 rfl) ?_
  obtain ⟨q1, hq1, hf⟩ := cl_inv hf
  refine r_callSi (bc := []) (br := [wX7 g o a nw c.1, wX2 g (a 0 0) (a 1) c.2.1, wX2 g (a 0 1) (a 2) c.2.2.1, wX0 g (a 0 3) (a 3) c.2.2.2.1, wYs g a nw c.2.2.2.2.1, wX6 g (a 0 6) (a 6) c.2.2.2.2.2.1, wX4 g (a 0 7) (a 9) c.2.2.2.2.2.2.1, wTs g a c.2.2.2.2.2.2.2.1, wSs g a c.2.2.2.2.2.2.2.2.1, wX1 g (a 0 11) (a 5) c.2.2.2.2.2.2.2.2.2.1, wF g (a 5 3) 6 c.2.2.2.2.2.2.2.2.2.2]) (bs' := [wX7 g o a nw c.1, wX2 g (a 0 0) (a 1) c.2.1, wX2 g (a 0 1) (a 2) c.2.2.1, wX0 g (a 0 3) (a 3) c.2.2.2.1, wYs g a nw c.2.2.2.2.1, wX6 g (a 0 6) (a 6) c.2.2.2.2.2.1, wX4 g (a 0 7) (a 9) c.2.2.2.2.2.2.1, wTs g a c.2.2.2.2.2.2.2.1, wSs g a c.2.2.2.2.2.2.2.2.1, wX1 g (a 0 11) (a 5) c.2.2.2.2.2.2.2.2.2.1, wF g (a 5 3) 6 c.2.2.2.2.2.2.2.2.2.2]) (As := [.int a1]) (rest := []) X hG hl.1 (c_X7_isSheet g l n a1 q1 hq1) (List.Perm.refl _) (List.Perm.refl _) lk_X7_isSheet ls_X7_isSheet ml_7_222 rfl rfl ⟨Nat.le_of_ble_eq_true rfl, Nat.le_of_ble_eq_true rfl⟩ rfl rfl (Nat.le_of_ble_eq_true rfl) ⟨Nat.zero_le _, Nat.zero_le _⟩ dX7_sorts_1 (fun H locs hG => ?_)
  refine lv_if_eq (tgt := 27) hx hb dX7_sorts_4 (by decide) (fun hc2 => ?_) (fun hc2 => ?_)
  · replace hf := ite_t hf hc2
    refine lv_bipush (v := (-2)) hx hb dX7_sorts_27 (by decide) ?_
    have hq9 := Option.some.inj hf
    subst hq9
    subst hQ
    exact r_iret X hG dX7_sorts_29
  · replace hf := ite_f hf hc2
    refine lv_iload_n hx hb dX7_sorts_7 rfl (lv_at hl 2 rfl) ?_
    refine lv_iconst (v := 0) hx hb dX7_sorts_8 (by decide) ?_
    refine lv_iconst (v := 2) hx hb dX7_sorts_9 (by decide) ?_
    obtain ⟨q3, hq3, hf⟩ := cl_inv hf
    refine r_callSi (bc := []) (br := [wX7 g o a nw c.1, wX2 g (a 0 0) (a 1) c.2.1, wX2 g (a 0 1) (a 2) c.2.2.1, wX0 g (a 0 3) (a 3) c.2.2.2.1, wYs g a nw c.2.2.2.2.1, wX6 g (a 0 6) (a 6) c.2.2.2.2.2.1, wX4 g (a 0 7) (a 9) c.2.2.2.2.2.2.1, wTs g a c.2.2.2.2.2.2.2.1, wSs g a c.2.2.2.2.2.2.2.2.1, wX1 g (a 0 11) (a 5) c.2.2.2.2.2.2.2.2.2.1, wF g (a 5 3) 6 c.2.2.2.2.2.2.2.2.2.2]) (bs' := [wX7 g o a nw c.1, wX2 g (a 0 0) (a 1) c.2.1, wX2 g (a 0 1) (a 2) c.2.2.1, wX0 g (a 0 3) (a 3) c.2.2.2.1, wYs g a nw c.2.2.2.2.1, wX6 g (a 0 6) (a 6) c.2.2.2.2.2.1, wX4 g (a 0 7) (a 9) c.2.2.2.2.2.2.1, wTs g a c.2.2.2.2.2.2.2.1, wSs g a c.2.2.2.2.2.2.2.2.1, wX1 g (a 0 11) (a 5) c.2.2.2.2.2.2.2.2.2.1, wF g (a 5 3) 6 c.2.2.2.2.2.2.2.2.2.2]) (As := [.int a2, .int 0, .int 2]) (rest := []) X hG hl.1 (c_X7_between g l n a2 0 2 q3 hq3) (List.Perm.refl _) (List.Perm.refl _) lk_X7_between ls_X7_between ml_7_106 rfl rfl ⟨Nat.le_of_ble_eq_true rfl, Nat.le_of_ble_eq_true rfl⟩ rfl rfl (Nat.le_of_ble_eq_true rfl) ⟨Nat.zero_le _, Nat.zero_le _⟩ dX7_sorts_10 (fun H locs hG => ?_)
    refine lv_if_eq (tgt := 27) hx hb dX7_sorts_13 (by decide) (fun hc4 => ?_) (fun hc4 => ?_)
    · replace hf := ite_t hf hc4
      refine lv_bipush (v := (-2)) hx hb dX7_sorts_27 (by decide) ?_
      have hq9 := Option.some.inj hf
      subst hq9
      subst hQ
      exact r_iret X hG dX7_sorts_29
    · replace hf := ite_f hf hc4
      refine lv_iload hx hb dX7_sorts_16 (lv_at hl 4 rfl) ?_
      refine lv_iconst (v := 0) hx hb dX7_sorts_18 (by decide) ?_
      refine lv_bipush (v := 8) hx hb dX7_sorts_19 (by decide) ?_
      obtain ⟨q5, hq5, hf⟩ := cl_inv hf
      refine r_callSi (bc := []) (br := [wX7 g o a nw c.1, wX2 g (a 0 0) (a 1) c.2.1, wX2 g (a 0 1) (a 2) c.2.2.1, wX0 g (a 0 3) (a 3) c.2.2.2.1, wYs g a nw c.2.2.2.2.1, wX6 g (a 0 6) (a 6) c.2.2.2.2.2.1, wX4 g (a 0 7) (a 9) c.2.2.2.2.2.2.1, wTs g a c.2.2.2.2.2.2.2.1, wSs g a c.2.2.2.2.2.2.2.2.1, wX1 g (a 0 11) (a 5) c.2.2.2.2.2.2.2.2.2.1, wF g (a 5 3) 6 c.2.2.2.2.2.2.2.2.2.2]) (bs' := [wX7 g o a nw c.1, wX2 g (a 0 0) (a 1) c.2.1, wX2 g (a 0 1) (a 2) c.2.2.1, wX0 g (a 0 3) (a 3) c.2.2.2.1, wYs g a nw c.2.2.2.2.1, wX6 g (a 0 6) (a 6) c.2.2.2.2.2.1, wX4 g (a 0 7) (a 9) c.2.2.2.2.2.2.1, wTs g a c.2.2.2.2.2.2.2.1, wSs g a c.2.2.2.2.2.2.2.2.1, wX1 g (a 0 11) (a 5) c.2.2.2.2.2.2.2.2.2.1, wF g (a 5 3) 6 c.2.2.2.2.2.2.2.2.2.2]) (As := [.int a4, .int 0, .int 8]) (rest := []) X hG hl.1 (c_X7_between g l n a4 0 8 q5 hq5) (List.Perm.refl _) (List.Perm.refl _) lk_X7_between ls_X7_between ml_7_106 rfl rfl ⟨Nat.le_of_ble_eq_true rfl, Nat.le_of_ble_eq_true rfl⟩ rfl rfl (Nat.le_of_ble_eq_true rfl) ⟨Nat.zero_le _, Nat.zero_le _⟩ dX7_sorts_21 (fun H locs hG => ?_)
      refine lv_if_ne (tgt := 30) hx hb dX7_sorts_24 (by decide) (fun hc6 => ?_) (fun hc6 => ?_)
      · replace hf := ite_f hf hc6
        refine lv_aload_n hx hb dX7_sorts_30 rfl (lv_at hl 0 rfl) ?_
        refine G_7_65 X hG 0 rfl dX7_sorts_31 ?_
        refine lv_iload_n hx hb dX7_sorts_34 rfl (lv_at hl 1 rfl) ?_
        refine r_aaldq 4 X hG 0 3 rfl rfl rfl hf dX7_sorts_35 (fun hb7 hf => ?_)
        refine W.eq (g2 := F0 m 36 ls [.ref (a 8 (Int32.toNatClampNeg a1))]) rfl ?_
        refine lv_astore (lv' := [(5, .ref (a 8 (Int32.toNatClampNeg a1))), (0, .ref o), (1, .int a1), (2, .int a2), (3, .int a3), (4, .int a4)]) hx hb dX7_sorts_36 hl (by decide) rfl (fun ls hl => ?_)
        refine lv_aload hx hb dX7_sorts_38 (lv_at hl 0 rfl) ?_
        refine r_get X hG 8 (2 * (Int32.toNatClampNeg a1)) rfl (S_get (ib_lt hb7)) rfl 0 (by decide) inX3 (TW_at 436 (by decide +kernel) (by decide +kernel)) rfl dX7_sorts_40 ?_
        refine lv_iconst (v := (-1)) hx hb dX7_sorts_43 (by decide) ?_
        refine lv_icmp_ne (tgt := 50) hx hb dX7_sorts_44 (by decide) (fun hc8 => ?_) (fun hc8 => ?_)
        · replace hf := ite_f hf hc8
          refine lv_aload hx hb dX7_sorts_50 (lv_at hl 0 rfl) ?_
          refine r_get X hG 8 (2 * (Int32.toNatClampNeg a1)) rfl (S_get (ib_lt hb7)) rfl 0 (by decide) inX3 (TW_at 436 (by decide +kernel) (by decide +kernel)) rfl dX7_sorts_52 ?_
          refine lv_iload_n hx hb dX7_sorts_55 rfl (lv_at hl 3 rfl) ?_
          refine lv_icmp_eq (tgt := 62) hx hb dX7_sorts_56 (by decide) (fun hc9 => ?_) (fun hc9 => ?_)
          · replace hf := ite_t hf hc9
            refine lv_iconst (v := 0) hx hb dX7_sorts_62 (by decide) ?_
            refine lv_istore (lv' := [(6, .int 0), (5, .ref (a 8 (Int32.toNatClampNeg a1))), (0, .ref o), (1, .int a1), (2, .int a2), (3, .int a3), (4, .int a4)]) hx hb dX7_sorts_63 hl (by decide) rfl (fun ls hl => ?_)
            refine lv_iconst (v := 0) hx hb dX7_sorts_65 (by decide) ?_
            refine lv_istore (lv' := [(7, .int 0), (6, .int 0), (5, .ref (a 8 (Int32.toNatClampNeg a1))), (0, .ref o), (1, .int a1), (2, .int a2), (3, .int a3), (4, .int a4)]) hx hb dX7_sorts_66 hl (by decide) rfl (fun ls hl => ?_)
            refine lp_go (P := fun (t10 : Int32 × Int32 × MS × MS × MS × MS × MS × MS × MS × (Nat → MS) × (Nat → MS) × MS × MS) => ∀ (H : Heap) (locs : List Loc) (ls : Array Slot), GM g A s.heap H locs [wX7 g o a nw t10.2.2.1, wX2 g (a 0 0) (a 1) t10.2.2.2.1, wX2 g (a 0 1) (a 2) t10.2.2.2.2.1, wX0 g (a 0 3) (a 3) t10.2.2.2.2.2.1, wYs g a nw t10.2.2.2.2.2.2.1, wX6 g (a 0 6) (a 6) t10.2.2.2.2.2.2.2.1, wX4 g (a 0 7) (a 9) t10.2.2.2.2.2.2.2.2.1, wTs g a t10.2.2.2.2.2.2.2.2.2.1, wSs g a t10.2.2.2.2.2.2.2.2.2.2.1, wX1 g (a 0 11) (a 5) t10.2.2.2.2.2.2.2.2.2.2.2.1, wF g (a 5 3) 6 t10.2.2.2.2.2.2.2.2.2.2.2.2] → lv_has ls 9 [(0, .ref o), (3, .int a3), (4, .int a4), (5, .ref (a 8 (Int32.toNatClampNeg a1))), (6, .int t10.1), (7, .int t10.2.1)] → W p l e rmX7_sorts s m args below meth c9 H locs 0 0 Q (F0 m 68 ls [])) hf (fun K11 hK11 t10 hf H locs ls hG hl => ?_) _ _ _ hG (lv_sub hl [3, 6, 7, 2, 1, 0] rfl)
            refine lv_iload hx hb dX7_sorts_68 (lv_at hl 5 rfl) ?_
            refine lv_iload hx hb dX7_sorts_70 (lv_at hl 2 rfl) ?_
            refine lv_icmp_ge (tgt := 145) hx hb dX7_sorts_72 (by decide) (fun hc12 => ?_) (fun hc12 => ?_)
            · replace hf := ite_t hf hc12
              refine lv_iload hx hb dX7_sorts_145 (lv_at hl 4 rfl) ?_
              have hq9 := Option.some.inj hf
              subst hq9
              subst hQ
              exact r_iret X hG dX7_sorts_147
            · replace hf := ite_f hf hc12
              refine lv_iload_n hx hb dX7_sorts_75 rfl (lv_at hl 1 rfl) ?_
              refine lv_iconst (v := 2) hx hb dX7_sorts_76 (by decide) ?_
              refine lv_iload hx hb dX7_sorts_77 (lv_at hl 5 rfl) ?_
              refine lv_imul hx hb dX7_sorts_79 ?_
              refine lv_iadd hx hb dX7_sorts_80 ?_
              refine r_bni hf (fun x13 hf => ?_)
              refine lv_istore (lv' := [(8, .int x13), (0, .ref o), (3, .int a3), (4, .int a4), (5, .ref (a 8 (Int32.toNatClampNeg a1))), (6, .int t10.1), (7, .int t10.2.1)]) hx hb dX7_sorts_81 hl (by decide) rfl (fun ls hl => ?_)
              refine lv_aload hx hb dX7_sorts_83 (lv_at hl 4 rfl) ?_
              refine lv_iload hx hb dX7_sorts_85 (lv_at hl 0 rfl) ?_
              obtain ⟨q14, hq14, hf⟩ := cl_inv hf
              refine r_callVi (bc := [wX3 g (a 8 (Int32.toNatClampNeg a1)) (a (30 + (Int32.toNatClampNeg a1))) (t10.2.2.2.2.2.2.2.2.2.2.1 (Int32.toNatClampNeg a1))]) (br := [wX7 g o a nw t10.2.2.1, wX2 g (a 0 0) (a 1) t10.2.2.2.1, wX2 g (a 0 1) (a 2) t10.2.2.2.2.1, wX0 g (a 0 3) (a 3) t10.2.2.2.2.2.1, wYs g a nw t10.2.2.2.2.2.2.1, wX6 g (a 0 6) (a 6) t10.2.2.2.2.2.2.2.1, wX4 g (a 0 7) (a 9) t10.2.2.2.2.2.2.2.2.1, wTs g a t10.2.2.2.2.2.2.2.2.2.1, wSsR g a t10.2.2.2.2.2.2.2.2.2.2.1 (Int32.toNatClampNeg a1), wX1 g (a 0 11) (a 5) t10.2.2.2.2.2.2.2.2.2.2.2.1, wF g (a 5 3) 6 t10.2.2.2.2.2.2.2.2.2.2.2.2]) (bs' := [wX7 g o a nw t10.2.2.1, wX2 g (a 0 0) (a 1) t10.2.2.2.1, wX2 g (a 0 1) (a 2) t10.2.2.2.2.1, wX0 g (a 0 3) (a 3) t10.2.2.2.2.2.1, wYs g a nw t10.2.2.2.2.2.2.1, wX6 g (a 0 6) (a 6) t10.2.2.2.2.2.2.2.1, wX4 g (a 0 7) (a 9) t10.2.2.2.2.2.2.2.2.1, wTs g a t10.2.2.2.2.2.2.2.2.2.1, wSs g a t10.2.2.2.2.2.2.2.2.2.2.1, wX1 g (a 0 11) (a 5) t10.2.2.2.2.2.2.2.2.2.2.2.1, wF g (a 5 3) 6 t10.2.2.2.2.2.2.2.2.2.2.2.2]) (As := [.int x13]) (rest := []) X hG hl.1 (c_X3_has g l (a 8 (Int32.toNatClampNeg a1)) (a (30 + (Int32.toNatClampNeg a1))) n x13 (t10.2.2.2.2.2.2.2.2.2.2.1 (Int32.toNatClampNeg a1)) q14 hq14) ((focus_perm 8 rfl (S_focus (ib_lt hb7))).trans (blk_perm2 [8, 0, 1, 2, 3, 4, 5, 6, 7, 9, 10, 11] 12 rfl rfl (by decide)).flatten) ((blk_perm2 [1, 2, 3, 4, 5, 6, 7, 8, 0, 9, 10, 11] 12 rfl rfl (by decide)).flatten.trans (focus_perm 8 rfl (S_focus (ib_lt hb7))).symm) lk_X3_has lv_X3_has ml_7_251 (j := 8) (k := (2 * (Int32.toNatClampNeg a1))) rfl (S_get (ib_lt hb7)) rfl rfl rfl ⟨Nat.le_of_ble_eq_true rfl, Nat.le_of_ble_eq_true rfl⟩ rfl rfl (Nat.le_of_ble_eq_true rfl) ⟨Nat.zero_le _, Nat.zero_le _⟩ dX7_sorts_87 (fun H locs hG => ?_)
              refine lv_if_eq (tgt := 105) hx hb dX7_sorts_90 (by decide) (fun hc15 => ?_) (fun hc15 => ?_)
              · replace hf := ite_t hf hc15
                refine lv_bipush (v := (-12)) hx hb dX7_sorts_105 (by decide) ?_
                have hq9 := Option.some.inj hf
                subst hq9
                subst hQ
                exact r_iret X hG dX7_sorts_107
              · replace hf := ite_f hf hc15
                refine lv_aload hx hb dX7_sorts_93 (lv_at hl 4 rfl) ?_
                refine lv_iload hx hb dX7_sorts_95 (lv_at hl 0 rfl) ?_
                refine lv_iconst (v := 1) hx hb dX7_sorts_97 (by decide) ?_
                refine lv_iadd hx hb dX7_sorts_98 ?_
                obtain ⟨q16, hq16, hf⟩ := cl_inv hf
                refine r_callVi (bc := [wX3 g (a 8 (Int32.toNatClampNeg a1)) (a (30 + (Int32.toNatClampNeg a1))) (t10.2.2.2.2.2.2.2.2.2.2.1 (Int32.toNatClampNeg a1))]) (br := [wX7 g o a nw t10.2.2.1, wX2 g (a 0 0) (a 1) t10.2.2.2.1, wX2 g (a 0 1) (a 2) t10.2.2.2.2.1, wX0 g (a 0 3) (a 3) t10.2.2.2.2.2.1, wYs g a nw t10.2.2.2.2.2.2.1, wX6 g (a 0 6) (a 6) t10.2.2.2.2.2.2.2.1, wX4 g (a 0 7) (a 9) t10.2.2.2.2.2.2.2.2.1, wTs g a t10.2.2.2.2.2.2.2.2.2.1, wSsR g a t10.2.2.2.2.2.2.2.2.2.2.1 (Int32.toNatClampNeg a1), wX1 g (a 0 11) (a 5) t10.2.2.2.2.2.2.2.2.2.2.2.1, wF g (a 5 3) 6 t10.2.2.2.2.2.2.2.2.2.2.2.2]) (bs' := [wX7 g o a nw t10.2.2.1, wX2 g (a 0 0) (a 1) t10.2.2.2.1, wX2 g (a 0 1) (a 2) t10.2.2.2.2.1, wX0 g (a 0 3) (a 3) t10.2.2.2.2.2.1, wYs g a nw t10.2.2.2.2.2.2.1, wX6 g (a 0 6) (a 6) t10.2.2.2.2.2.2.2.1, wX4 g (a 0 7) (a 9) t10.2.2.2.2.2.2.2.2.1, wTs g a t10.2.2.2.2.2.2.2.2.2.1, wSs g a t10.2.2.2.2.2.2.2.2.2.2.1, wX1 g (a 0 11) (a 5) t10.2.2.2.2.2.2.2.2.2.2.2.1, wF g (a 5 3) 6 t10.2.2.2.2.2.2.2.2.2.2.2.2]) (As := [.int (x13 + 1)]) (rest := []) X hG hl.1 (c_X3_has g l (a 8 (Int32.toNatClampNeg a1)) (a (30 + (Int32.toNatClampNeg a1))) n (x13 + 1) (t10.2.2.2.2.2.2.2.2.2.2.1 (Int32.toNatClampNeg a1)) q16 hq16) ((focus_perm 8 rfl (S_focus (ib_lt hb7))).trans (blk_perm2 [8, 0, 1, 2, 3, 4, 5, 6, 7, 9, 10, 11] 12 rfl rfl (by decide)).flatten) ((blk_perm2 [1, 2, 3, 4, 5, 6, 7, 8, 0, 9, 10, 11] 12 rfl rfl (by decide)).flatten.trans (focus_perm 8 rfl (S_focus (ib_lt hb7))).symm) lk_X3_has lv_X3_has ml_7_251 (j := 8) (k := (2 * (Int32.toNatClampNeg a1))) rfl (S_get (ib_lt hb7)) rfl rfl rfl ⟨Nat.le_of_ble_eq_true rfl, Nat.le_of_ble_eq_true rfl⟩ rfl rfl (Nat.le_of_ble_eq_true rfl) ⟨Nat.zero_le _, Nat.zero_le _⟩ dX7_sorts_99 (fun H locs hG => ?_)
                refine lv_if_ne (tgt := 108) hx hb dX7_sorts_102 (by decide) (fun hc17 => ?_) (fun hc17 => ?_)
                · replace hf := ite_f hf hc17
                  refine lv_aload_n hx hb dX7_sorts_108 rfl (lv_at hl 1 rfl) ?_
                  refine G_7_10 X hG 0 rfl dX7_sorts_109 ?_
                  refine lv_aload hx hb dX7_sorts_112 (lv_at hl 4 rfl) ?_
                  refine r_get X hG 8 (2 * (Int32.toNatClampNeg a1)) rfl (S_get (ib_lt hb7)) rfl 2 (by decide) inX3 (TW_at 441 (by decide +kernel) (by decide +kernel)) rfl dX7_sorts_114 ?_
                  refine lv_iload hx hb dX7_sorts_117 (lv_at hl 0 rfl) ?_
                  refine r_iald X hG 8 (2 * (Int32.toNatClampNeg a1) + 1) rfl (S_get1 (ib_lt hb7)) hf dX7_sorts_119 (fun x18 hf => ?_)
                  refine lv_aload hx hb dX7_sorts_120 (lv_at hl 4 rfl) ?_
                  refine r_get X hG 8 (2 * (Int32.toNatClampNeg a1)) rfl (S_get (ib_lt hb7)) rfl 2 (by decide) inX3 (TW_at 441 (by decide +kernel) (by decide +kernel)) rfl dX7_sorts_122 ?_
                  refine lv_iload hx hb dX7_sorts_125 (lv_at hl 0 rfl) ?_
                  refine lv_iconst (v := 1) hx hb dX7_sorts_127 (by decide) ?_
                  refine lv_iadd hx hb dX7_sorts_128 ?_
                  refine r_iald X hG 8 (2 * (Int32.toNatClampNeg a1) + 1) rfl (S_get1 (ib_lt hb7)) hf dX7_sorts_129 (fun x19 hf => ?_)
                  obtain ⟨q20, hq20, hf⟩ := cl_inv hf
                  refine r_callVi (bc := [wX2 g (a 0 0) (a 1) t10.2.2.2.1]) (br := [wX7 g o a nw t10.2.2.1, wX2 g (a 0 1) (a 2) t10.2.2.2.2.1, wX0 g (a 0 3) (a 3) t10.2.2.2.2.2.1, wYs g a nw t10.2.2.2.2.2.2.1, wX6 g (a 0 6) (a 6) t10.2.2.2.2.2.2.2.1, wX4 g (a 0 7) (a 9) t10.2.2.2.2.2.2.2.2.1, wTs g a t10.2.2.2.2.2.2.2.2.2.1, wSs g a t10.2.2.2.2.2.2.2.2.2.2.1, wX1 g (a 0 11) (a 5) t10.2.2.2.2.2.2.2.2.2.2.2.1, wF g (a 5 3) 6 t10.2.2.2.2.2.2.2.2.2.2.2.2]) (bs' := [wX7 g o a nw t10.2.2.1, wX2 g (a 0 0) (a 1) q20.2, wX2 g (a 0 1) (a 2) t10.2.2.2.2.1, wX0 g (a 0 3) (a 3) t10.2.2.2.2.2.1, wYs g a nw t10.2.2.2.2.2.2.1, wX6 g (a 0 6) (a 6) t10.2.2.2.2.2.2.2.1, wX4 g (a 0 7) (a 9) t10.2.2.2.2.2.2.2.2.1, wTs g a t10.2.2.2.2.2.2.2.2.2.1, wSs g a t10.2.2.2.2.2.2.2.2.2.2.1, wX1 g (a 0 11) (a 5) t10.2.2.2.2.2.2.2.2.2.2.2.1, wF g (a 5 3) 6 t10.2.2.2.2.2.2.2.2.2.2.2.2]) (As := [.int x18, .int x19]) (rest := []) X hG hl.1 (c_X2_addSort g l (a 0 0) (a 1) n x18 x19 t10.2.2.2.1 q20 hq20) ((blk_perm2 [1, 0, 2, 3, 4, 5, 6, 7, 8, 9, 10] 11 rfl rfl (by decide)).flatten) ((blk_perm2 [1, 0, 2, 3, 4, 5, 6, 7, 8, 9, 10] 11 rfl rfl (by decide)).flatten) lk_X2_addSort lv_X2_addSort ml_7_102 (j := 1) (k := 0) rfl rfl rfl rfl rfl ⟨Nat.le_of_ble_eq_true rfl, Nat.le_of_ble_eq_true rfl⟩ rfl rfl (Nat.le_of_ble_eq_true rfl) ⟨Nat.zero_le _, Nat.zero_le _⟩ dX7_sorts_130 (fun H locs hG => ?_)
                  refine jn_use (P := fun (t21 : Int32) => ∀ (H : Heap) (locs : List Loc) (ls : Array Slot), GM g A s.heap H locs [wX7 g o a nw t10.2.2.1, wX2 g (a 0 0) (a 1) q20.2, wX2 g (a 0 1) (a 2) t10.2.2.2.2.1, wX0 g (a 0 3) (a 3) t10.2.2.2.2.2.1, wYs g a nw t10.2.2.2.2.2.2.1, wX6 g (a 0 6) (a 6) t10.2.2.2.2.2.2.2.1, wX4 g (a 0 7) (a 9) t10.2.2.2.2.2.2.2.2.1, wTs g a t10.2.2.2.2.2.2.2.2.2.1, wSs g a t10.2.2.2.2.2.2.2.2.2.2.1, wX1 g (a 0 11) (a 5) t10.2.2.2.2.2.2.2.2.2.2.2.1, wF g (a 5 3) 6 t10.2.2.2.2.2.2.2.2.2.2.2.2] → lv_has ls 9 [(0, .ref o), (3, .int a3), (4, .int a4), (5, .ref (a 8 (Int32.toNatClampNeg a1))), (6, .int t21), (7, .int t10.2.1)] → W p l e rmX7_sorts s m args below meth c9 H locs 0 0 Q (F0 m 139 ls [])) hf (fun t21 hf H locs ls hG hl => ?_) (fun K22 hK22 hf => ?_)
                  · refine lv_iinc (v := (t10.2.1 + 1)) (lv' := [(7, .int (t10.2.1 + 1)), (0, .ref o), (3, .int a3), (4, .int a4), (5, .ref (a 8 (Int32.toNatClampNeg a1))), (6, .int t21)]) hx hb dX7_sorts_139 hl (k := 5) rfl rfl (by decide) rfl (fun ls hl => ?_)
                    refine lv_goto (tgt := 68) hx hb dX7_sorts_142 (by decide) ?_
                    exact hK11 _ hf _ _ _ hG (lv_sub hl [1, 2, 3, 4, 5, 0] rfl)
                  refine lv_if_lt (tgt := 139) hx hb dX7_sorts_133 (by decide) (fun hc23 => ?_) (fun hc23 => ?_)
                  · replace hf := ite_t hf hc23
                    exact hK22 _ hf _ _ _ hG (lv_sub hl [1, 2, 3, 4, 5, 6] rfl)
                  · replace hf := ite_f hf hc23
                    refine lv_iinc (v := (t10.1 + 1)) (lv' := [(6, .int (t10.1 + 1)), (8, .int x13), (0, .ref o), (3, .int a3), (4, .int a4), (5, .ref (a 8 (Int32.toNatClampNeg a1))), (7, .int t10.2.1)]) hx hb dX7_sorts_136 hl (k := 5) rfl rfl (by decide) rfl (fun ls hl => ?_)
                    exact hK22 _ hf _ _ _ hG (lv_sub hl [2, 3, 4, 5, 0, 6] rfl)
                · replace hf := ite_t hf hc17
                  refine lv_bipush (v := (-12)) hx hb dX7_sorts_105 (by decide) ?_
                  have hq9 := Option.some.inj hf
                  subst hq9
                  subst hQ
                  exact r_iret X hG dX7_sorts_107
          · replace hf := ite_f hf hc9
            refine lv_bipush (v := (-13)) hx hb dX7_sorts_59 (by decide) ?_
            have hq9 := Option.some.inj hf
            subst hq9
            subst hQ
            exact r_iret X hG dX7_sorts_61
        · replace hf := ite_t hf hc8
          refine lv_bipush (v := (-11)) hx hb dX7_sorts_47 (by decide) ?_
          have hq9 := Option.some.inj hf
          subst hq9
          subst hQ
          exact r_iret X hG dX7_sorts_49
      · replace hf := ite_t hf hc6
        refine lv_bipush (v := (-2)) hx hb dX7_sorts_27 (by decide) ?_
        have hq9 := Option.some.inj hf
        subst hq9
        subst hQ
        exact r_iret X hG dX7_sorts_29
