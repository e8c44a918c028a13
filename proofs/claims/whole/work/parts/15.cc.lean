def rmX7_between : Room := { frames := 0, cells := 0, slots := 0, locals := 0 }
set_option maxHeartbeats 4000000 in
set_option maxRecDepth 100000 in
theorem c_X7_between (g : GT) (l : Launch) (n : Nat) (a1 : Int32) (a2 : Int32) (a3 : Int32) (q : Int32) (hf : f_X7_between n a1 a2 a3 = some q) : CI g l yX7_between cX7_between 3 (some .boolean) rmX7_between [.int a1, .int a2, .int a3] [] q [] := by
  refine CI_intro RX7 rfl (by decide +kernel) (Nat.le_of_ble_eq_true rfl) ?_
  intro p e s m args below meth c A ls Q hQ X hl hG
  have hl : lv_has ls 3 [(0, .int a1), (1, .int a2), (2, .int a3)] := hl
  have hx := X.1
  have hb := X.2.1
  have hown := X.2.2.2.1
  unfold f_X7_between at hf
  refine lv_iload_n hx hb dX7_between_0 rfl (lv_at hl 1 rfl) ?_
  refine lv_iload_n hx hb dX7_between_1 rfl (lv_at hl 0 rfl) ?_
  refine lv_icmp_gt (tgt := 14) hx hb dX7_between_2 (by decide) (fun hc1 => ?_) (fun hc1 => ?_)
  · replace hf := ite_t hf hc1
    refine lv_iconst (v := 0) hx hb dX7_between_14 (by decide) ?_
    obtain ⟨hz, hf⟩ := ck_inv hf
    have hq9 := Option.some.inj hf
    subst hq9
    subst hQ
    exact r_zret X hG (of_decide_eq_true hz) dX7_between_15
  · replace hf := ite_f hf hc1
    refine lv_iload_n hx hb dX7_between_5 rfl (lv_at hl 0 rfl) ?_
    refine lv_iload_n hx hb dX7_between_6 rfl (lv_at hl 2 rfl) ?_
    refine lv_icmp_gt (tgt := 14) hx hb dX7_between_7 (by decide) (fun hc2 => ?_) (fun hc2 => ?_)
    · replace hf := ite_t hf hc2
      refine lv_iconst (v := 0) hx hb dX7_between_14 (by decide) ?_
      obtain ⟨hz, hf⟩ := ck_inv hf
      have hq9 := Option.some.inj hf
      subst hq9
      subst hQ
      exact r_zret X hG (of_decide_eq_true hz) dX7_between_15
    · replace hf := ite_f hf hc2
      refine lv_iconst (v := 1) hx hb dX7_between_10 (by decide) ?_
      refine lv_goto (tgt := 15) hx hb dX7_between_11 (by decide) ?_
      obtain ⟨hz, hf⟩ := ck_inv hf
      have hq9 := Option.some.inj hf
      subst hq9
      subst hQ
      exact r_zret X hG (of_decide_eq_true hz) dX7_between_15
def rmX7_isMinute : Room := { frames := 1, cells := 0, slots := 0, locals := 22 }
set_option maxHeartbeats 4000000 in
set_option maxRecDepth 100000 in
theorem c_X7_isMinute (g : GT) (l : Launch) (n : Nat) (a1 : Int32) (q : Int32) (hf : f_X7_isMinute n a1 = some q) : CI g l yX7_isMinute cX7_isMinute 1 (some .boolean) rmX7_isMinute [.int a1] [] q [] := by
  refine CI_intro RX7 rfl (by decide +kernel) (Nat.le_of_ble_eq_true rfl) ?_
  intro p e s m args below meth c A ls Q hQ X hl hG
  have hl : lv_has ls 1 [(0, .int a1)] := hl
  have hx := X.1
  have hb := X.2.1
  have hown := X.2.2.2.1
  unfold f_X7_isMinute at hf
  refine lv_iload_n hx hb dX7_isMinute_0 rfl (lv_at hl 0 rfl) ?_
  refine lv_iconst (v := 0) hx hb dX7_isMinute_1 (by decide) ?_
  refine lv_bipush (v := 119) hx hb dX7_isMinute_2 (by decide) ?_
  obtain ⟨q1, hq1, hf⟩ := cl_inv hf
  refine r_callSi (bc := []) (br := []) (bs' := []) (As := [.int a1, .int 0, .int 119]) (rest := []) X hG hl.1 (c_X7_between g l n a1 0 119 q1 hq1) (List.Perm.refl _) (List.Perm.refl _) lk_X7_between ls_X7_between ml_7_106 rfl rfl ⟨Nat.le_of_ble_eq_true rfl, Nat.le_of_ble_eq_true rfl⟩ rfl rfl (Nat.le_of_ble_eq_true rfl) ⟨Nat.zero_le _, Nat.zero_le _⟩ dX7_isMinute_4 (fun H locs hG => ?_)
  obtain ⟨hz, hf⟩ := ck_inv hf
  have hq9 := Option.some.inj hf
  subst hq9
  subst hQ
  exact r_zret X hG (of_decide_eq_true hz) dX7_isMinute_7
def rmX7_isSheet : Room := { frames := 1, cells := 0, slots := 0, locals := 22 }
set_option maxHeartbeats 4000000 in
set_option maxRecDepth 100000 in
theorem c_X7_isSheet (g : GT) (l : Launch) (n : Nat) (a1 : Int32) (q : Int32) (hf : f_X7_isSheet n a1 = some q) : CI g l yX7_isSheet cX7_isSheet 1 (some .boolean) rmX7_isSheet [.int a1] [] q [] := by
  refine CI_intro RX7 rfl (by decide +kernel) (Nat.le_of_ble_eq_true rfl) ?_
  intro p e s m args below meth c A ls Q hQ X hl hG
  have hl : lv_has ls 1 [(0, .int a1)] := hl
  have hx := X.1
  have hb := X.2.1
  have hown := X.2.2.2.1
  unfold f_X7_isSheet at hf
  refine lv_iload_n hx hb dX7_isSheet_0 rfl (lv_at hl 0 rfl) ?_
  refine lv_iconst (v := 0) hx hb dX7_isSheet_1 (by decide) ?_
  refine lv_iconst (v := 3) hx hb dX7_isSheet_2 (by decide) ?_
  obtain ⟨q1, hq1, hf⟩ := cl_inv hf
  refine r_callSi (bc := []) (br := []) (bs' := []) (As := [.int a1, .int 0, .int 3]) (rest := []) X hG hl.1 (c_X7_between g l n a1 0 3 q1 hq1) (List.Perm.refl _) (List.Perm.refl _) lk_X7_between ls_X7_between ml_7_106 rfl rfl ⟨Nat.le_of_ble_eq_true rfl, Nat.le_of_ble_eq_true rfl⟩ rfl rfl (Nat.le_of_ble_eq_true rfl) ⟨Nat.zero_le _, Nat.zero_le _⟩ dX7_isSheet_3 (fun H locs hG => ?_)
  obtain ⟨hz, hf⟩ := ck_inv hf
  have hq9 := Option.some.inj hf
  subst hq9
  subst hQ
  exact r_zret X hG (of_decide_eq_true hz) dX7_isSheet_6
def rmX7_bounded : Room := { frames := 1, cells := 0, slots := 0, locals := 30 }
set_option maxHeartbeats 4000000 in
set_option maxRecDepth 100000 in
theorem c_X7_bounded (g : GT) (l : Launch) (n : Nat) (a1 : Int32) (a2 : Int32) (a3 : Int32) (q : Int32) (hf : f_X7_bounded n a1 a2 a3 = some q) : CI g l yX7_bounded cX7_bounded 3 (some .int) rmX7_bounded [.int a1, .int a2, .int a3] [] q [] := by
  refine CI_intro RX7 rfl (by decide +kernel) (Nat.le_of_ble_eq_true rfl) ?_
  intro p e s m args below meth c A ls Q hQ X hl hG
  have hl : lv_has ls 3 [(0, .int a1), (1, .int a2), (2, .int a3)] := hl
  have hx := X.1
  have hb := X.2.1
  have hown := X.2.2.2.1
  unfold f_X7_bounded at hf
  refine lv_iload_n hx hb dX7_bounded_0 rfl (lv_at hl 1 rfl) ?_
  refine lv_iload_n hx hb dX7_bounded_1 rfl (lv_at hl 2 rfl) ?_
  refine lv_iload_n hx hb dX7_bounded_2 rfl (lv_at hl 0 rfl) ?_
  refine r_mmin (idx := 272) X hl.1 (TW_at 620 (by decide +kernel) (by decide +kernel)) (TW_at 621 (by decide +kernel) (by decide +kernel)) (TW_at 73 (by decide +kernel) (by decide +kernel)) (TW_at 622 (by decide +kernel) (by decide +kernel)) (Nat.le_of_ble_eq_true rfl) (Nat.le_of_ble_eq_true rfl) ⟨Nat.zero_le _, Nat.zero_le _⟩ dX7_bounded_3 ?_
  refine r_mmax (idx := 277) X hl.1 (TW_at 623 (by decide +kernel) (by decide +kernel)) (TW_at 624 (by decide +kernel) (by decide +kernel)) (TW_at 73 (by decide +kernel) (by decide +kernel)) (TW_at 625 (by decide +kernel) (by decide +kernel)) (Nat.le_of_ble_eq_true rfl) (Nat.le_of_ble_eq_true rfl) ⟨Nat.zero_le _, Nat.zero_le _⟩ dX7_bounded_6 ?_
  have hq9 := Option.some.inj hf
  subst hq9
  subst hQ
  exact r_iret X hG dX7_bounded_9
def rmX7_fits : Room := { frames := 1, cells := 0, slots := 0, locals := 22 }
set_option maxHeartbeats 4000000 in
set_option maxRecDepth 100000 in
theorem c_X7_fits (g : GT) (l : Launch) (n : Nat) (a1 : Int32) (a2 : Int32) (q : Int32) (hf : f_X7_fits n a1 a2 = some q) : CI g l yX7_fits cX7_fits 2 (some .boolean) rmX7_fits [.int a1, .int a2] [] q [] := by
  refine CI_intro RX7 rfl (by decide +kernel) (Nat.le_of_ble_eq_true rfl) ?_
  intro p e s m args below meth c A ls Q hQ X hl hG
  have hl : lv_has ls 2 [(0, .int a1), (1, .int a2)] := hl
  have hx := X.1
  have hb := X.2.1
  have hown := X.2.2.2.1
  unfold f_X7_fits at hf
  refine lv_iload_n hx hb dX7_fits_0 rfl (lv_at hl 0 rfl) ?_
  refine lv_iconst (v := 0) hx hb dX7_fits_1 (by decide) ?_
  refine lv_iconst (v := 5) hx hb dX7_fits_2 (by decide) ?_
  obtain ⟨q1, hq1, hf⟩ := cl_inv hf
  refine r_callSi (bc := []) (br := []) (bs' := []) (As := [.int a1, .int 0, .int 5]) (rest := []) X hG hl.1 (c_X7_between g l n a1 0 5 q1 hq1) (List.Perm.refl _) (List.Perm.refl _) lk_X7_between ls_X7_between ml_7_106 rfl rfl ⟨Nat.le_of_ble_eq_true rfl, Nat.le_of_ble_eq_true rfl⟩ rfl rfl (Nat.le_of_ble_eq_true rfl) ⟨Nat.zero_le _, Nat.zero_le _⟩ dX7_fits_3 (fun H locs hG => ?_)
  refine lv_if_eq (tgt := 30) hx hb dX7_fits_6 (by decide) (fun hc2 => ?_) (fun hc2 => ?_)
  · replace hf := ite_t hf hc2
    refine lv_iconst (v := 0) hx hb dX7_fits_30 (by decide) ?_
    obtain ⟨hz, hf⟩ := ck_inv hf
    have hq9 := Option.some.inj hf
    subst hq9
    subst hQ
    exact r_zret X hG (of_decide_eq_true hz) dX7_fits_31
  · replace hf := ite_f hf hc2
    refine lv_iload_n hx hb dX7_fits_9 rfl (lv_at hl 1 rfl) ?_
    refine r_gets X hG X.2.2.2.2.2.1.2.2.1.1 (TW_at 499 (by decide +kernel) (by decide +kernel)) dX7_fits_10 ?_
    refine lv_iload_n hx hb dX7_fits_13 rfl (lv_at hl 0 rfl) ?_
    refine r_sti X hG X.2.2.2.2.2.1.2.2.1.2 st_least_eq hf dX7_fits_14 (fun x3 hf => ?_)
    refine r_gets X hG X.2.2.2.2.2.1.2.2.2.1.1 (TW_at 501 (by decide +kernel) (by decide +kernel)) dX7_fits_15 ?_
    refine lv_iload_n hx hb dX7_fits_18 rfl (lv_at hl 0 rfl) ?_
    refine r_sti X hG X.2.2.2.2.2.1.2.2.2.1.2 st_most_eq hf dX7_fits_19 (fun x4 hf => ?_)
    obtain ⟨q5, hq5, hf⟩ := cl_inv hf
    refine r_callSi (bc := []) (br := []) (bs' := []) (As := [.int a2, .int x3, .int x4]) (rest := []) X hG hl.1 (c_X7_between g l n a2 x3 x4 q5 hq5) (List.Perm.refl _) (List.Perm.refl _) lk_X7_between ls_X7_between ml_7_106 rfl rfl ⟨Nat.le_of_ble_eq_true rfl, Nat.le_of_ble_eq_true rfl⟩ rfl rfl (Nat.le_of_ble_eq_true rfl) ⟨Nat.zero_le _, Nat.zero_le _⟩ dX7_fits_20 (fun H locs hG => ?_)
    refine lv_if_eq (tgt := 30) hx hb dX7_fits_23 (by decide) (fun hc6 => ?_) (fun hc6 => ?_)
    · replace hf := ite_t hf hc6
      refine lv_iconst (v := 0) hx hb dX7_fits_30 (by decide) ?_
      obtain ⟨hz, hf⟩ := ck_inv hf
      have hq9 := Option.some.inj hf
      subst hq9
      subst hQ
      exact r_zret X hG (of_decide_eq_true hz) dX7_fits_31
    · replace hf := ite_f hf hc6
      refine lv_iconst (v := 1) hx hb dX7_fits_26 (by decide) ?_
      refine lv_goto (tgt := 31) hx hb dX7_fits_27 (by decide) ?_
      obtain ⟨hz, hf⟩ := ck_inv hf
      have hq9 := Option.some.inj hf
      subst hq9
      subst hQ
      exact r_zret X hG (of_decide_eq_true hz) dX7_fits_31
def rmX0_roomOf : Room := { frames := 0, cells := 0, slots := 0, locals := 0 }
set_option maxHeartbeats 4000000 in
set_option maxRecDepth 100000 in
theorem c_X0_roomOf (g : GT) (l : Launch) (o0 : Nat) (ad0 : Nat → Nat) (n : Nat) (a1 : Int32) (a2 : Int32) (s0 : MS) (q : Int32) (hf : f_X0_roomOf n a1 a2 s0 = some q) : CI g l yX0_roomOf cX0_roomOf 5 (some .int) rmX0_roomOf [.ref o0, .int a1, .int a2] [wX0 g o0 ad0 s0] q [wX0 g o0 ad0 s0] := by
  refine CI_intro RX0 rfl (by decide +kernel) (Nat.le_of_ble_eq_true rfl) ?_
  intro p e s m args below meth c A ls Q hQ X hl hG
  have hl : lv_has ls 5 [(0, .ref o0), (1, .int a1), (2, .int a2)] := hl
  have hx := X.1
  have hb := X.2.1
  have hown := X.2.2.2.1
  unfold f_X0_roomOf at hf
  refine lv_iload_n hx hb dX0_roomOf_0 rfl (lv_at hl 1 rfl) ?_
  refine lv_aload_n hx hb dX0_roomOf_1 rfl (lv_at hl 0 rfl) ?_
  refine G_0_9 X hG 0 rfl dX0_roomOf_2 ?_
  refine jn_use (P := fun (t1 : Int32) => ∀ (H : Heap) (locs : List Loc) (ls : Array Slot), GM g A s.heap H locs [wX0 g o0 ad0 s0] → lv_has ls 5 [(0, .ref o0), (2, .int a2)] → W p l e rmX0_roomOf s m args below meth c H locs 0 0 Q (F0 m 13 ls [.int t1])) hf (fun t1 hf H locs ls hG hl => ?_) (fun K2 hK2 hf => ?_)
  · refine lv_istore_n (lv' := [(3, .int t1), (0, .ref o0), (2, .int a2)]) hx hb dX0_roomOf_13 rfl hl (by decide) rfl (fun ls hl => ?_)
    refine lv_iload_n hx hb dX0_roomOf_14 rfl (lv_at hl 2 rfl) ?_
    refine lv_aload_n hx hb dX0_roomOf_15 rfl (lv_at hl 1 rfl) ?_
    refine G_0_22 X hG 0 rfl dX0_roomOf_16 ?_
    refine lv_iload_n hx hb dX0_roomOf_19 rfl (lv_at hl 0 rfl) ?_
    refine r_iald X hG 0 3 rfl rfl hf dX0_roomOf_20 (fun x3 hf => ?_)
    refine lv_isub hx hb dX0_roomOf_21 ?_
    refine r_bni hf (fun x4 hf => ?_)
    refine lv_istore (lv' := [(4, .int x4), (3, .int t1), (0, .ref o0), (2, .int a2)]) hx hb dX0_roomOf_22 hl (by decide) rfl (fun ls hl => ?_)
    refine lv_iload hx hb dX0_roomOf_24 (lv_at hl 0 rfl) ?_
    refine lv_if_lt (tgt := 51) hx hb dX0_roomOf_26 (by decide) (fun hc5 => ?_) (fun hc5 => ?_)
    · replace hf := ite_t hf hc5
      refine lv_iconst (v := 0) hx hb dX0_roomOf_51 (by decide) ?_
      have hq9 := Option.some.inj hf
      subst hq9
      subst hQ
      exact r_iret X hG dX0_roomOf_52
    · replace hf := ite_f hf hc5
      refine lv_aload_n hx hb dX0_roomOf_29 rfl (lv_at hl 2 rfl) ?_
      refine G_0_19 X hG 0 rfl dX0_roomOf_30 ?_
      refine lv_iload_n hx hb dX0_roomOf_33 rfl (lv_at hl 1 rfl) ?_
      refine r_iald X hG 0 2 rfl rfl hf dX0_roomOf_34 (fun x6 hf => ?_)
      refine lv_iconst (v := 1) hx hb dX0_roomOf_35 (by decide) ?_
      refine lv_icmp_lt (tgt := 51) hx hb dX0_roomOf_36 (by decide) (fun hc7 => ?_) (fun hc7 => ?_)
      · replace hf := ite_t hf hc7
        refine lv_iconst (v := 0) hx hb dX0_roomOf_51 (by decide) ?_
        have hq9 := Option.some.inj hf
        subst hq9
        subst hQ
        exact r_iret X hG dX0_roomOf_52
      · replace hf := ite_f hf hc7
        refine lv_iload hx hb dX0_roomOf_39 (lv_at hl 0 rfl) ?_
        refine lv_aload_n hx hb dX0_roomOf_41 rfl (lv_at hl 2 rfl) ?_
        refine G_0_19 X hG 0 rfl dX0_roomOf_42 ?_
        refine lv_iload_n hx hb dX0_roomOf_45 rfl (lv_at hl 1 rfl) ?_
        refine r_iald X hG 0 2 rfl rfl hf dX0_roomOf_46 (fun x8 hf => ?_)
        refine r_irem X hf dX0_roomOf_47 (fun hf => ?_)
        refine lv_if_eq (tgt := 53) hx hb dX0_roomOf_48 (by decide) (fun hc9 => ?_) (fun hc9 => ?_)
        · replace hf := ite_t hf hc9
          refine lv_aload_n hx hb dX0_roomOf_53 rfl (lv_at hl 2 rfl) ?_
          refine G_0_15 X hG 0 rfl dX0_roomOf_54 ?_
          refine lv_iload_n hx hb dX0_roomOf_57 rfl (lv_at hl 1 rfl) ?_
          refine r_iald X hG 0 1 rfl rfl hf dX0_roomOf_58 (fun x10 hf => ?_)
          have hq9 := Option.some.inj hf
          subst hq9
          subst hQ
          exact r_iret X hG dX0_roomOf_59
        · replace hf := ite_f hf hc9
          refine lv_iconst (v := 0) hx hb dX0_roomOf_51 (by decide) ?_
          have hq9 := Option.some.inj hf
          subst hq9
          subst hQ
          exact r_iret X hG dX0_roomOf_52
  refine lv_icmp_ge (tgt := 12) hx hb dX0_roomOf_5 (by decide) (fun hc11 => ?_) (fun hc11 => ?_)
  · replace hf := ite_t hf hc11
    refine lv_iconst (v := 0) hx hb dX0_roomOf_12 (by decide) ?_
    exact hK2 _ hf _ _ _ hG (lv_sub hl [0, 2] rfl)
  · replace hf := ite_f hf hc11
    refine lv_iload_n hx hb dX0_roomOf_8 rfl (lv_at hl 1 rfl) ?_
    refine lv_goto (tgt := 13) hx hb dX0_roomOf_9 (by decide) ?_
    exact hK2 _ hf _ _ _ hG (lv_sub hl [0, 2] rfl)
def rmX0_roomIn : Room := { frames := 1, cells := 0, slots := 0, locals := 24 }
set_option maxHeartbeats 4000000 in
set_option maxRecDepth 100000 in
theorem c_X0_roomIn (g : GT) (l : Launch) (o0 : Nat) (ad0 : Nat → Nat) (n : Nat) (a1 : Int32) (s0 : MS) (q : Int32) (hf : f_X0_roomIn n a1 s0 = some q) : CI g l yX0_roomIn cX0_roomIn 4 (some .int) rmX0_roomIn [.ref o0, .int a1] [wX0 g o0 ad0 s0] q [wX0 g o0 ad0 s0] := by
  refine CI_intro RX0 rfl (by decide +kernel) (Nat.le_of_ble_eq_true rfl) ?_
  intro p e s m args below meth c A ls Q hQ X hl hG
  have hl : lv_has ls 4 [(0, .ref o0), (1, .int a1)] := hl
  have hx := X.1
  have hb := X.2.1
  have hown := X.2.2.2.1
  unfold f_X0_roomIn at hf
  refine lv_iconst (v := 0) hx hb dX0_roomIn_0 (by decide) ?_
  refine lv_istore_n (lv' := [(2, .int 0), (0, .ref o0), (1, .int a1)]) hx hb dX0_roomIn_1 rfl hl (by decide) rfl (fun ls hl => ?_)
  refine lv_iconst (v := 0) hx hb dX0_roomIn_2 (by decide) ?_
  refine lv_istore_n (lv' := [(3, .int 0), (2, .int 0), (0, .ref o0), (1, .int a1)]) hx hb dX0_roomIn_3 rfl hl (by decide) rfl (fun ls hl => ?_)
  refine lp_go (P := fun (t1 : Int32 × Int32) => ∀ (H : Heap) (locs : List Loc) (ls : Array Slot), GM g A s.heap H locs [wX0 g o0 ad0 s0] → lv_has ls 4 [(0, .ref o0), (1, .int a1), (2, .int t1.1), (3, .int t1.2)] → W p l e rmX0_roomIn s m args below meth c H locs 0 0 Q (F0 m 4 ls [])) hf (fun K2 hK2 t1 hf H locs ls hG hl => ?_) _ _ _ hG (lv_sub hl [2, 3, 1, 0] rfl)
  refine lv_iload_n hx hb dX0_roomIn_4 rfl (lv_at hl 3 rfl) ?_
  refine lv_aload_n hx hb dX0_roomIn_5 rfl (lv_at hl 0 rfl) ?_
  refine G_0_9 X hG 0 rfl dX0_roomIn_6 ?_
  refine lv_icmp_ge (tgt := 27) hx hb dX0_roomIn_9 (by decide) (fun hc3 => ?_) (fun hc3 => ?_)
  · replace hf := ite_t hf hc3
    refine lv_iload_n hx hb dX0_roomIn_27 rfl (lv_at hl 2 rfl) ?_
    have hq9 := Option.some.inj hf
    subst hq9
    subst hQ
    exact r_iret X hG dX0_roomIn_28
  · replace hf := ite_f hf hc3
    refine lv_iload_n hx hb dX0_roomIn_12 rfl (lv_at hl 2 rfl) ?_
    refine lv_aload_n hx hb dX0_roomIn_13 rfl (lv_at hl 0 rfl) ?_
    refine lv_iload_n hx hb dX0_roomIn_14 rfl (lv_at hl 3 rfl) ?_
    refine lv_iload_n hx hb dX0_roomIn_15 rfl (lv_at hl 1 rfl) ?_
    obtain ⟨q4, hq4, hf⟩ := cl_inv hf
    refine r_callVi (bc := [wX0 g o0 ad0 s0]) (br := []) (bs' := [wX0 g o0 ad0 s0]) (As := [.int t1.2, .int a1]) (rest := [.int t1.1]) X hG hl.1 (c_X0_roomOf g l o0 ad0 n t1.2 a1 s0 q4 hq4) (List.Perm.refl _) (List.Perm.refl _) lk_X0_roomOf lv_X0_roomOf ml_0_25 (j := 0) (k := 0) rfl rfl rfl rfl rfl ⟨Nat.le_of_ble_eq_true rfl, Nat.le_of_ble_eq_true rfl⟩ rfl rfl (Nat.le_of_ble_eq_true rfl) ⟨Nat.zero_le _, Nat.zero_le _⟩ dX0_roomIn_16 (fun H locs hG => ?_)
    refine lv_iadd hx hb dX0_roomIn_19 ?_
    refine r_bni hf (fun x5 hf => ?_)
    refine lv_istore_n (lv' := [(2, .int x5), (0, .ref o0), (1, .int a1), (3, .int t1.2)]) hx hb dX0_roomIn_20 rfl hl (by decide) rfl (fun ls hl => ?_)
    refine lv_iinc (v := (t1.2 + 1)) (lv' := [(3, .int (t1.2 + 1)), (2, .int x5), (0, .ref o0), (1, .int a1)]) hx hb dX0_roomIn_21 hl (k := 3) rfl rfl (by decide) rfl (fun ls hl => ?_)
    refine lv_goto (tgt := 4) hx hb dX0_roomIn_24 (by decide) ?_
    exact hK2 _ hf _ _ _ hG (lv_sub hl [2, 3, 1, 0] rfl)
def rmX0_add : Room := { frames := 0, cells := 0, slots := 0, locals := 0 }
set_option maxHeartbeats 4000000 in
set_option maxRecDepth 100000 in
theorem c_X0_add (g : GT) (l : Launch) (o0 : Nat) (ad0 : Nat → Nat) (n : Nat) (a1 : Int32) (a2 : Int32) (a3 : Int32) (s0 : MS) (q : Int32 × MS) (hf : f_X0_add n a1 a2 a3 s0 = some q) : CI g l yX0_add cX0_add 4 (some .int) rmX0_add [.ref o0, .int a1, .int a2, .int a3] [wX0 g o0 ad0 s0] q.1 [wX0 g o0 ad0 q.2] := by
  refine CI_intro RX0 rfl (by decide +kernel) (Nat.le_of_ble_eq_true rfl) ?_
  intro p e s m args below meth c A ls Q hQ X hl hG
  have hl : lv_has ls 4 [(0, .ref o0), (1, .int a1), (2, .int a2), (3, .int a3)] := hl
  have hx := X.1
  have hb := X.2.1
  have hown := X.2.2.2.1
  unfold f_X0_add at hf
  refine lv_aload_n hx hb dX0_add_0 rfl (lv_at hl 0 rfl) ?_
  refine G_0_9 X hG 0 rfl dX0_add_1 ?_
  refine lv_iconst (v := 4) hx hb dX0_add_4 (by decide) ?_
  refine lv_icmp_lt (tgt := 11) hx hb dX0_add_5 (by decide) (fun hc1 => ?_) (fun hc1 => ?_)
  · replace hf := ite_t hf hc1
    refine lv_aload_n hx hb dX0_add_11 rfl (lv_at hl 0 rfl) ?_
    refine G_0_15 X hG 0 rfl dX0_add_12 ?_
    refine lv_aload_n hx hb dX0_add_15 rfl (lv_at hl 0 rfl) ?_
    refine G_0_9 X hG 0 rfl dX0_add_16 ?_
    refine lv_iload_n hx hb dX0_add_19 rfl (lv_at hl 1 rfl) ?_
    refine r_iast X hG 0 1 rfl rfl hf (fun t => [wX0 g o0 ad0 t]) rfl dX0_add_20 (fun z2 H locs hf hG => ?_)
    refine lv_aload_n hx hb dX0_add_21 rfl (lv_at hl 0 rfl) ?_
    refine G_0_19 X hG 0 rfl dX0_add_22 ?_
    refine lv_aload_n hx hb dX0_add_25 rfl (lv_at hl 0 rfl) ?_
    refine G_0_9 X hG 0 rfl dX0_add_26 ?_
    refine lv_iload_n hx hb dX0_add_29 rfl (lv_at hl 2 rfl) ?_
    refine r_iast X hG 0 2 rfl rfl hf (fun t => [wX0 g o0 ad0 t]) rfl dX0_add_30 (fun z3 H locs hf hG => ?_)
    refine lv_aload_n hx hb dX0_add_31 rfl (lv_at hl 0 rfl) ?_
    refine G_0_22 X hG 0 rfl dX0_add_32 ?_
    refine lv_aload_n hx hb dX0_add_35 rfl (lv_at hl 0 rfl) ?_
    refine G_0_9 X hG 0 rfl dX0_add_36 ?_
    refine lv_iload_n hx hb dX0_add_39 rfl (lv_at hl 3 rfl) ?_
    refine r_iast X hG 0 3 rfl rfl hf (fun t => [wX0 g o0 ad0 t]) rfl dX0_add_40 (fun z4 H locs hf hG => ?_)
    refine lv_aload_n hx hb dX0_add_41 rfl (lv_at hl 0 rfl) ?_
    refine lv_dup hx hb dX0_add_42 rfl ?_
    refine G_0_9 X hG 0 rfl dX0_add_43 ?_
    refine lv_dup_x1 hx hb dX0_add_46 rfl rfl ?_
    refine lv_iconst (v := 1) hx hb dX0_add_47 (by decide) ?_
    refine lv_iadd hx hb dX0_add_48 ?_
    refine P_0_9 X hG 0 rfl hf (fun t => [wX0 g o0 ad0 t]) (fun _ => rfl) dX0_add_49 (fun z5 H locs hf hG => ?_)
    have hq9 := Option.some.inj hf
    subst hq9
    subst hQ
    exact r_iret X hG dX0_add_52
  · replace hf := ite_f hf hc1
    refine lv_bipush (v := (-4)) hx hb dX0_add_8 (by decide) ?_
    have hq9 := Option.some.inj hf
    subst hq9
    subst hQ
    exact r_iret X hG dX0_add_10
def rmX6_callsIn : Room := { frames := 0, cells := 0, slots := 0, locals := 0 }
set_option maxHeartbeats 4000000 in
set_option maxRecDepth 100000 in
theorem c_X6_callsIn (g : GT) (l : Launch) (o0 : Nat) (ad0 : Nat → Nat) (n : Nat) (a1 : Int32) (a2 : Int32) (s0 : MS) (q : Int32) (hf : f_X6_callsIn n a1 a2 s0 = some q) : CI g l yX6_callsIn cX6_callsIn 4 (some .int) rmX6_callsIn [.ref o0, .int a1, .int a2] [wX6 g o0 ad0 s0] q [wX6 g o0 ad0 s0] := by
  refine CI_intro RX6 rfl (by decide +kernel) (Nat.le_of_ble_eq_true rfl) ?_
  intro p e s m args below meth c A ls Q hQ X hl hG
  have hl : lv_has ls 4 [(0, .ref o0), (1, .int a1), (2, .int a2)] := hl
  have hx := X.1
  have hb := X.2.1
  have hown := X.2.2.2.1
  unfold f_X6_callsIn at hf
  refine lv_iload_n hx hb dX6_callsIn_0 rfl (lv_at hl 1 rfl) ?_
  refine lv_iload_n hx hb dX6_callsIn_1 rfl (lv_at hl 2 rfl) ?_
  refine lv_icmp_ge (tgt := 7) hx hb dX6_callsIn_2 (by decide) (fun hc1 => ?_) (fun hc1 => ?_)
  · replace hf := ite_t hf hc1
    refine lv_iload_n hx hb dX6_callsIn_7 rfl (lv_at hl 1 rfl) ?_
    refine lv_iload_n hx hb dX6_callsIn_8 rfl (lv_at hl 2 rfl) ?_
    refine lv_isub hx hb dX6_callsIn_9 ?_
    refine lv_bipush (v := 10) hx hb dX6_callsIn_10 (by decide) ?_
    refine r_irem X hf dX6_callsIn_12 (fun hf => ?_)
    refine jn_use (P := fun (t2 : Int32) => ∀ (H : Heap) (locs : List Loc) (ls : Array Slot), GM g A s.heap H locs [wX6 g o0 ad0 s0] → lv_has ls 4 [(0, .ref o0)] → W p l e rmX6_callsIn s m args below meth c H locs 0 0 Q (F0 m 21 ls [.int t2])) hf (fun t2 hf H locs ls hG hl => ?_) (fun K3 hK3 hf => ?_)
    · refine lv_istore_n (lv' := [(3, .int t2), (0, .ref o0)]) hx hb dX6_callsIn_21 rfl hl (by decide) rfl (fun ls hl => ?_)
      refine lv_aload_n hx hb dX6_callsIn_22 rfl (lv_at hl 1 rfl) ?_
      refine G_6_9 X hG 0 rfl dX6_callsIn_23 ?_
      by_cases hk4_0 : (s0.1 0) = 1
      · replace hf := ite_t hf hk4_0
        refine r_tsi (tgt := 60) (off := 34) X dX6_callsIn_26 hk4_0 (by decide +kernel) (by decide +kernel) (by decide) ?_
        refine lv_aload_n hx hb dX6_callsIn_60 rfl (lv_at hl 1 rfl) ?_
        refine G_6_18 X hG 0 rfl dX6_callsIn_61 ?_
        have hq9 := Option.some.inj hf
        subst hq9
        subst hQ
        exact r_iret X hG dX6_callsIn_64
      · replace hf := ite_f hf hk4_0
        by_cases hk4_1 : (s0.1 0) = 2
        · replace hf := ite_t hf hk4_1
          refine r_tsi (tgt := 81) (off := 55) X dX6_callsIn_26 hk4_1 (by decide +kernel) (by decide +kernel) (by decide) ?_
          refine lv_iconst (v := 0) hx hb dX6_callsIn_81 (by decide) ?_
          have hq9 := Option.some.inj hf
          subst hq9
          subst hQ
          exact r_iret X hG dX6_callsIn_82
        · replace hf := ite_f hf hk4_1
          by_cases hk4_2 : (s0.1 0) = 3
          · replace hf := ite_t hf hk4_2
            refine r_tsi (tgt := 65) (off := 39) X dX6_callsIn_26 hk4_2 (by decide +kernel) (by decide +kernel) (by decide) ?_
            refine lv_aload_n hx hb dX6_callsIn_65 rfl (lv_at hl 1 rfl) ?_
            refine G_6_18 X hG 0 rfl dX6_callsIn_66 ?_
            refine lv_iload_n hx hb dX6_callsIn_69 rfl (lv_at hl 0 rfl) ?_
            refine lv_iadd hx hb dX6_callsIn_70 ?_
            have hq9 := Option.some.inj hf
            subst hq9
            subst hQ
            exact r_iret X hG dX6_callsIn_71
          · replace hf := ite_f hf hk4_2
            by_cases hk4_3 : (s0.1 0) = 4
            · replace hf := ite_t hf hk4_3
              refine r_tsi (tgt := 81) (off := 55) X dX6_callsIn_26 hk4_3 (by decide +kernel) (by decide +kernel) (by decide) ?_
              refine lv_iconst (v := 0) hx hb dX6_callsIn_81 (by decide) ?_
              have hq9 := Option.some.inj hf
              subst hq9
              subst hQ
              exact r_iret X hG dX6_callsIn_82
            · replace hf := ite_f hf hk4_3
              by_cases hk4_4 : (s0.1 0) = 5
              · replace hf := ite_t hf hk4_4
                refine r_tsi (tgt := 72) (off := 46) X dX6_callsIn_26 hk4_4 (by decide +kernel) (by decide +kernel) (by decide) ?_
                refine lv_iconst (v := 2) hx hb dX6_callsIn_72 (by decide) ?_
                refine lv_aload_n hx hb dX6_callsIn_73 rfl (lv_at hl 1 rfl) ?_
                refine G_6_18 X hG 0 rfl dX6_callsIn_74 ?_
                refine lv_iload_n hx hb dX6_callsIn_77 rfl (lv_at hl 0 rfl) ?_
                refine lv_iadd hx hb dX6_callsIn_78 ?_
                refine lv_imul hx hb dX6_callsIn_79 ?_
                have hq9 := Option.some.inj hf
                subst hq9
                subst hQ
                exact r_iret X hG dX6_callsIn_80
              · replace hf := ite_f hf hk4_4
                refine r_tso (tgt := 81) X dX6_callsIn_26 (ks := [1, 2, 3, 4, 5]) (List.forall_mem_cons.mpr ⟨hk4_0, List.forall_mem_cons.mpr ⟨hk4_1, List.forall_mem_cons.mpr ⟨hk4_2, List.forall_mem_cons.mpr ⟨hk4_3, List.forall_mem_cons.mpr ⟨hk4_4, List.forall_mem_nil _⟩⟩⟩⟩⟩) (by decide +kernel) (by decide) ?_
                refine lv_iconst (v := 0) hx hb dX6_callsIn_81 (by decide) ?_
                have hq9 := Option.some.inj hf
                subst hq9
                subst hQ
                exact r_iret X hG dX6_callsIn_82
    refine lv_if_ne (tgt := 20) hx hb dX6_callsIn_13 (by decide) (fun hc5 => ?_) (fun hc5 => ?_)
    · replace hf := ite_f hf hc5
      refine lv_iconst (v := 0) hx hb dX6_callsIn_20 (by decide) ?_
      exact hK3 _ hf _ _ _ hG (lv_sub hl [0] rfl)
    · replace hf := ite_t hf hc5
      refine lv_iconst (v := 5) hx hb dX6_callsIn_16 (by decide) ?_
      refine lv_goto (tgt := 21) hx hb dX6_callsIn_17 (by decide) ?_
      exact hK3 _ hf _ _ _ hG (lv_sub hl [0] rfl)
  · replace hf := ite_f hf hc1
    refine lv_iconst (v := 0) hx hb dX6_callsIn_5 (by decide) ?_
    have hq9 := Option.some.inj hf
    subst hq9
    subst hQ
    exact r_iret X hG dX6_callsIn_6
def rmX6_asksIn : Room := { frames := 0, cells := 0, slots := 0, locals := 0 }
set_option maxHeartbeats 4000000 in
set_option maxRecDepth 100000 in
theorem c_X6_asksIn (g : GT) (l : Launch) (o0 : Nat) (ad0 : Nat → Nat) (n : Nat) (a1 : Int32) (a2 : Int32) (s0 : MS) (q : Int32) (hf : f_X6_asksIn n a1 a2 s0 = some q) : CI g l yX6_asksIn cX6_asksIn 4 (some .int) rmX6_asksIn [.ref o0, .int a1, .int a2] [wX6 g o0 ad0 s0] q [wX6 g o0 ad0 s0] := by
  refine CI_intro RX6 rfl (by decide +kernel) (Nat.le_of_ble_eq_true rfl) ?_
  intro p e s m args below meth c A ls Q hQ X hl hG
  have hl : lv_has ls 4 [(0, .ref o0), (1, .int a1), (2, .int a2)] := hl
  have hx := X.1
  have hb := X.2.1
  have hown := X.2.2.2.1
  unfold f_X6_asksIn at hf
  refine lv_iload_n hx hb dX6_asksIn_0 rfl (lv_at hl 1 rfl) ?_
  refine lv_iload_n hx hb dX6_asksIn_1 rfl (lv_at hl 2 rfl) ?_
  refine jn_use (P := fun (t1 : Int32) => ∀ (H : Heap) (locs : List Loc) (ls : Array Slot), GM g A s.heap H locs [wX6 g o0 ad0 s0] → lv_has ls 4 [(0, .ref o0)] → W p l e rmX6_asksIn s m args below meth c H locs 0 0 Q (F0 m 15 ls [.int t1])) hf (fun t1 hf H locs ls hG hl => ?_) (fun K2 hK2 hf => ?_)
  · refine lv_istore_n (lv' := [(3, .int t1), (0, .ref o0)]) hx hb dX6_asksIn_15 rfl hl (by decide) rfl (fun ls hl => ?_)
    refine lv_aload_n hx hb dX6_asksIn_16 rfl (lv_at hl 1 rfl) ?_
    refine G_6_9 X hG 0 rfl dX6_asksIn_17 ?_
    by_cases hk3_0 : (s0.1 0) = 2
    · replace hf := ite_t hf hk3_0
      refine r_tsi (tgt := 52) (off := 32) X dX6_asksIn_20 hk3_0 (by decide +kernel) (by decide +kernel) (by decide) ?_
      refine lv_iload_n hx hb dX6_asksIn_52 rfl (lv_at hl 0 rfl) ?_
      have hq9 := Option.some.inj hf
      subst hq9
      subst hQ
      exact r_iret X hG dX6_asksIn_53
    · replace hf := ite_f hf hk3_0
      by_cases hk3_1 : (s0.1 0) = 3
      · replace hf := ite_t hf hk3_1
        refine r_tsi (tgt := 54) (off := 34) X dX6_asksIn_20 hk3_1 (by decide +kernel) (by decide +kernel) (by decide) ?_
        refine lv_iconst (v := 0) hx hb dX6_asksIn_54 (by decide) ?_
        have hq9 := Option.some.inj hf
        subst hq9
        subst hQ
        exact r_iret X hG dX6_asksIn_55
      · replace hf := ite_f hf hk3_1
        by_cases hk3_2 : (s0.1 0) = 4
        · replace hf := ite_t hf hk3_2
          refine r_tsi (tgt := 56) (off := 36) X dX6_asksIn_20 hk3_2 (by decide +kernel) (by decide +kernel) (by decide) ?_
          refine lv_iconst (v := 2) hx hb dX6_asksIn_56 (by decide) ?_
          refine lv_iload_n hx hb dX6_asksIn_57 rfl (lv_at hl 0 rfl) ?_
          refine lv_imul hx hb dX6_asksIn_58 ?_
          have hq9 := Option.some.inj hf
          subst hq9
          subst hQ
          exact r_iret X hG dX6_asksIn_59
        · replace hf := ite_f hf hk3_2
          by_cases hk3_3 : (s0.1 0) = 5
          · replace hf := ite_t hf hk3_3
            refine r_tsi (tgt := 60) (off := 40) X dX6_asksIn_20 hk3_3 (by decide +kernel) (by decide +kernel) (by decide) ?_
            refine lv_aload_n hx hb dX6_asksIn_60 rfl (lv_at hl 1 rfl) ?_
            refine G_6_18 X hG 0 rfl dX6_asksIn_61 ?_
            have hq9 := Option.some.inj hf
            subst hq9
            subst hQ
            exact r_iret X hG dX6_asksIn_64
          · replace hf := ite_f hf hk3_3
            refine r_tso (tgt := 65) X dX6_asksIn_20 (ks := [2, 3, 4, 5]) (List.forall_mem_cons.mpr ⟨hk3_0, List.forall_mem_cons.mpr ⟨hk3_1, List.forall_mem_cons.mpr ⟨hk3_2, List.forall_mem_cons.mpr ⟨hk3_3, List.forall_mem_nil _⟩⟩⟩⟩) (by decide +kernel) (by decide) ?_
            refine lv_iconst (v := 1) hx hb dX6_asksIn_65 (by decide) ?_
            have hq9 := Option.some.inj hf
            subst hq9
            subst hQ
            exact r_iret X hG dX6_asksIn_66
  refine lv_icmp_ge (tgt := 9) hx hb dX6_asksIn_2 (by decide) (fun hc4 => ?_) (fun hc4 => ?_)
  · replace hf := ite_t hf hc4
    refine lv_iconst (v := 1) hx hb dX6_asksIn_9 (by decide) ?_
    refine lv_aload_n hx hb dX6_asksIn_10 rfl (lv_at hl 0 rfl) ?_
    refine G_6_18 X hG 0 rfl dX6_asksIn_11 ?_
    refine lv_iadd hx hb dX6_asksIn_14 ?_
    exact hK2 _ hf _ _ _ hG (lv_sub hl [0] rfl)
  · replace hf := ite_f hf hc4
    refine lv_iconst (v := 1) hx hb dX6_asksIn_5 (by decide) ?_
    refine lv_goto (tgt := 15) hx hb dX6_asksIn_6 (by decide) ?_
    exact hK2 _ hf _ _ _ hG (lv_sub hl [0] rfl)
def rmX6_rankOf : Room := { frames := 0, cells := 0, slots := 0, locals := 0 }
set_option maxHeartbeats 4000000 in
set_option maxRecDepth 100000 in
theorem c_X6_rankOf (g : GT) (l : Launch) (o0 : Nat) (ad0 : Nat → Nat) (n : Nat) (a1 : Int32) (a2 : Int32) (s0 : MS) (q : Int32) (hf : f_X6_rankOf n a1 a2 s0 = some q) : CI g l yX6_rankOf cX6_rankOf 3 (some .int) rmX6_rankOf [.ref o0, .int a1, .int a2] [wX6 g o0 ad0 s0] q [wX6 g o0 ad0 s0] := by
  refine CI_intro RX6 rfl (by decide +kernel) (Nat.le_of_ble_eq_true rfl) ?_
  intro p e s m args below meth c A ls Q hQ X hl hG
  have hl : lv_has ls 3 [(0, .ref o0), (1, .int a1), (2, .int a2)] := hl
  have hx := X.1
  have hb := X.2.1
  have hown := X.2.2.2.1
  unfold f_X6_rankOf at hf
  refine lv_aload_n hx hb dX6_rankOf_0 rfl (lv_at hl 0 rfl) ?_
  refine G_6_9 X hG 0 rfl dX6_rankOf_1 ?_
  refine lv_iconst (v := 3) hx hb dX6_rankOf_4 (by decide) ?_
  refine jn_use (P := fun (t1 : Unit) => ∀ (H : Heap) (locs : List Loc) (ls : Array Slot), GM g A s.heap H locs [wX6 g o0 ad0 s0] → lv_has ls 3 [(2, .int a2)] → W p l e rmX6_rankOf s m args below meth c H locs 0 0 Q (F0 m 16 ls [])) hf (fun t1 hf H locs ls hG hl => ?_) (fun K2 hK2 hf => ?_)
  · refine lv_iload_n hx hb dX6_rankOf_16 rfl (lv_at hl 0 rfl) ?_
    refine lv_ineg hx hb dX6_rankOf_17 ?_
    have hq9 := Option.some.inj hf
    subst hq9
    subst hQ
    exact r_iret X hG dX6_rankOf_18
  refine lv_icmp_eq (tgt := 16) hx hb dX6_rankOf_5 (by decide) (fun hc3 => ?_) (fun hc3 => ?_)
  · replace hf := ite_t hf hc3
    exact hK2 _ hf _ _ _ hG (lv_sub hl [2] rfl)
  · replace hf := ite_f hf hc3
    refine lv_aload_n hx hb dX6_rankOf_8 rfl (lv_at hl 0 rfl) ?_
    refine G_6_9 X hG 0 rfl dX6_rankOf_9 ?_
    refine lv_iconst (v := 5) hx hb dX6_rankOf_12 (by decide) ?_
    refine lv_icmp_ne (tgt := 19) hx hb dX6_rankOf_13 (by decide) (fun hc4 => ?_) (fun hc4 => ?_)
    · replace hf := ite_f hf hc4
      refine lv_aload_n hx hb dX6_rankOf_19 rfl (lv_at hl 0 rfl) ?_
      refine G_6_9 X hG 0 rfl dX6_rankOf_20 ?_
      refine lv_iconst (v := 4) hx hb dX6_rankOf_23 (by decide) ?_
      refine lv_icmp_ne (tgt := 31) hx hb dX6_rankOf_24 (by decide) (fun hc5 => ?_) (fun hc5 => ?_)
      · replace hf := ite_f hf hc5
        refine lv_iconst (v := 0) hx hb dX6_rankOf_31 (by decide) ?_
        have hq9 := Option.some.inj hf
        subst hq9
        subst hQ
        exact r_iret X hG dX6_rankOf_32
      · replace hf := ite_t hf hc5
        refine lv_iload_n hx hb dX6_rankOf_27 rfl (lv_at hl 1 rfl) ?_
        refine lv_goto (tgt := 32) hx hb dX6_rankOf_28 (by decide) ?_
        have hq9 := Option.some.inj hf
        subst hq9
        subst hQ
        exact r_iret X hG dX6_rankOf_32
    · replace hf := ite_t hf hc4
      exact hK2 _ hf _ _ _ hG (lv_sub hl [2] rfl)
def rmX6_isUnder : Room := { frames := 1, cells := 0, slots := 0, locals := 22 }
set_option maxHeartbeats 4000000 in
set_option maxRecDepth 100000 in
theorem c_X6_isUnder (g : GT) (l : Launch) (o0 : Nat) (ad0 : Nat → Nat) (n : Nat) (a1 : Int32) (s0 : MS) (q : Int32) (hf : f_X6_isUnder n a1 s0 = some q) : CI g l yX6_isUnder cX6_isUnder 4 (some .boolean) rmX6_isUnder [.ref o0, .int a1] [wX6 g o0 ad0 s0] q [wX6 g o0 ad0 s0] := by
  refine CI_intro RX6 rfl (by decide +kernel) (Nat.le_of_ble_eq_true rfl) ?_
  intro p e s m args below meth c A ls Q hQ X hl hG
  have hl : lv_has ls 4 [(0, .ref o0), (1, .int a1)] := hl
  have hx := X.1
  have hb := X.2.1
  have hown := X.2.2.2.1
  unfold f_X6_isUnder at hf
  refine lv_aload_n hx hb dX6_isUnder_0 rfl (lv_at hl 0 rfl) ?_
  refine G_6_9 X hG 0 rfl dX6_isUnder_1 ?_
  refine lv_istore_n (lv' := [(2, .int (s0.1 0)), (0, .ref o0), (1, .int a1)]) hx hb dX6_isUnder_4 rfl hl (by decide) rfl (fun ls hl => ?_)
  refine lv_iconst (v := 0) hx hb dX6_isUnder_5 (by decide) ?_
  refine lv_istore_n (lv' := [(3, .int 0), (2, .int (s0.1 0)), (0, .ref o0), (1, .int a1)]) hx hb dX6_isUnder_6 rfl hl (by decide) rfl (fun ls hl => ?_)
  refine lp_go (P := fun (t1 : Int32 × Int32) => ∀ (H : Heap) (locs : List Loc) (ls : Array Slot), GM g A s.heap H locs [wX6 g o0 ad0 s0] → lv_has ls 4 [(1, .int a1), (2, .int t1.1), (3, .int t1.2)] → W p l e rmX6_isUnder s m args below meth c H locs 0 0 Q (F0 m 7 ls [])) hf (fun K2 hK2 t1 hf H locs ls hG hl => ?_) _ _ _ hG (lv_sub hl [3, 1, 0] rfl)
  refine lv_iload_n hx hb dX6_isUnder_7 rfl (lv_at hl 2 rfl) ?_
  refine r_getsN (host := "LastCar") X hG X.2.2.2.2.2.1.2.2.2.2.1.1 (NW_at 810 (by decide +kernel) (by decide +kernel)) dX6_isUnder_8 ?_
  refine va_tlen (v := 6) hx hb X.2.2.2.2.2.1.2.2.2.2.1.2 hG.2.2 rfl dX6_isUnder_11 ?_
  refine jn_use (P := fun (t3 : Unit) => ∀ (H : Heap) (locs : List Loc) (ls : Array Slot), GM g A s.heap H locs [wX6 g o0 ad0 s0] → lv_has ls 4 [(1, .int a1), (2, .int t1.1)] → W p l e rmX6_isUnder s m args below meth c H locs 0 0 Q (F0 m 43 ls [])) hf (fun t3 hf H locs ls hG hl => ?_) (fun K4 hK4 hf => ?_)
  · refine lv_iload_n hx hb dX6_isUnder_43 rfl (lv_at hl 1 rfl) ?_
    refine lv_iload_n hx hb dX6_isUnder_44 rfl (lv_at hl 0 rfl) ?_
    refine lv_icmp_ne (tgt := 52) hx hb dX6_isUnder_45 (by decide) (fun hc5 => ?_) (fun hc5 => ?_)
    · replace hf := ite_f hf hc5
      refine lv_iconst (v := 0) hx hb dX6_isUnder_52 (by decide) ?_
      obtain ⟨hz, hf⟩ := ck_inv hf
      have hq9 := Option.some.inj hf
      subst hq9
      subst hQ
      exact r_zret X hG (of_decide_eq_true hz) dX6_isUnder_53
    · replace hf := ite_t hf hc5
      refine lv_iconst (v := 1) hx hb dX6_isUnder_48 (by decide) ?_
      refine lv_goto (tgt := 53) hx hb dX6_isUnder_49 (by decide) ?_
      obtain ⟨hz, hf⟩ := ck_inv hf
      have hq9 := Option.some.inj hf
      subst hq9
      subst hQ
      exact r_zret X hG (of_decide_eq_true hz) dX6_isUnder_53
  refine lv_icmp_ge (tgt := 43) hx hb dX6_isUnder_12 (by decide) (fun hc6 => ?_) (fun hc6 => ?_)
  · replace hf := ite_t hf hc6
    exact hK4 _ hf _ _ _ hG (lv_sub hl [0, 1] rfl)
  · replace hf := ite_f hf hc6
    refine lv_iload_n hx hb dX6_isUnder_15 rfl (lv_at hl 1 rfl) ?_
    refine lv_iload_n hx hb dX6_isUnder_16 rfl (lv_at hl 0 rfl) ?_
    refine lv_icmp_eq (tgt := 43) hx hb dX6_isUnder_17 (by decide) (fun hc7 => ?_) (fun hc7 => ?_)
    · replace hf := ite_t hf hc7
      exact hK4 _ hf _ _ _ hG (lv_sub hl [0, 1] rfl)
    · replace hf := ite_f hf hc7
      refine lv_iload_n hx hb dX6_isUnder_20 rfl (lv_at hl 1 rfl) ?_
      refine lv_iconst (v := 0) hx hb dX6_isUnder_21 (by decide) ?_
      refine lv_iconst (v := 5) hx hb dX6_isUnder_22 (by decide) ?_
      obtain ⟨q8, hq8, hf⟩ := cl_inv hf
      refine r_callNi (bc := []) (br := [wX6 g o0 ad0 s0]) (bs' := [wX6 g o0 ad0 s0]) (As := [.int t1.1, .int 0, .int 5]) (rest := []) X hG hl.1 (c_X7_between g l n t1.1 0 5 q8 hq8) (List.Perm.refl _) (List.Perm.refl _) lk_X7_between ls_X7_between mn_6_25 rfl rfl ⟨Nat.le_of_ble_eq_true rfl, Nat.le_of_ble_eq_true rfl⟩ rfl rfl (Nat.le_of_ble_eq_true rfl) ⟨Nat.zero_le _, Nat.zero_le _⟩ dX6_isUnder_23 (fun H locs hG => ?_)
      refine lv_if_ne (tgt := 31) hx hb dX6_isUnder_26 (by decide) (fun hc9 => ?_) (fun hc9 => ?_)
      · replace hf := ite_f hf hc9
        refine r_getsN (host := "LastCar") X hG X.2.2.2.2.2.1.2.2.2.2.1.1 (NW_at 810 (by decide +kernel) (by decide +kernel)) dX6_isUnder_31 ?_
        refine lv_iload_n hx hb dX6_isUnder_34 rfl (lv_at hl 1 rfl) ?_
        refine r_sti X hG X.2.2.2.2.2.1.2.2.2.2.1.2 st_under_eq hf dX6_isUnder_35 (fun x10 hf => ?_)
        refine lv_istore_n (lv' := [(2, .int x10), (1, .int a1), (3, .int t1.2)]) hx hb dX6_isUnder_36 rfl hl (by decide) rfl (fun ls hl => ?_)
        refine lv_iinc (v := (t1.2 + 1)) (lv' := [(3, .int (t1.2 + 1)), (2, .int x10), (1, .int a1)]) hx hb dX6_isUnder_37 hl (k := 2) rfl rfl (by decide) rfl (fun ls hl => ?_)
        refine lv_goto (tgt := 7) hx hb dX6_isUnder_40 (by decide) ?_
        exact hK2 _ hf _ _ _ hG (lv_sub hl [2, 1, 0] rfl)
      · replace hf := ite_t hf hc9
        refine lv_iconst (v := 0) hx hb dX6_isUnder_29 (by decide) ?_
        obtain ⟨hz, hf⟩ := ck_inv hf
        have hq9 := Option.some.inj hf
        subst hq9
        subst hQ
        exact r_zret X hG (of_decide_eq_true hz) dX6_isUnder_30
def rmX5_clear : Room := { frames := 0, cells := 0, slots := 0, locals := 0 }
set_option maxHeartbeats 4000000 in
set_option maxRecDepth 100000 in
theorem c_X5_clear (g : GT) (l : Launch) (o0 : Nat) (ad0 : Nat → Nat) (n : Nat) (s0 : MS) (q : MS) (hf : f_X5_clear n s0 = some q) : CV g l yX5_clear cX5_clear 1 none rmX5_clear [.ref o0] [wX5 g o0 ad0 s0] [wX5 g o0 ad0 q] := by
  refine CV_intro RX5 rfl (by decide +kernel) (Nat.le_of_ble_eq_true rfl) ?_
  intro p e s m args below meth c A ls Q hQ X hl hG
  have hl : lv_has ls 1 [(0, .ref o0)] := hl
  have hx := X.1
  have hb := X.2.1
  have hown := X.2.2.2.1
  unfold f_X5_clear at hf
  refine lv_aload_n hx hb dX5_clear_0 rfl (lv_at hl 0 rfl) ?_
  refine lv_iconst (v := 0) hx hb dX5_clear_1 (by decide) ?_
  refine P_5_21 X hG 0 rfl hf (fun t => [wX5 g o0 ad0 t]) (fun _ => rfl) dX5_clear_2 (fun z1 H locs hf hG => ?_)
  have hq9 := Option.some.inj hf
  subst hq9
  subst hQ
  exact r_vret X hG dX5_clear_5
def rmX5_begin : Room := { frames := 0, cells := 0, slots := 0, locals := 0 }
set_option maxHeartbeats 4000000 in
set_option maxRecDepth 100000 in
theorem c_X5_begin (g : GT) (l : Launch) (o0 : Nat) (ad0 : Nat → Nat) (n : Nat) (a1 : Int32) (s0 : MS) (q : MS) (hf : f_X5_begin n a1 s0 = some q) : CV g l yX5_begin cX5_begin 2 none rmX5_begin [.ref o0, .int a1] [wX5 g o0 ad0 s0] [wX5 g o0 ad0 q] := by
  refine CV_intro RX5 rfl (by decide +kernel) (Nat.le_of_ble_eq_true rfl) ?_
  intro p e s m args below meth c A ls Q hQ X hl hG
  have hl : lv_has ls 2 [(0, .ref o0), (1, .int a1)] := hl
  have hx := X.1
  have hb := X.2.1
  have hown := X.2.2.2.1
  unfold f_X5_begin at hf
  refine lv_aload_n hx hb dX5_begin_0 rfl (lv_at hl 0 rfl) ?_
  refine G_5_15 X hG 0 rfl dX5_begin_1 ?_
  refine lv_iload_n hx hb dX5_begin_4 rfl (lv_at hl 1 rfl) ?_
  refine lv_aload_n hx hb dX5_begin_5 rfl (lv_at hl 0 rfl) ?_
  refine G_5_21 X hG 0 rfl dX5_begin_6 ?_
  refine r_iast X hG 0 2 rfl rfl hf (fun t => [wX5 g o0 ad0 t]) rfl dX5_begin_9 (fun z1 H locs hf hG => ?_)
  have hq9 := Option.some.inj hf
  subst hq9
  subst hQ
  exact r_vret X hG dX5_begin_10
def rmX5_close : Room := { frames := 0, cells := 0, slots := 0, locals := 0 }
set_option maxHeartbeats 4000000 in
set_option maxRecDepth 100000 in
theorem c_X5_close (g : GT) (l : Launch) (o0 : Nat) (ad0 : Nat → Nat) (n : Nat) (s0 : MS) (q : MS) (hf : f_X5_close n s0 = some q) : CV g l yX5_close cX5_close 1 none rmX5_close [.ref o0] [wX5 g o0 ad0 s0] [wX5 g o0 ad0 q] := by
  refine CV_intro RX5 rfl (by decide +kernel) (Nat.le_of_ble_eq_true rfl) ?_
  intro p e s m args below meth c A ls Q hQ X hl hG
  have hl : lv_has ls 1 [(0, .ref o0)] := hl
  have hx := X.1
  have hb := X.2.1
  have hown := X.2.2.2.1
  unfold f_X5_close at hf
  refine lv_aload_n hx hb dX5_close_0 rfl (lv_at hl 0 rfl) ?_
  refine G_5_15 X hG 0 rfl dX5_close_1 ?_
  refine lv_iconst (v := 3) hx hb dX5_close_4 (by decide) ?_
  refine lv_aload_n hx hb dX5_close_5 rfl (lv_at hl 0 rfl) ?_
  refine G_5_21 X hG 0 rfl dX5_close_6 ?_
  refine r_iast X hG 0 2 rfl rfl hf (fun t => [wX5 g o0 ad0 t]) rfl dX5_close_9 (fun z1 H locs hf hG => ?_)
  have hq9 := Option.some.inj hf
  subst hq9
  subst hQ
  exact r_vret X hG dX5_close_10
def rmX5_add : Room := { frames := 0, cells := 0, slots := 0, locals := 0 }
set_option maxHeartbeats 4000000 in
set_option maxRecDepth 100000 in
theorem c_X5_add (g : GT) (l : Launch) (o0 : Nat) (ad0 : Nat → Nat) (n : Nat) (a1 : Int32) (s0 : MS) (q : MS) (hf : f_X5_add n a1 s0 = some q) : CV g l yX5_add cX5_add 2 none rmX5_add [.ref o0, .int a1] [wX5 g o0 ad0 s0] [wX5 g o0 ad0 q] := by
  refine CV_intro RX5 rfl (by decide +kernel) (Nat.le_of_ble_eq_true rfl) ?_
  intro p e s m args below meth c A ls Q hQ X hl hG
  have hl : lv_has ls 2 [(0, .ref o0), (1, .int a1)] := hl
  have hx := X.1
  have hb := X.2.1
  have hown := X.2.2.2.1
  unfold f_X5_add at hf
  refine lv_aload_n hx hb dX5_add_0 rfl (lv_at hl 0 rfl) ?_
  refine G_5_21 X hG 0 rfl dX5_add_1 ?_
  refine lv_sipush (v := 160) hx hb dX5_add_4 (by decide) ?_
  refine lv_icmp_lt (tgt := 11) hx hb dX5_add_7 (by decide) (fun hc1 => ?_) (fun hc1 => ?_)
  · replace hf := ite_t hf hc1
    refine lv_aload_n hx hb dX5_add_11 rfl (lv_at hl 0 rfl) ?_
    refine G_5_9 X hG 0 rfl dX5_add_12 ?_
    refine lv_aload_n hx hb dX5_add_15 rfl (lv_at hl 0 rfl) ?_
    refine G_5_21 X hG 0 rfl dX5_add_16 ?_
    refine lv_iload_n hx hb dX5_add_19 rfl (lv_at hl 1 rfl) ?_
    refine r_iast X hG 0 1 rfl rfl hf (fun t => [wX5 g o0 ad0 t]) rfl dX5_add_20 (fun z2 H locs hf hG => ?_)
    refine lv_aload_n hx hb dX5_add_21 rfl (lv_at hl 0 rfl) ?_
    refine lv_dup hx hb dX5_add_22 rfl ?_
    refine G_5_21 X hG 0 rfl dX5_add_23 ?_
    refine lv_iconst (v := 1) hx hb dX5_add_26 (by decide) ?_
    refine lv_iadd hx hb dX5_add_27 ?_
    refine P_5_21 X hG 0 rfl hf (fun t => [wX5 g o0 ad0 t]) (fun _ => rfl) dX5_add_28 (fun z3 H locs hf hG => ?_)
    have hq9 := Option.some.inj hf
    subst hq9
    subst hQ
    exact r_vret X hG dX5_add_31
  · replace hf := ite_f hf hc1
    have hq9 := Option.some.inj hf
    subst hq9
    subst hQ
    exact r_vret X hG dX5_add_10
def rmX5_joined : Room := { frames := 0, cells := 0, slots := 0, locals := 0 }
set_option maxHeartbeats 4000000 in
set_option maxRecDepth 100000 in
theorem c_X5_joined (g : GT) (l : Launch) (n : Nat) (a1 : Int32) (a2 : Int32) (a3 : Int32) (q : Int32) (hf : f_X5_joined n a1 a2 a3 = some q) : CI g l yX5_joined cX5_joined 3 (some .int) rmX5_joined [.int a1, .int a2, .int a3] [] q [] := by
  refine CI_intro RX5 rfl (by decide +kernel) (Nat.le_of_ble_eq_true rfl) ?_
  intro p e s m args below meth c A ls Q hQ X hl hG
  have hl : lv_has ls 3 [(0, .int a1), (1, .int a2), (2, .int a3)] := hl
  have hx := X.1
  have hb := X.2.1
  have hown := X.2.2.2.1
  unfold f_X5_joined at hf
  refine lv_iload_n hx hb dX5_joined_0 rfl (lv_at hl 0 rfl) ?_
  by_cases hk1_0 : a1 = 42
  · replace hf := ite_t hf hk1_0
    refine r_lsi (tgt := 68) X dX5_joined_1 hk1_0 (by decide) trivial rfl (by decide) ?_
    refine lv_iload_n hx hb dX5_joined_68 rfl (lv_at hl 1 rfl) ?_
    refine lv_iload_n hx hb dX5_joined_69 rfl (lv_at hl 2 rfl) ?_
    refine lv_imul hx hb dX5_joined_70 ?_
    have hq9 := Option.some.inj hf
    subst hq9
    subst hQ
    exact r_iret X hG dX5_joined_71
  · replace hf := ite_f hf hk1_0
    by_cases hk1_1 : a1 = 43
    · replace hf := ite_t hf hk1_1
      refine r_lsi (tgt := 60) X dX5_joined_1 hk1_1 (by decide) trivial rfl (by decide) ?_
      refine lv_iload_n hx hb dX5_joined_60 rfl (lv_at hl 1 rfl) ?_
      refine lv_iload_n hx hb dX5_joined_61 rfl (lv_at hl 2 rfl) ?_
      refine lv_iadd hx hb dX5_joined_62 ?_
      have hq9 := Option.some.inj hf
      subst hq9
      subst hQ
      exact r_iret X hG dX5_joined_63
    · replace hf := ite_f hf hk1_1
      by_cases hk1_2 : a1 = 45
      · replace hf := ite_t hf hk1_2
        refine r_lsi (tgt := 64) X dX5_joined_1 hk1_2 (by decide) trivial rfl (by decide) ?_
        refine lv_iload_n hx hb dX5_joined_64 rfl (lv_at hl 1 rfl) ?_
        refine lv_iload_n hx hb dX5_joined_65 rfl (lv_at hl 2 rfl) ?_
        refine lv_isub hx hb dX5_joined_66 ?_
        have hq9 := Option.some.inj hf
        subst hq9
        subst hQ
        exact r_iret X hG dX5_joined_67
      · replace hf := ite_f hf hk1_2
        by_cases hk1_3 : a1 = 60
        · replace hf := ite_t hf hk1_3
          refine r_lsi (tgt := 72) X dX5_joined_1 hk1_3 (by decide) trivial rfl (by decide) ?_
          refine lv_iload_n hx hb dX5_joined_72 rfl (lv_at hl 1 rfl) ?_
          refine lv_iload_n hx hb dX5_joined_73 rfl (lv_at hl 2 rfl) ?_
          refine lv_icmp_ge (tgt := 81) hx hb dX5_joined_74 (by decide) (fun hc2 => ?_) (fun hc2 => ?_)
          · replace hf := ite_t hf hc2
            refine lv_iconst (v := 0) hx hb dX5_joined_81 (by decide) ?_
            have hq9 := Option.some.inj hf
            subst hq9
            subst hQ
            exact r_iret X hG dX5_joined_82
          · replace hf := ite_f hf hc2
            refine lv_iconst (v := 1) hx hb dX5_joined_77 (by decide) ?_
            refine lv_goto (tgt := 82) hx hb dX5_joined_78 (by decide) ?_
            have hq9 := Option.some.inj hf
            subst hq9
            subst hQ
            exact r_iret X hG dX5_joined_82
        · replace hf := ite_f hf hk1_3
          by_cases hk1_4 : a1 = 61
          · replace hf := ite_t hf hk1_4
            refine r_lsi (tgt := 83) X dX5_joined_1 hk1_4 (by decide) trivial rfl (by decide) ?_
            refine lv_iload_n hx hb dX5_joined_83 rfl (lv_at hl 1 rfl) ?_
            refine lv_iload_n hx hb dX5_joined_84 rfl (lv_at hl 2 rfl) ?_
            refine lv_icmp_ne (tgt := 92) hx hb dX5_joined_85 (by decide) (fun hc3 => ?_) (fun hc3 => ?_)
            · replace hf := ite_f hf hc3
              refine lv_iconst (v := 0) hx hb dX5_joined_92 (by decide) ?_
              have hq9 := Option.some.inj hf
              subst hq9
              subst hQ
              exact r_iret X hG dX5_joined_93
            · replace hf := ite_t hf hc3
              refine lv_iconst (v := 1) hx hb dX5_joined_88 (by decide) ?_
              refine lv_goto (tgt := 93) hx hb dX5_joined_89 (by decide) ?_
              have hq9 := Option.some.inj hf
              subst hq9
              subst hQ
              exact r_iret X hG dX5_joined_93
          · replace hf := ite_f hf hk1_4
            by_cases hk1_5 : a1 = 257
            · replace hf := ite_t hf hk1_5
              refine r_lsi (tgt := 94) X dX5_joined_1 hk1_5 (by decide) trivial rfl (by decide) ?_
              refine lv_iload_n hx hb dX5_joined_94 rfl (lv_at hl 1 rfl) ?_
              refine lv_if_eq (tgt := 106) hx hb dX5_joined_95 (by decide) (fun hc4 => ?_) (fun hc4 => ?_)
              · replace hf := ite_t hf hc4
                refine lv_iconst (v := 0) hx hb dX5_joined_106 (by decide) ?_
                have hq9 := Option.some.inj hf
                subst hq9
                subst hQ
                exact r_iret X hG dX5_joined_107
              · replace hf := ite_f hf hc4
                refine lv_iload_n hx hb dX5_joined_98 rfl (lv_at hl 2 rfl) ?_
                refine lv_if_eq (tgt := 106) hx hb dX5_joined_99 (by decide) (fun hc5 => ?_) (fun hc5 => ?_)
                · replace hf := ite_t hf hc5
                  refine lv_iconst (v := 0) hx hb dX5_joined_106 (by decide) ?_
                  have hq9 := Option.some.inj hf
                  subst hq9
                  subst hQ
                  exact r_iret X hG dX5_joined_107
                · replace hf := ite_f hf hc5
                  refine lv_iconst (v := 1) hx hb dX5_joined_102 (by decide) ?_
                  refine lv_goto (tgt := 107) hx hb dX5_joined_103 (by decide) ?_
                  have hq9 := Option.some.inj hf
                  subst hq9
                  subst hQ
                  exact r_iret X hG dX5_joined_107
            · replace hf := ite_f hf hk1_5
              refine r_lso (tgt := 108) X dX5_joined_1 (ks := [42, 43, 45, 60, 61, 257]) (List.forall_mem_cons.mpr ⟨hk1_0, List.forall_mem_cons.mpr ⟨hk1_1, List.forall_mem_cons.mpr ⟨hk1_2, List.forall_mem_cons.mpr ⟨hk1_3, List.forall_mem_cons.mpr ⟨hk1_4, List.forall_mem_cons.mpr ⟨hk1_5, List.forall_mem_nil _⟩⟩⟩⟩⟩⟩) (by decide) (by decide) (by decide) ?_
              refine lv_iload_n hx hb dX5_joined_108 rfl (lv_at hl 1 rfl) ?_
              refine lv_if_ne (tgt := 116) hx hb dX5_joined_109 (by decide) (fun hc6 => ?_) (fun hc6 => ?_)
              · replace hf := ite_f hf hc6
                refine lv_iconst (v := 1) hx hb dX5_joined_116 (by decide) ?_
                refine lv_goto (tgt := 121) hx hb dX5_joined_117 (by decide) ?_
                have hq9 := Option.some.inj hf
                subst hq9
                subst hQ
                exact r_iret X hG dX5_joined_121
              · replace hf := ite_t hf hc6
                refine lv_iload_n hx hb dX5_joined_112 rfl (lv_at hl 2 rfl) ?_
                refine lv_if_eq (tgt := 120) hx hb dX5_joined_113 (by decide) (fun hc7 => ?_) (fun hc7 => ?_)
                · replace hf := ite_t hf hc7
                  refine lv_iconst (v := 0) hx hb dX5_joined_120 (by decide) ?_
                  have hq9 := Option.some.inj hf
                  subst hq9
                  subst hQ
                  exact r_iret X hG dX5_joined_121
                · replace hf := ite_f hf hc7
                  refine lv_iconst (v := 1) hx hb dX5_joined_116 (by decide) ?_
                  refine lv_goto (tgt := 121) hx hb dX5_joined_117 (by decide) ?_
                  have hq9 := Option.some.inj hf
                  subst hq9
                  subst hQ
                  exact r_iret X hG dX5_joined_121
def rmX5_value : Room := { frames := 1, cells := 0, slots := 0, locals := 22 }
set_option maxHeartbeats 4000000 in
set_option maxRecDepth 100000 in
theorem c_X5_value (g : GT) (l : Launch) (o0 : Nat) (ad0 : Nat → Nat) (na : Nat) (n : Nat) (a1 : Int32) (s0 : MS) (s1 : MS) (q : Int32 × MS) (hf : f_X5_value n a1 s0 s1 = some q) : CI g l yX5_value cX5_value 7 (some .int) rmX5_value [.ref o0, .int a1, .ref na] [wX5 g o0 ad0 s0, wF g na 6 s1] q.1 [wX5 g o0 ad0 q.2, wF g na 6 s1] := by
  refine CI_intro RX5 rfl (by decide +kernel) (Nat.le_of_ble_eq_true rfl) ?_
  intro p e s m args below meth c A ls Q hQ X hl hG
  have hl : lv_has ls 7 [(0, .ref o0), (1, .int a1), (2, .ref na)] := hl
  have hx := X.1
  have hb := X.2.1
  have hown := X.2.2.2.1
  unfold f_X5_value at hf
  refine lv_iconst (v := 0) hx hb dX5_value_0 (by decide) ?_
  refine lv_istore_n (lv' := [(3, .int 0), (0, .ref o0), (1, .int a1), (2, .ref na)]) hx hb dX5_value_1 rfl hl (by decide) rfl (fun ls hl => ?_)
  refine lv_aload_n hx hb dX5_value_2 rfl (lv_at hl 1 rfl) ?_
  refine G_5_15 X hG 0 rfl dX5_value_3 ?_
  refine lv_iload_n hx hb dX5_value_6 rfl (lv_at hl 2 rfl) ?_
  refine r_iald X hG 0 2 rfl rfl hf dX5_value_7 (fun x1 hf => ?_)
  refine lv_istore (lv' := [(4, .int x1), (3, .int 0), (0, .ref o0), (1, .int a1), (2, .ref na)]) hx hb dX5_value_8 hl (by decide) rfl (fun ls hl => ?_)
  refine lp_go (P := fun (t2 : Int32 × Int32 × MS) => ∀ (H : Heap) (locs : List Loc) (ls : Array Slot), GM g A s.heap H locs [wX5 g o0 ad0 t2.2.2, wF g na 6 s1] → lv_has ls 7 [(0, .ref o0), (1, .int a1), (2, .ref na), (3, .int t2.1), (4, .int t2.2.1)] → W p l e rmX5_value s m args below meth c H locs 0 0 Q (F0 m 10 ls [])) hf (fun K3 hK3 t2 hf H locs ls hG hl => ?_) _ _ _ hG (lv_sub hl [2, 3, 4, 1, 0] rfl)
  refine lv_iload hx hb dX5_value_10 (lv_at hl 4 rfl) ?_
  refine lv_aload_n hx hb dX5_value_12 rfl (lv_at hl 0 rfl) ?_
  refine G_5_15 X hG 0 rfl dX5_value_13 ?_
  refine lv_iload_n hx hb dX5_value_16 rfl (lv_at hl 1 rfl) ?_
  refine lv_iconst (v := 1) hx hb dX5_value_17 (by decide) ?_
  refine lv_iadd hx hb dX5_value_18 ?_
  refine r_iald X hG 0 2 rfl rfl hf dX5_value_19 (fun x4 hf => ?_)
  refine lv_icmp_ge (tgt := 197) hx hb dX5_value_20 (by decide) (fun hc5 => ?_) (fun hc5 => ?_)
  · replace hf := ite_t hf hc5
    refine lv_iload_n hx hb dX5_value_197 rfl (lv_at hl 3 rfl) ?_
    refine lv_iconst (v := 1) hx hb dX5_value_198 (by decide) ?_
    refine lv_icmp_ge (tgt := 206) hx hb dX5_value_199 (by decide) (fun hc6 => ?_) (fun hc6 => ?_)
    · replace hf := ite_t hf hc6
      refine lv_aload_n hx hb dX5_value_206 rfl (lv_at hl 0 rfl) ?_
      refine G_5_18 X hG 0 rfl dX5_value_207 ?_
      refine lv_iload_n hx hb dX5_value_210 rfl (lv_at hl 3 rfl) ?_
      refine lv_iconst (v := 1) hx hb dX5_value_211 (by decide) ?_
      refine lv_isub hx hb dX5_value_212 ?_
      refine r_iald X hG 0 3 rfl rfl hf dX5_value_213 (fun x7 hf => ?_)
      have hq9 := Option.some.inj hf
      subst hq9
      subst hQ
      exact r_iret X hG dX5_value_214
    · replace hf := ite_f hf hc6
      refine lv_iconst (v := 0) hx hb dX5_value_202 (by decide) ?_
      refine lv_goto (tgt := 214) hx hb dX5_value_203 (by decide) ?_
      have hq9 := Option.some.inj hf
      subst hq9
      subst hQ
      exact r_iret X hG dX5_value_214
  · replace hf := ite_f hf hc5
    refine lv_aload_n hx hb dX5_value_23 rfl (lv_at hl 0 rfl) ?_
    refine G_5_9 X hG 0 rfl dX5_value_24 ?_
    refine lv_iload hx hb dX5_value_27 (lv_at hl 4 rfl) ?_
    refine r_iald X hG 0 1 rfl rfl hf dX5_value_29 (fun x8 hf => ?_)
    refine lv_istore (lv' := [(5, .int x8), (0, .ref o0), (1, .int a1), (2, .ref na), (3, .int t2.1), (4, .int t2.2.1)]) hx hb dX5_value_30 hl (by decide) rfl (fun ls hl => ?_)
    refine lv_iload hx hb dX5_value_32 (lv_at hl 0 rfl) ?_
    refine lv_sipush (v := 300) hx hb dX5_value_34 (by decide) ?_
    refine jn_use (P := fun (t9 : Int32 × MS) => ∀ (H : Heap) (locs : List Loc) (ls : Array Slot), GM g A s.heap H locs [wX5 g o0 ad0 t9.2, wF g na 6 s1] → lv_has ls 7 [(0, .ref o0), (1, .int a1), (2, .ref na), (3, .int t9.1), (4, .int t2.2.1)] → W p l e rmX5_value s m args below meth c H locs 0 0 Q (F0 m 191 ls [])) hf (fun t9 hf H locs ls hG hl => ?_) (fun K10 hK10 hf => ?_)
    · refine lv_iinc (v := (t2.2.1 + 1)) (lv' := [(4, .int (t2.2.1 + 1)), (0, .ref o0), (1, .int a1), (2, .ref na), (3, .int t9.1)]) hx hb dX5_value_191 hl (k := 4) rfl rfl (by decide) rfl (fun ls hl => ?_)
      refine lv_goto (tgt := 10) hx hb dX5_value_194 (by decide) ?_
      exact hK3 _ hf _ _ _ hG (lv_sub hl [1, 2, 3, 4, 0] rfl)
    refine lv_icmp_lt (tgt := 86) hx hb dX5_value_37 (by decide) (fun hc11 => ?_) (fun hc11 => ?_)
    · replace hf := ite_t hf hc11
      refine lv_iload hx hb dX5_value_86 (lv_at hl 0 rfl) ?_
      refine lv_sipush (v := 258) hx hb dX5_value_88 (by decide) ?_
      refine jn_use (P := fun (t12 : Unit) => ∀ (H : Heap) (locs : List Loc) (ls : Array Slot), GM g A s.heap H locs [wX5 g o0 ad0 t2.2.2, wF g na 6 s1] → lv_has ls 7 [(0, .ref o0), (1, .int a1), (2, .ref na), (3, .int t2.1), (4, .int t2.2.1), (5, .int x8)] → W p l e rmX5_value s m args below meth c H locs 0 0 Q (F0 m 102 ls [])) hf (fun t12 hf H locs ls hG hl => ?_) (fun K13 hK13 hf => ?_)
      · refine lv_iload_n hx hb dX5_value_102 rfl (lv_at hl 3 rfl) ?_
        refine lv_iconst (v := 1) hx hb dX5_value_103 (by decide) ?_
        refine lv_icmp_ge (tgt := 109) hx hb dX5_value_104 (by decide) (fun hc14 => ?_) (fun hc14 => ?_)
        · replace hf := ite_t hf hc14
          refine lv_aload_n hx hb dX5_value_109 rfl (lv_at hl 0 rfl) ?_
          refine G_5_18 X hG 0 rfl dX5_value_110 ?_
          refine lv_iload_n hx hb dX5_value_113 rfl (lv_at hl 3 rfl) ?_
          refine lv_iconst (v := 1) hx hb dX5_value_114 (by decide) ?_
          refine lv_isub hx hb dX5_value_115 ?_
          refine r_iald X hG 0 3 rfl rfl hf dX5_value_116 (fun x15 hf => ?_)
          refine lv_istore (lv' := [(6, .int x15), (0, .ref o0), (1, .int a1), (2, .ref na), (3, .int t2.1), (4, .int t2.2.1), (5, .int x8)]) hx hb dX5_value_117 hl (by decide) rfl (fun ls hl => ?_)
          refine lv_aload_n hx hb dX5_value_119 rfl (lv_at hl 1 rfl) ?_
          refine G_5_18 X hG 0 rfl dX5_value_120 ?_
          refine lv_iload_n hx hb dX5_value_123 rfl (lv_at hl 4 rfl) ?_
          refine lv_iconst (v := 1) hx hb dX5_value_124 (by decide) ?_
          refine lv_isub hx hb dX5_value_125 ?_
          refine lv_iload hx hb dX5_value_126 (lv_at hl 6 rfl) ?_
          refine lv_sipush (v := 259) hx hb dX5_value_128 (by decide) ?_
          refine jn_use (P := fun (t16 : Int32) => ∀ (H : Heap) (locs : List Loc) (ls : Array Slot), GM g A s.heap H locs [wX5 g o0 ad0 t2.2.2, wF g na 6 s1] → lv_has ls 7 [(0, .ref o0), (1, .int a1), (2, .ref na), (3, .int t2.1), (4, .int t2.2.1)] → W p l e rmX5_value s m args below meth c H locs 0 0 Q (F0 m 150 ls [.int t16, .int (t2.1 - 1), .ref (ad0 2)])) hf (fun t16 hf H locs ls hG hl => ?_) (fun K17 hK17 hf => ?_)
          · refine r_iast X hG 0 3 rfl rfl hf (fun t => [wX5 g o0 ad0 t, wF g na 6 s1]) rfl dX5_value_150 (fun z18 H locs hf hG => ?_)
            refine lv_goto (tgt := 191) hx hb dX5_value_151 (by decide) ?_
            exact hK10 _ hf _ _ _ hG (lv_sub hl [0, 1, 2, 3, 4] rfl)
          refine lv_icmp_ne (tgt := 140) hx hb dX5_value_131 (by decide) (fun hc19 => ?_) (fun hc19 => ?_)
          · replace hf := ite_f hf hc19
            refine lv_iload hx hb dX5_value_140 (lv_at hl 0 rfl) ?_
            refine lv_if_ne (tgt := 149) hx hb dX5_value_142 (by decide) (fun hc20 => ?_) (fun hc20 => ?_)
            · replace hf := ite_f hf hc20
              refine lv_iconst (v := 0) hx hb dX5_value_149 (by decide) ?_
              exact hK17 _ hf _ _ _ hG (lv_sub hl [1, 2, 3, 4, 5] rfl)
            · replace hf := ite_t hf hc20
              refine lv_iconst (v := 1) hx hb dX5_value_145 (by decide) ?_
              refine lv_goto (tgt := 150) hx hb dX5_value_146 (by decide) ?_
              exact hK17 _ hf _ _ _ hG (lv_sub hl [1, 2, 3, 4, 5] rfl)
          · replace hf := ite_t hf hc19
            refine lv_iload hx hb dX5_value_134 (lv_at hl 0 rfl) ?_
            refine lv_ineg hx hb dX5_value_136 ?_
            refine lv_goto (tgt := 150) hx hb dX5_value_137 (by decide) ?_
            exact hK17 _ hf _ _ _ hG (lv_sub hl [1, 2, 3, 4, 5] rfl)
        · replace hf := ite_f hf hc14
          refine lv_iconst (v := 0) hx hb dX5_value_107 (by decide) ?_
          have hq9 := Option.some.inj hf
          subst hq9
          subst hQ
          exact r_iret X hG dX5_value_108
      refine lv_icmp_eq (tgt := 102) hx hb dX5_value_91 (by decide) (fun hc21 => ?_) (fun hc21 => ?_)
      · replace hf := ite_t hf hc21
        exact hK13 _ hf _ _ _ hG (lv_sub hl [1, 2, 3, 4, 5, 0] rfl)
      · replace hf := ite_f hf hc21
        refine lv_iload hx hb dX5_value_94 (lv_at hl 0 rfl) ?_
        refine lv_sipush (v := 259) hx hb dX5_value_96 (by decide) ?_
        refine lv_icmp_ne (tgt := 154) hx hb dX5_value_99 (by decide) (fun hc22 => ?_) (fun hc22 => ?_)
        · replace hf := ite_f hf hc22
          refine lv_iload_n hx hb dX5_value_154 rfl (lv_at hl 4 rfl) ?_
          refine lv_iconst (v := 2) hx hb dX5_value_155 (by decide) ?_
          refine lv_icmp_ge (tgt := 161) hx hb dX5_value_156 (by decide) (fun hc23 => ?_) (fun hc23 => ?_)
          · replace hf := ite_t hf hc23
            refine lv_iinc (v := (t2.1 + (-1))) (lv' := [(3, .int (t2.1 + (-1))), (5, .int x8), (0, .ref o0), (1, .int a1), (2, .ref na), (4, .int t2.2.1)]) hx hb dX5_value_161 hl (k := 4) rfl rfl (by decide) rfl (fun ls hl => ?_)
            refine lv_aload_n hx hb dX5_value_164 rfl (lv_at hl 2 rfl) ?_
            refine G_5_18 X hG 0 rfl dX5_value_165 ?_
            refine lv_iload_n hx hb dX5_value_168 rfl (lv_at hl 0 rfl) ?_
            refine lv_iconst (v := 1) hx hb dX5_value_169 (by decide) ?_
            refine lv_isub hx hb dX5_value_170 ?_
            refine lv_iload hx hb dX5_value_171 (lv_at hl 1 rfl) ?_
            refine lv_aload_n hx hb dX5_value_173 rfl (lv_at hl 2 rfl) ?_
            refine G_5_18 X hG 0 rfl dX5_value_174 ?_
            refine lv_iload_n hx hb dX5_value_177 rfl (lv_at hl 0 rfl) ?_
            refine lv_iconst (v := 1) hx hb dX5_value_178 (by decide) ?_
            refine lv_isub hx hb dX5_value_179 ?_
            refine r_iald X hG 0 3 rfl rfl hf dX5_value_180 (fun x24 hf => ?_)
            refine lv_aload_n hx hb dX5_value_181 rfl (lv_at hl 2 rfl) ?_
            refine G_5_18 X hG 0 rfl dX5_value_182 ?_
            refine lv_iload_n hx hb dX5_value_185 rfl (lv_at hl 0 rfl) ?_
            refine r_iald X hG 0 3 rfl rfl hf dX5_value_186 (fun x25 hf => ?_)
            obtain ⟨q26, hq26, hf⟩ := cl_inv hf
            refine r_callSi (bc := []) (br := [wX5 g o0 ad0 t2.2.2, wF g na 6 s1]) (bs' := [wX5 g o0 ad0 t2.2.2, wF g na 6 s1]) (As := [.int x8, .int x24, .int x25]) (rest := [.int ((t2.1 + (-1)) - 1), .ref (ad0 2)]) X hG hl.1 (c_X5_joined g l n x8 x24 x25 q26 hq26) (List.Perm.refl _) (List.Perm.refl _) lk_X5_joined ls_X5_joined ml_5_25 rfl rfl ⟨Nat.le_of_ble_eq_true rfl, Nat.le_of_ble_eq_true rfl⟩ rfl rfl (Nat.le_of_ble_eq_true rfl) ⟨Nat.zero_le _, Nat.zero_le _⟩ dX5_value_187 (fun H locs hG => ?_)
            refine r_iast X hG 0 3 rfl rfl hf (fun t => [wX5 g o0 ad0 t, wF g na 6 s1]) rfl dX5_value_190 (fun z27 H locs hf hG => ?_)
            exact hK10 _ hf _ _ _ hG (lv_sub hl [2, 3, 4, 0, 5] rfl)
          · replace hf := ite_f hf hc23
            refine lv_iconst (v := 0) hx hb dX5_value_159 (by decide) ?_
            have hq9 := Option.some.inj hf
            subst hq9
            subst hQ
            exact r_iret X hG dX5_value_160
        · replace hf := ite_t hf hc22
          exact hK13 _ hf _ _ _ hG (lv_sub hl [1, 2, 3, 4, 5, 0] rfl)
    · replace hf := ite_f hf hc11
      refine lv_iload_n hx hb dX5_value_40 rfl (lv_at hl 4 rfl) ?_
      refine lv_sipush (v := 160) hx hb dX5_value_41 (by decide) ?_
      refine lv_icmp_lt (tgt := 49) hx hb dX5_value_44 (by decide) (fun hc28 => ?_) (fun hc28 => ?_)
      · replace hf := ite_t hf hc28
        refine lv_aload_n hx hb dX5_value_49 rfl (lv_at hl 1 rfl) ?_
        refine G_5_18 X hG 0 rfl dX5_value_50 ?_
        refine lv_iload_n hx hb dX5_value_53 rfl (lv_at hl 4 rfl) ?_
        refine lv_iload hx hb dX5_value_54 (lv_at hl 0 rfl) ?_
        refine lv_sipush (v := 1000) hx hb dX5_value_56 (by decide) ?_
        refine jn_use (P := fun (t29 : Int32) => ∀ (H : Heap) (locs : List Loc) (ls : Array Slot), GM g A s.heap H locs [wX5 g o0 ad0 t2.2.2, wF g na 6 s1] → lv_has ls 7 [(0, .ref o0), (1, .int a1), (2, .ref na), (3, .int t2.1), (4, .int t2.2.1)] → W p l e rmX5_value s m args below meth c H locs 0 0 Q (F0 m 79 ls [.int t29, .int t2.1, .ref (ad0 2)])) hf (fun t29 hf H locs ls hG hl => ?_) (fun K30 hK30 hf => ?_)
        · refine r_iast X hG 0 3 rfl rfl hf (fun t => [wX5 g o0 ad0 t, wF g na 6 s1]) rfl dX5_value_79 (fun z31 H locs hf hG => ?_)
          refine lv_iinc (v := (t2.1 + 1)) (lv' := [(3, .int (t2.1 + 1)), (0, .ref o0), (1, .int a1), (2, .ref na), (4, .int t2.2.1)]) hx hb dX5_value_80 hl (k := 3) rfl rfl (by decide) rfl (fun ls hl => ?_)
          refine lv_goto (tgt := 191) hx hb dX5_value_83 (by decide) ?_
          exact hK10 _ hf _ _ _ hG (lv_sub hl [1, 2, 3, 0, 4] rfl)
        refine lv_icmp_lt (tgt := 71) hx hb dX5_value_59 (by decide) (fun hc32 => ?_) (fun hc32 => ?_)
        · replace hf := ite_t hf hc32
          refine lv_aload_n hx hb dX5_value_71 rfl (lv_at hl 3 rfl) ?_
          refine lv_iload hx hb dX5_value_72 (lv_at hl 0 rfl) ?_
          refine lv_sipush (v := 300) hx hb dX5_value_74 (by decide) ?_
          refine lv_isub hx hb dX5_value_77 ?_
          refine r_iald X hG 1 0 rfl rfl hf dX5_value_78 (fun x33 hf => ?_)
          exact hK30 _ hf _ _ _ hG (lv_sub hl [1, 2, 3, 4, 5] rfl)
        · replace hf := ite_f hf hc32
          refine lv_iload hx hb dX5_value_62 (lv_at hl 0 rfl) ?_
          refine lv_sipush (v := 1000) hx hb dX5_value_64 (by decide) ?_
          refine lv_isub hx hb dX5_value_67 ?_
          refine lv_goto (tgt := 79) hx hb dX5_value_68 (by decide) ?_
          exact hK30 _ hf _ _ _ hG (lv_sub hl [1, 2, 3, 4, 5] rfl)
      · replace hf := ite_f hf hc28
        refine lv_iconst (v := 0) hx hb dX5_value_47 (by decide) ?_
        have hq9 := Option.some.inj hf
        subst hq9
        subst hQ
        exact r_iret X hG dX5_value_48
def rmX3_become : Room := { frames := 1, cells := 0, slots := 0, locals := 30 }
set_option maxHeartbeats 4000000 in
set_option maxRecDepth 100000 in
theorem c_X3_become (g : GT) (l : Launch) (o0 : Nat) (ad0 : Nat → Nat) (n : Nat) (a1 : Int32) (a2 : Int32) (s0 : MS) (q : MS) (hf : f_X3_become n a1 a2 s0 = some q) : CV g l yX3_become cX3_become 3 none rmX3_become [.ref o0, .int a1, .int a2] [wX3 g o0 ad0 s0] [wX3 g o0 ad0 q] := by
  refine CV_intro RX3 rfl (by decide +kernel) (Nat.le_of_ble_eq_true rfl) ?_
  intro p e s m args below meth c A ls Q hQ X hl hG
  have hl : lv_has ls 3 [(0, .ref o0), (1, .int a1), (2, .int a2)] := hl
  have hx := X.1
  have hb := X.2.1
  have hown := X.2.2.2.1
  unfold f_X3_become at hf
  refine lv_aload_n hx hb dX3_become_0 rfl (lv_at hl 0 rfl) ?_
  refine lv_iload_n hx hb dX3_become_1 rfl (lv_at hl 1 rfl) ?_
  refine P_3_9 X hG 0 rfl hf (fun t => [wX3 g o0 ad0 t]) (fun _ => rfl) dX3_become_2 (fun z1 H locs hf hG => ?_)
  refine lv_aload_n hx hb dX3_become_5 rfl (lv_at hl 0 rfl) ?_
  refine lv_iload_n hx hb dX3_become_6 rfl (lv_at hl 2 rfl) ?_
  refine P_3_15 X hG 0 rfl hf (fun t => [wX3 g o0 ad0 t]) (fun _ => rfl) dX3_become_7 (fun z2 H locs hf hG => ?_)
  refine lv_aload_n hx hb dX3_become_10 rfl (lv_at hl 0 rfl) ?_
  refine G_3_18 X hG 0 rfl dX3_become_11 ?_
  refine lv_iconst (v := 0) hx hb dX3_become_14 (by decide) ?_
  refine r_fill (idx := 22) X hG hl.1 (TW_at 776 (by decide +kernel) (by decide +kernel)) 0 1 rfl rfl hf (fun t => [wX3 g o0 ad0 t]) rfl (by decide) (Nat.le_of_ble_eq_true rfl) (Nat.le_of_ble_eq_true rfl) (Nat.le_of_ble_eq_true rfl) ⟨Nat.zero_le _, Nat.zero_le _⟩ dX3_become_15 (fun z3 H locs hf hG => ?_)
  have hq9 := Option.some.inj hf
  subst hq9
  subst hQ
  exact r_vret X hG dX3_become_18
def rmX3_put : Room := { frames := 0, cells := 0, slots := 0, locals := 0 }
set_option maxHeartbeats 4000000 in
set_option maxRecDepth 100000 in
theorem c_X3_put (g : GT) (l : Launch) (o0 : Nat) (ad0 : Nat → Nat) (n : Nat) (a1 : Int32) (a2 : Int32) (s0 : MS) (q : MS) (hf : f_X3_put n a1 a2 s0 = some q) : CV g l yX3_put cX3_put 3 none rmX3_put [.ref o0, .int a1, .int a2] [wX3 g o0 ad0 s0] [wX3 g o0 ad0 q] := by
  refine CV_intro RX3 rfl (by decide +kernel) (Nat.le_of_ble_eq_true rfl) ?_
  intro p e s m args below meth c A ls Q hQ X hl hG
  have hl : lv_has ls 3 [(0, .ref o0), (1, .int a1), (2, .int a2)] := hl
  have hx := X.1
  have hb := X.2.1
  have hown := X.2.2.2.1
  unfold f_X3_put at hf
  refine lv_aload_n hx hb dX3_put_0 rfl (lv_at hl 0 rfl) ?_
  refine G_3_9 X hG 0 rfl dX3_put_1 ?_
  refine lv_if_ne (tgt := 18) hx hb dX3_put_4 (by decide) (fun hc1 => ?_) (fun hc1 => ?_)
  · replace hf := ite_f hf hc1
    refine lv_aload_n hx hb dX3_put_18 rfl (lv_at hl 0 rfl) ?_
    refine G_3_9 X hG 0 rfl dX3_put_19 ?_
    refine lv_iconst (v := 1) hx hb dX3_put_22 (by decide) ?_
    refine lv_icmp_ne (tgt := 37) hx hb dX3_put_23 (by decide) (fun hc2 => ?_) (fun hc2 => ?_)
    · replace hf := ite_f hf hc2
      refine lv_aload_n hx hb dX3_put_37 rfl (lv_at hl 0 rfl) ?_
      refine G_3_18 X hG 0 rfl dX3_put_38 ?_
      refine lv_iload_n hx hb dX3_put_41 rfl (lv_at hl 1 rfl) ?_
      refine lv_iload_n hx hb dX3_put_42 rfl (lv_at hl 2 rfl) ?_
      refine r_iast X hG 0 1 rfl rfl hf (fun t => [wX3 g o0 ad0 t]) rfl dX3_put_43 (fun z3 H locs hf hG => ?_)
      have hq9 := Option.some.inj hf
      subst hq9
      subst hQ
      exact r_vret X hG dX3_put_44
    · replace hf := ite_t hf hc2
      refine lv_aload_n hx hb dX3_put_26 rfl (lv_at hl 0 rfl) ?_
      refine G_3_18 X hG 0 rfl dX3_put_27 ?_
      refine lv_iload_n hx hb dX3_put_30 rfl (lv_at hl 1 rfl) ?_
      refine lv_iload_n hx hb dX3_put_31 rfl (lv_at hl 2 rfl) ?_
      refine lv_i2s hx hb dX3_put_32 rfl ?_
      refine r_iast X hG 0 1 rfl rfl hf (fun t => [wX3 g o0 ad0 t]) rfl dX3_put_33 (fun z4 H locs hf hG => ?_)
      refine lv_goto (tgt := 44) hx hb dX3_put_34 (by decide) ?_
      have hq9 := Option.some.inj hf
      subst hq9
      subst hQ
      exact r_vret X hG dX3_put_44
  · replace hf := ite_t hf hc1
    refine lv_aload_n hx hb dX3_put_7 rfl (lv_at hl 0 rfl) ?_
    refine G_3_18 X hG 0 rfl dX3_put_8 ?_
    refine lv_iload_n hx hb dX3_put_11 rfl (lv_at hl 1 rfl) ?_
    refine lv_iload_n hx hb dX3_put_12 rfl (lv_at hl 2 rfl) ?_
    refine lv_i2b hx hb dX3_put_13 rfl ?_
    refine r_iast X hG 0 1 rfl rfl hf (fun t => [wX3 g o0 ad0 t]) rfl dX3_put_14 (fun z5 H locs hf hG => ?_)
    refine lv_goto (tgt := 44) hx hb dX3_put_15 (by decide) ?_
    have hq9 := Option.some.inj hf
    subst hq9
    subst hQ
    exact r_vret X hG dX3_put_44
def rmX3_has : Room := { frames := 1, cells := 0, slots := 0, locals := 22 }
set_option maxHeartbeats 4000000 in
set_option maxRecDepth 100000 in
theorem c_X3_has (g : GT) (l : Launch) (o0 : Nat) (ad0 : Nat → Nat) (n : Nat) (a1 : Int32) (s0 : MS) (q : Int32) (hf : f_X3_has n a1 s0 = some q) : CI g l yX3_has cX3_has 2 (some .boolean) rmX3_has [.ref o0, .int a1] [wX3 g o0 ad0 s0] q [wX3 g o0 ad0 s0] := by
  refine CI_intro RX3 rfl (by decide +kernel) (Nat.le_of_ble_eq_true rfl) ?_
  intro p e s m args below meth c A ls Q hQ X hl hG
  have hl : lv_has ls 2 [(0, .ref o0), (1, .int a1)] := hl
  have hx := X.1
  have hb := X.2.1
  have hown := X.2.2.2.1
  unfold f_X3_has at hf
  refine lv_iload_n hx hb dX3_has_0 rfl (lv_at hl 1 rfl) ?_
  refine lv_iconst (v := 0) hx hb dX3_has_1 (by decide) ?_
  refine lv_aload_n hx hb dX3_has_2 rfl (lv_at hl 0 rfl) ?_
  refine G_3_15 X hG 0 rfl dX3_has_3 ?_
  refine lv_iconst (v := 1) hx hb dX3_has_6 (by decide) ?_
  refine lv_isub hx hb dX3_has_7 ?_
  obtain ⟨q1, hq1, hf⟩ := cl_inv hf
  refine r_callNi (bc := []) (br := [wX3 g o0 ad0 s0]) (bs' := [wX3 g o0 ad0 s0]) (As := [.int a1, .int 0, .int ((s0.1 1) - 1)]) (rest := []) X hG hl.1 (c_X7_between g l n a1 0 ((s0.1 1) - 1) q1 hq1) (List.Perm.refl _) (List.Perm.refl _) lk_X7_between ls_X7_between mn_3_28 rfl rfl ⟨Nat.le_of_ble_eq_true rfl, Nat.le_of_ble_eq_true rfl⟩ rfl rfl (Nat.le_of_ble_eq_true rfl) ⟨Nat.zero_le _, Nat.zero_le _⟩ dX3_has_8 (fun H locs hG => ?_)
  obtain ⟨hz, hf⟩ := ck_inv hf
  have hq9 := Option.some.inj hf
  subst hq9
  subst hQ
  exact r_zret X hG (of_decide_eq_true hz) dX3_has_11
def rmX3_hasRow : Room := { frames := 1, cells := 0, slots := 0, locals := 22 }
set_option maxHeartbeats 4000000 in
set_option maxRecDepth 100000 in
theorem c_X3_hasRow (g : GT) (l : Launch) (o0 : Nat) (ad0 : Nat → Nat) (n : Nat) (a1 : Int32) (a2 : Int32) (s0 : MS) (q : Int32) (hf : f_X3_hasRow n a1 a2 s0 = some q) : CI g l yX3_hasRow cX3_hasRow 3 (some .boolean) rmX3_hasRow [.ref o0, .int a1, .int a2] [wX3 g o0 ad0 s0] q [wX3 g o0 ad0 s0] := by
  refine CI_intro RX3 rfl (by decide +kernel) (Nat.le_of_ble_eq_true rfl) ?_
  intro p e s m args below meth c A ls Q hQ X hl hG
  have hl : lv_has ls 3 [(0, .ref o0), (1, .int a1), (2, .int a2)] := hl
  have hx := X.1
  have hb := X.2.1
  have hown := X.2.2.2.1
  unfold f_X3_hasRow at hf
  refine lv_iload_n hx hb dX3_hasRow_0 rfl (lv_at hl 2 rfl) ?_
  refine lv_if_lt (tgt := 30) hx hb dX3_hasRow_1 (by decide) (fun hc1 => ?_) (fun hc1 => ?_)
  · replace hf := ite_t hf hc1
    refine lv_iconst (v := 0) hx hb dX3_hasRow_30 (by decide) ?_
    obtain ⟨hz, hf⟩ := ck_inv hf
    have hq9 := Option.some.inj hf
    subst hq9
    subst hQ
    exact r_zret X hG (of_decide_eq_true hz) dX3_hasRow_31
  · replace hf := ite_f hf hc1
    refine lv_iload_n hx hb dX3_hasRow_4 rfl (lv_at hl 1 rfl) ?_
    refine lv_iconst (v := 0) hx hb dX3_hasRow_5 (by decide) ?_
    refine lv_aload_n hx hb dX3_hasRow_6 rfl (lv_at hl 0 rfl) ?_
    refine G_3_15 X hG 0 rfl dX3_hasRow_7 ?_
    obtain ⟨q2, hq2, hf⟩ := cl_inv hf
    refine r_callNi (bc := []) (br := [wX3 g o0 ad0 s0]) (bs' := [wX3 g o0 ad0 s0]) (As := [.int a1, .int 0, .int (s0.1 1)]) (rest := []) X hG hl.1 (c_X7_between g l n a1 0 (s0.1 1) q2 hq2) (List.Perm.refl _) (List.Perm.refl _) lk_X7_between ls_X7_between mn_3_28 rfl rfl ⟨Nat.le_of_ble_eq_true rfl, Nat.le_of_ble_eq_true rfl⟩ rfl rfl (Nat.le_of_ble_eq_true rfl) ⟨Nat.zero_le _, Nat.zero_le _⟩ dX3_hasRow_10 (fun H locs hG => ?_)
    refine lv_if_eq (tgt := 30) hx hb dX3_hasRow_13 (by decide) (fun hc3 => ?_) (fun hc3 => ?_)
    · replace hf := ite_t hf hc3
      refine lv_iconst (v := 0) hx hb dX3_hasRow_30 (by decide) ?_
      obtain ⟨hz, hf⟩ := ck_inv hf
      have hq9 := Option.some.inj hf
      subst hq9
      subst hQ
      exact r_zret X hG (of_decide_eq_true hz) dX3_hasRow_31
    · replace hf := ite_f hf hc3
      refine lv_iload_n hx hb dX3_hasRow_16 rfl (lv_at hl 2 rfl) ?_
      refine lv_aload_n hx hb dX3_hasRow_17 rfl (lv_at hl 0 rfl) ?_
      refine G_3_15 X hG 0 rfl dX3_hasRow_18 ?_
      refine lv_iload_n hx hb dX3_hasRow_21 rfl (lv_at hl 1 rfl) ?_
      refine lv_isub hx hb dX3_hasRow_22 ?_
      refine lv_icmp_gt (tgt := 30) hx hb dX3_hasRow_23 (by decide) (fun hc4 => ?_) (fun hc4 => ?_)
      · replace hf := ite_t hf hc4
        refine lv_iconst (v := 0) hx hb dX3_hasRow_30 (by decide) ?_
        obtain ⟨hz, hf⟩ := ck_inv hf
        have hq9 := Option.some.inj hf
        subst hq9
        subst hQ
        exact r_zret X hG (of_decide_eq_true hz) dX3_hasRow_31
      · replace hf := ite_f hf hc4
        refine lv_iconst (v := 1) hx hb dX3_hasRow_26 (by decide) ?_
        refine lv_goto (tgt := 31) hx hb dX3_hasRow_27 (by decide) ?_
        obtain ⟨hz, hf⟩ := ck_inv hf
        have hq9 := Option.some.inj hf
        subst hq9
        subst hQ
        exact r_zret X hG (of_decide_eq_true hz) dX3_hasRow_31
def rmX3_allBetween : Room := { frames := 1, cells := 0, slots := 0, locals := 22 }
set_option maxHeartbeats 4000000 in
set_option maxRecDepth 100000 in
theorem c_X3_allBetween (g : GT) (l : Launch) (o0 : Nat) (ad0 : Nat → Nat) (n : Nat) (a1 : Int32) (a2 : Int32) (s0 : MS) (q : Int32) (hf : f_X3_allBetween n a1 a2 s0 = some q) : CI g l yX3_allBetween cX3_allBetween 4 (some .boolean) rmX3_allBetween [.ref o0, .int a1, .int a2] [wX3 g o0 ad0 s0] q [wX3 g o0 ad0 s0] := by
  refine CI_intro RX3 rfl (by decide +kernel) (Nat.le_of_ble_eq_true rfl) ?_
  intro p e s m args below meth c A ls Q hQ X hl hG
  have hl : lv_has ls 4 [(0, .ref o0), (1, .int a1), (2, .int a2)] := hl
  have hx := X.1
  have hb := X.2.1
  have hown := X.2.2.2.1
  unfold f_X3_allBetween at hf
  refine lv_iconst (v := 0) hx hb dX3_allBetween_0 (by decide) ?_
  refine lv_istore_n (lv' := [(3, .int 0), (0, .ref o0), (1, .int a1), (2, .int a2)]) hx hb dX3_allBetween_1 rfl hl (by decide) rfl (fun ls hl => ?_)
  refine lp_go (P := fun (t1 : Int32) => ∀ (H : Heap) (locs : List Loc) (ls : Array Slot), GM g A s.heap H locs [wX3 g o0 ad0 s0] → lv_has ls 4 [(0, .ref o0), (1, .int a1), (2, .int a2), (3, .int t1)] → W p l e rmX3_allBetween s m args below meth c H locs 0 0 Q (F0 m 2 ls [])) hf (fun K2 hK2 t1 hf H locs ls hG hl => ?_) _ _ _ hG (lv_sub hl [1, 2, 3, 0] rfl)
  refine lv_iload_n hx hb dX3_allBetween_2 rfl (lv_at hl 3 rfl) ?_
  refine lv_aload_n hx hb dX3_allBetween_3 rfl (lv_at hl 0 rfl) ?_
  refine G_3_15 X hG 0 rfl dX3_allBetween_4 ?_
  refine lv_icmp_ge (tgt := 32) hx hb dX3_allBetween_7 (by decide) (fun hc3 => ?_) (fun hc3 => ?_)
  · replace hf := ite_t hf hc3
    refine lv_iconst (v := 1) hx hb dX3_allBetween_32 (by decide) ?_
    obtain ⟨hz, hf⟩ := ck_inv hf
    have hq9 := Option.some.inj hf
    subst hq9
    subst hQ
    exact r_zret X hG (of_decide_eq_true hz) dX3_allBetween_33
  · replace hf := ite_f hf hc3
    refine lv_aload_n hx hb dX3_allBetween_10 rfl (lv_at hl 0 rfl) ?_
    refine G_3_18 X hG 0 rfl dX3_allBetween_11 ?_
    refine lv_iload_n hx hb dX3_allBetween_14 rfl (lv_at hl 3 rfl) ?_
    refine r_iald X hG 0 1 rfl rfl hf dX3_allBetween_15 (fun x4 hf => ?_)
    refine lv_iload_n hx hb dX3_allBetween_16 rfl (lv_at hl 1 rfl) ?_
    refine lv_iload_n hx hb dX3_allBetween_17 rfl (lv_at hl 2 rfl) ?_
    obtain ⟨q5, hq5, hf⟩ := cl_inv hf
    refine r_callNi (bc := []) (br := [wX3 g o0 ad0 s0]) (bs' := [wX3 g o0 ad0 s0]) (As := [.int x4, .int a1, .int a2]) (rest := []) X hG hl.1 (c_X7_between g l n x4 a1 a2 q5 hq5) (List.Perm.refl _) (List.Perm.refl _) lk_X7_between ls_X7_between mn_3_28 rfl rfl ⟨Nat.le_of_ble_eq_true rfl, Nat.le_of_ble_eq_true rfl⟩ rfl rfl (Nat.le_of_ble_eq_true rfl) ⟨Nat.zero_le _, Nat.zero_le _⟩ dX3_allBetween_18 (fun H locs hG => ?_)
    refine lv_if_ne (tgt := 26) hx hb dX3_allBetween_21 (by decide) (fun hc6 => ?_) (fun hc6 => ?_)
    · replace hf := ite_f hf hc6
      refine lv_iinc (v := (t1 + 1)) (lv' := [(3, .int (t1 + 1)), (0, .ref o0), (1, .int a1), (2, .int a2)]) hx hb dX3_allBetween_26 hl (k := 3) rfl rfl (by decide) rfl (fun ls hl => ?_)
      refine lv_goto (tgt := 2) hx hb dX3_allBetween_29 (by decide) ?_
      exact hK2 _ hf _ _ _ hG (lv_sub hl [1, 2, 3, 0] rfl)
    · replace hf := ite_t hf hc6
      refine lv_iconst (v := 0) hx hb dX3_allBetween_24 (by decide) ?_
      obtain ⟨hz, hf⟩ := ck_inv hf
      have hq9 := Option.some.inj hf
      subst hq9
      subst hQ
      exact r_zret X hG (of_decide_eq_true hz) dX3_allBetween_25
def rmX2_sizeOf : Room := { frames := 0, cells := 0, slots := 0, locals := 0 }
set_option maxHeartbeats 4000000 in
set_option maxRecDepth 100000 in
theorem c_X2_sizeOf (g : GT) (l : Launch) (o0 : Nat) (ad0 : Nat → Nat) (n : Nat) (a1 : Int32) (s0 : MS) (q : Int32) (hf : f_X2_sizeOf n a1 s0 = some q) : CI g l yX2_sizeOf cX2_sizeOf 2 (some .int) rmX2_sizeOf [.ref o0, .int a1] [wX2 g o0 ad0 s0] q [wX2 g o0 ad0 s0] := by
  refine CI_intro RX2 rfl (by decide +kernel) (Nat.le_of_ble_eq_true rfl) ?_
  intro p e s m args below meth c A ls Q hQ X hl hG
  have hl : lv_has ls 2 [(0, .ref o0), (1, .int a1)] := hl
  have hx := X.1
  have hb := X.2.1
  have hown := X.2.2.2.1
  unfold f_X2_sizeOf at hf
  refine lv_iload_n hx hb dX2_sizeOf_0 rfl (lv_at hl 1 rfl) ?_
  refine lv_iconst (v := 4) hx hb dX2_sizeOf_1 (by decide) ?_
  refine lv_icmp_ne (tgt := 10) hx hb dX2_sizeOf_2 (by decide) (fun hc1 => ?_) (fun hc1 => ?_)
  · replace hf := ite_f hf hc1
    refine lv_aload_n hx hb dX2_sizeOf_10 rfl (lv_at hl 0 rfl) ?_
    refine G_2_9 X hG 0 rfl dX2_sizeOf_11 ?_
    have hq9 := Option.some.inj hf
    subst hq9
    subst hQ
    exact r_iret X hG dX2_sizeOf_14
  · replace hf := ite_t hf hc1
    refine lv_bipush (v := 120) hx hb dX2_sizeOf_5 (by decide) ?_
    refine lv_goto (tgt := 14) hx hb dX2_sizeOf_7 (by decide) ?_
    have hq9 := Option.some.inj hf
    subst hq9
    subst hQ
    exact r_iret X hG dX2_sizeOf_14
def rmX2_isShutIn : Room := { frames := 1, cells := 0, slots := 0, locals := 22 }
set_option maxHeartbeats 4000000 in
set_option maxRecDepth 100000 in
theorem c_X2_isShutIn (g : GT) (l : Launch) (o0 : Nat) (ad0 : Nat → Nat) (n : Nat) (a1 : Int32) (s0 : MS) (q : Int32) (hf : f_X2_isShutIn n a1 s0 = some q) : CI g l yX2_isShutIn cX2_isShutIn 2 (some .boolean) rmX2_isShutIn [.ref o0, .int a1] [wX2 g o0 ad0 s0] q [wX2 g o0 ad0 s0] := by
  refine CI_intro RX2 rfl (by decide +kernel) (Nat.le_of_ble_eq_true rfl) ?_
  intro p e s m args below meth c A ls Q hQ X hl hG
  have hl : lv_has ls 2 [(0, .ref o0), (1, .int a1)] := hl
  have hx := X.1
  have hb := X.2.1
  have hown := X.2.2.2.1
  unfold f_X2_isShutIn at hf
  refine lv_aload_n hx hb dX2_isShutIn_0 rfl (lv_at hl 0 rfl) ?_
  refine G_2_34 X hG 0 rfl dX2_isShutIn_1 ?_
  refine lv_iconst (v := (-1)) hx hb dX2_isShutIn_4 (by decide) ?_
  refine lv_icmp_eq (tgt := 27) hx hb dX2_isShutIn_5 (by decide) (fun hc1 => ?_) (fun hc1 => ?_)
  · replace hf := ite_t hf hc1
    refine lv_iconst (v := 0) hx hb dX2_isShutIn_27 (by decide) ?_
    obtain ⟨hz, hf⟩ := ck_inv hf
    have hq9 := Option.some.inj hf
    subst hq9
    subst hQ
    exact r_zret X hG (of_decide_eq_true hz) dX2_isShutIn_28
  · replace hf := ite_f hf hc1
    refine lv_iload_n hx hb dX2_isShutIn_8 rfl (lv_at hl 1 rfl) ?_
    refine lv_aload_n hx hb dX2_isShutIn_9 rfl (lv_at hl 0 rfl) ?_
    refine G_2_34 X hG 0 rfl dX2_isShutIn_10 ?_
    refine lv_aload_n hx hb dX2_isShutIn_13 rfl (lv_at hl 0 rfl) ?_
    refine G_2_37 X hG 0 rfl dX2_isShutIn_14 ?_
    obtain ⟨q2, hq2, hf⟩ := cl_inv hf
    refine r_callNi (bc := []) (br := [wX2 g o0 ad0 s0]) (bs' := [wX2 g o0 ad0 s0]) (As := [.int a1, .int (s0.1 7), .int (s0.1 8)]) (rest := []) X hG hl.1 (c_X7_between g l n a1 (s0.1 7) (s0.1 8) q2 hq2) (List.Perm.refl _) (List.Perm.refl _) lk_X7_between ls_X7_between mn_2_53 rfl rfl ⟨Nat.le_of_ble_eq_true rfl, Nat.le_of_ble_eq_true rfl⟩ rfl rfl (Nat.le_of_ble_eq_true rfl) ⟨Nat.zero_le _, Nat.zero_le _⟩ dX2_isShutIn_17 (fun H locs hG => ?_)
    refine lv_if_eq (tgt := 27) hx hb dX2_isShutIn_20 (by decide) (fun hc3 => ?_) (fun hc3 => ?_)
    · replace hf := ite_t hf hc3
      refine lv_iconst (v := 0) hx hb dX2_isShutIn_27 (by decide) ?_
      obtain ⟨hz, hf⟩ := ck_inv hf
      have hq9 := Option.some.inj hf
      subst hq9
      subst hQ
      exact r_zret X hG (of_decide_eq_true hz) dX2_isShutIn_28
    · replace hf := ite_f hf hc3
      refine lv_iconst (v := 1) hx hb dX2_isShutIn_23 (by decide) ?_
      refine lv_goto (tgt := 28) hx hb dX2_isShutIn_24 (by decide) ?_
      obtain ⟨hz, hf⟩ := ck_inv hf
      have hq9 := Option.some.inj hf
      subst hq9
      subst hQ
      exact r_zret X hG (of_decide_eq_true hz) dX2_isShutIn_28
def rmX2_allUp : Room := { frames := 0, cells := 0, slots := 0, locals := 0 }
set_option maxHeartbeats 4000000 in
set_option maxRecDepth 100000 in
theorem c_X2_allUp (g : GT) (l : Launch) (o0 : Nat) (ad0 : Nat → Nat) (n : Nat) (s0 : MS) (q : Int32) (hf : f_X2_allUp n s0 = some q) : CI g l yX2_allUp cX2_allUp 3 (some .int) rmX2_allUp [.ref o0] [wX2 g o0 ad0 s0] q [wX2 g o0 ad0 s0] := by
  refine CI_intro RX2 rfl (by decide +kernel) (Nat.le_of_ble_eq_true rfl) ?_
  intro p e s m args below meth c A ls Q hQ X hl hG
  have hl : lv_has ls 3 [(0, .ref o0)] := hl
  have hx := X.1
  have hb := X.2.1
  have hown := X.2.2.2.1
  unfold f_X2_allUp at hf
  refine lv_iconst (v := 0) hx hb dX2_allUp_0 (by decide) ?_
  refine lv_istore_n (lv' := [(1, .int 0), (0, .ref o0)]) hx hb dX2_allUp_1 rfl hl (by decide) rfl (fun ls hl => ?_)
  refine lv_iconst (v := 0) hx hb dX2_allUp_2 (by decide) ?_
  refine lv_istore_n (lv' := [(2, .int 0), (1, .int 0), (0, .ref o0)]) hx hb dX2_allUp_3 rfl hl (by decide) rfl (fun ls hl => ?_)
  refine lp_go (P := fun (t1 : Int32 × Int32) => ∀ (H : Heap) (locs : List Loc) (ls : Array Slot), GM g A s.heap H locs [wX2 g o0 ad0 s0] → lv_has ls 3 [(0, .ref o0), (1, .int t1.1), (2, .int t1.2)] → W p l e rmX2_allUp s m args below meth c H locs 0 0 Q (F0 m 4 ls [])) hf (fun K2 hK2 t1 hf H locs ls hG hl => ?_) _ _ _ hG (lv_sub hl [2, 1, 0] rfl)
  refine lv_iload_n hx hb dX2_allUp_4 rfl (lv_at hl 2 rfl) ?_
  refine lv_aload_n hx hb dX2_allUp_5 rfl (lv_at hl 0 rfl) ?_
  refine G_2_9 X hG 0 rfl dX2_allUp_6 ?_
  refine lv_icmp_ge (tgt := 27) hx hb dX2_allUp_9 (by decide) (fun hc3 => ?_) (fun hc3 => ?_)
  · replace hf := ite_t hf hc3
    refine lv_iload_n hx hb dX2_allUp_27 rfl (lv_at hl 1 rfl) ?_
    have hq9 := Option.some.inj hf
    subst hq9
    subst hQ
    exact r_iret X hG dX2_allUp_28
  · replace hf := ite_f hf hc3
    refine lv_iload_n hx hb dX2_allUp_12 rfl (lv_at hl 1 rfl) ?_
    refine lv_aload_n hx hb dX2_allUp_13 rfl (lv_at hl 0 rfl) ?_
    refine G_2_15 X hG 0 rfl dX2_allUp_14 ?_
    refine lv_iload_n hx hb dX2_allUp_17 rfl (lv_at hl 2 rfl) ?_
    refine r_iald X hG 0 1 rfl rfl hf dX2_allUp_18 (fun x4 hf => ?_)
    refine lv_iadd hx hb dX2_allUp_19 ?_
    refine r_bni hf (fun x5 hf => ?_)
    refine lv_istore_n (lv' := [(1, .int x5), (0, .ref o0), (2, .int t1.2)]) hx hb dX2_allUp_20 rfl hl (by decide) rfl (fun ls hl => ?_)
    refine lv_iinc (v := (t1.2 + 1)) (lv' := [(2, .int (t1.2 + 1)), (1, .int x5), (0, .ref o0)]) hx hb dX2_allUp_21 hl (k := 2) rfl rfl (by decide) rfl (fun ls hl => ?_)
    refine lv_goto (tgt := 4) hx hb dX2_allUp_24 (by decide) ?_
    exact hK2 _ hf _ _ _ hG (lv_sub hl [2, 1, 0] rfl)
def rmX2_rowOf : Room := { frames := 0, cells := 0, slots := 0, locals := 0 }
set_option maxHeartbeats 4000000 in
set_option maxRecDepth 100000 in
theorem c_X2_rowOf (g : GT) (l : Launch) (o0 : Nat) (ad0 : Nat → Nat) (n : Nat) (a1 : Int32) (s0 : MS) (q : Option Nat) (hf : f_X2_rowOf n a1 s0 = some q) : CQ g l yX2_rowOf cX2_rowOf 2 (some (.array .int)) rmX2_rowOf [.ref o0, .int a1] [wX2 g o0 ad0 s0] (q.map ad0) [wX2 g o0 ad0 s0] := by
  refine CQ_intro RX2 rfl (by decide +kernel) (Nat.le_of_ble_eq_true rfl) ?_
  intro p e s m args below meth c A ls Q hQ X hl hG
  have hl : lv_has ls 2 [(0, .ref o0), (1, .int a1)] := hl
  have hx := X.1
  have hb := X.2.1
  have hown := X.2.2.2.1
  unfold f_X2_rowOf at hf
  refine lv_iload_n hx hb dX2_rowOf_0 rfl (lv_at hl 1 rfl) ?_
  by_cases hk1_0 : a1 = 0
  · replace hf := ite_t hf hk1_0
    refine r_tsi (tgt := 36) (off := 35) X dX2_rowOf_1 hk1_0 (by decide +kernel) (by decide +kernel) (by decide) ?_
    refine lv_aload_n hx hb dX2_rowOf_36 rfl (lv_at hl 0 rfl) ?_
    refine G_2_15 X hG 0 rfl dX2_rowOf_37 ?_
    have hq9 := Option.some.inj hf
    subst hq9
    subst hQ
    exact r_qret X hG (by first | exact Or.inl ⟨_, rfl⟩ | exact Or.inr ⟨_, rfl⟩) dX2_rowOf_40
  · replace hf := ite_f hf hk1_0
    by_cases hk1_1 : a1 = 1
    · replace hf := ite_t hf hk1_1
      refine r_tsi (tgt := 41) (off := 40) X dX2_rowOf_1 hk1_1 (by decide +kernel) (by decide +kernel) (by decide) ?_
      refine lv_aload_n hx hb dX2_rowOf_41 rfl (lv_at hl 0 rfl) ?_
      refine G_2_19 X hG 0 rfl dX2_rowOf_42 ?_
      have hq9 := Option.some.inj hf
      subst hq9
      subst hQ
      exact r_qret X hG (by first | exact Or.inl ⟨_, rfl⟩ | exact Or.inr ⟨_, rfl⟩) dX2_rowOf_45
    · replace hf := ite_f hf hk1_1
      by_cases hk1_2 : a1 = 2
      · replace hf := ite_t hf hk1_2
        refine r_tsi (tgt := 46) (off := 45) X dX2_rowOf_1 hk1_2 (by decide +kernel) (by decide +kernel) (by decide) ?_
        refine lv_aload_n hx hb dX2_rowOf_46 rfl (lv_at hl 0 rfl) ?_
        refine G_2_22 X hG 0 rfl dX2_rowOf_47 ?_
        have hq9 := Option.some.inj hf
        subst hq9
        subst hQ
        exact r_qret X hG (by first | exact Or.inl ⟨_, rfl⟩ | exact Or.inr ⟨_, rfl⟩) dX2_rowOf_50
      · replace hf := ite_f hf hk1_2
        by_cases hk1_3 : a1 = 3
        · replace hf := ite_t hf hk1_3
          refine r_tsi (tgt := 51) (off := 50) X dX2_rowOf_1 hk1_3 (by decide +kernel) (by decide +kernel) (by decide) ?_
          refine lv_aload_n hx hb dX2_rowOf_51 rfl (lv_at hl 0 rfl) ?_
          refine G_2_25 X hG 0 rfl dX2_rowOf_52 ?_
          have hq9 := Option.some.inj hf
          subst hq9
          subst hQ
          exact r_qret X hG (by first | exact Or.inl ⟨_, rfl⟩ | exact Or.inr ⟨_, rfl⟩) dX2_rowOf_55
        · replace hf := ite_f hf hk1_3
          by_cases hk1_4 : a1 = 4
          · replace hf := ite_t hf hk1_4
            refine r_tsi (tgt := 56) (off := 55) X dX2_rowOf_1 hk1_4 (by decide +kernel) (by decide +kernel) (by decide) ?_
            refine lv_aload_n hx hb dX2_rowOf_56 rfl (lv_at hl 0 rfl) ?_
            refine G_2_28 X hG 0 rfl dX2_rowOf_57 ?_
            have hq9 := Option.some.inj hf
            subst hq9
            subst hQ
            exact r_qret X hG (by first | exact Or.inl ⟨_, rfl⟩ | exact Or.inr ⟨_, rfl⟩) dX2_rowOf_60
          · replace hf := ite_f hf hk1_4
            refine r_tso (tgt := 61) X dX2_rowOf_1 (ks := [0, 1, 2, 3, 4]) (List.forall_mem_cons.mpr ⟨hk1_0, List.forall_mem_cons.mpr ⟨hk1_1, List.forall_mem_cons.mpr ⟨hk1_2, List.forall_mem_cons.mpr ⟨hk1_3, List.forall_mem_cons.mpr ⟨hk1_4, List.forall_mem_nil _⟩⟩⟩⟩⟩) (by decide +kernel) (by decide) ?_
            refine lv_null hx hb dX2_rowOf_61 ?_
            have hq9 := Option.some.inj hf
            subst hq9
            subst hQ
            exact r_qret X hG (by first | exact Or.inl ⟨_, rfl⟩ | exact Or.inr ⟨_, rfl⟩) dX2_rowOf_62
def rmX2_addSort : Room := { frames := 2, cells := 0, slots := 0, locals := 43 }
set_option maxHeartbeats 4000000 in
set_option maxRecDepth 100000 in
theorem c_X2_addSort (g : GT) (l : Launch) (o0 : Nat) (ad0 : Nat → Nat) (n : Nat) (a1 : Int32) (a2 : Int32) (s0 : MS) (q : Int32 × MS) (hf : f_X2_addSort n a1 a2 s0 = some q) : CI g l yX2_addSort cX2_addSort 6 (some .int) rmX2_addSort [.ref o0, .int a1, .int a2] [wX2 g o0 ad0 s0] q.1 [wX2 g o0 ad0 q.2] := by
  refine CI_intro RX2 rfl (by decide +kernel) (Nat.le_of_ble_eq_true rfl) ?_
  intro p e s m args below meth c A ls Q hQ X hl hG
  have hl : lv_has ls 6 [(0, .ref o0), (1, .int a1), (2, .int a2)] := hl
  have hx := X.1
  have hb := X.2.1
  have hown := X.2.2.2.1
  unfold f_X2_addSort at hf
  refine lv_iload_n hx hb dX2_addSort_0 rfl (lv_at hl 2 rfl) ?_
  refine lv_if_ge (tgt := 7) hx hb dX2_addSort_1 (by decide) (fun hc1 => ?_) (fun hc1 => ?_)
  · replace hf := ite_t hf hc1
    refine lv_iload_n hx hb dX2_addSort_7 rfl (lv_at hl 2 rfl) ?_
    refine lv_sipush (v := 1000) hx hb dX2_addSort_8 (by decide) ?_
    refine r_idiv X hf dX2_addSort_11 (fun hf => ?_)
    refine r_bni hf (fun x2 hf => ?_)
    refine lv_istore_n (lv' := [(3, .int x2), (0, .ref o0), (1, .int a1), (2, .int a2)]) hx hb dX2_addSort_12 rfl hl (by decide) rfl (fun ls hl => ?_)
    refine lv_iload_n hx hb dX2_addSort_13 rfl (lv_at hl 3 rfl) ?_
    refine lv_bipush (v := 10) hx hb dX2_addSort_14 (by decide) ?_
    refine r_idiv X hf dX2_addSort_16 (fun hf => ?_)
    refine lv_bipush (v := 100) hx hb dX2_addSort_17 (by decide) ?_
    refine r_irem X hf dX2_addSort_19 (fun hf => ?_)
    refine r_bni hf (fun x3 hf => ?_)
    refine lv_istore (lv' := [(4, .int x3), (3, .int x2), (0, .ref o0), (1, .int a1), (2, .int a2)]) hx hb dX2_addSort_20 hl (by decide) rfl (fun ls hl => ?_)
    refine lv_iload_n hx hb dX2_addSort_22 rfl (lv_at hl 4 rfl) ?_
    refine lv_bipush (v := 10) hx hb dX2_addSort_23 (by decide) ?_
    refine r_irem X hf dX2_addSort_25 (fun hf => ?_)
    refine r_bni hf (fun x4 hf => ?_)
    refine lv_istore (lv' := [(5, .int x4), (4, .int x3), (3, .int x2), (0, .ref o0), (1, .int a1), (2, .int a2)]) hx hb dX2_addSort_26 hl (by decide) rfl (fun ls hl => ?_)
    refine lv_iconst (v := 0) hx hb dX2_addSort_28 (by decide) ?_
    refine lv_iload_n hx hb dX2_addSort_29 rfl (lv_at hl 4 rfl) ?_
    obtain ⟨q5, hq5, hf⟩ := cl_inv hf
    refine r_callNi (bc := []) (br := [wX2 g o0 ad0 s0]) (bs' := [wX2 g o0 ad0 s0]) (As := [.int 0, .int a1]) (rest := []) X hG hl.1 (c_X7_fits g l n 0 a1 q5 hq5) (List.Perm.refl _) (List.Perm.refl _) lk_X7_fits ls_X7_fits mn_2_49 rfl rfl ⟨Nat.le_of_ble_eq_true rfl, Nat.le_of_ble_eq_true rfl⟩ rfl rfl (Nat.le_of_ble_eq_true rfl) ⟨Nat.zero_le _, Nat.zero_le _⟩ dX2_addSort_30 (fun H locs hG => ?_)
    refine lv_if_eq (tgt := 53) hx hb dX2_addSort_33 (by decide) (fun hc6 => ?_) (fun hc6 => ?_)
    · replace hf := ite_t hf hc6
      refine lv_bipush (v := (-2)) hx hb dX2_addSort_53 (by decide) ?_
      have hq9 := Option.some.inj hf
      subst hq9
      subst hQ
      exact r_iret X hG dX2_addSort_55
    · replace hf := ite_f hf hc6
      refine lv_iconst (v := 1) hx hb dX2_addSort_36 (by decide) ?_
      refine lv_iload_n hx hb dX2_addSort_37 rfl (lv_at hl 2 rfl) ?_
      obtain ⟨q7, hq7, hf⟩ := cl_inv hf
      refine r_callNi (bc := []) (br := [wX2 g o0 ad0 s0]) (bs' := [wX2 g o0 ad0 s0]) (As := [.int 1, .int x2]) (rest := []) X hG hl.1 (c_X7_fits g l n 1 x2 q7 hq7) (List.Perm.refl _) (List.Perm.refl _) lk_X7_fits ls_X7_fits mn_2_49 rfl rfl ⟨Nat.le_of_ble_eq_true rfl, Nat.le_of_ble_eq_true rfl⟩ rfl rfl (Nat.le_of_ble_eq_true rfl) ⟨Nat.zero_le _, Nat.zero_le _⟩ dX2_addSort_38 (fun H locs hG => ?_)
      refine lv_if_eq (tgt := 53) hx hb dX2_addSort_41 (by decide) (fun hc8 => ?_) (fun hc8 => ?_)
      · replace hf := ite_t hf hc8
        refine lv_bipush (v := (-2)) hx hb dX2_addSort_53 (by decide) ?_
        have hq9 := Option.some.inj hf
        subst hq9
        subst hQ
        exact r_iret X hG dX2_addSort_55
      · replace hf := ite_f hf hc8
        refine lv_iconst (v := 2) hx hb dX2_addSort_44 (by decide) ?_
        refine lv_iload hx hb dX2_addSort_45 (lv_at hl 1 rfl) ?_
        obtain ⟨q9, hq9, hf⟩ := cl_inv hf
        refine r_callNi (bc := []) (br := [wX2 g o0 ad0 s0]) (bs' := [wX2 g o0 ad0 s0]) (As := [.int 2, .int x3]) (rest := []) X hG hl.1 (c_X7_fits g l n 2 x3 q9 hq9) (List.Perm.refl _) (List.Perm.refl _) lk_X7_fits ls_X7_fits mn_2_49 rfl rfl ⟨Nat.le_of_ble_eq_true rfl, Nat.le_of_ble_eq_true rfl⟩ rfl rfl (Nat.le_of_ble_eq_true rfl) ⟨Nat.zero_le _, Nat.zero_le _⟩ dX2_addSort_47 (fun H locs hG => ?_)
        refine lv_if_ne (tgt := 56) hx hb dX2_addSort_50 (by decide) (fun hc10 => ?_) (fun hc10 => ?_)
        · replace hf := ite_f hf hc10
          refine lv_aload_n hx hb dX2_addSort_56 rfl (lv_at hl 3 rfl) ?_
          refine G_2_9 X hG 0 rfl dX2_addSort_57 ?_
          refine lv_bipush (v := 6) hx hb dX2_addSort_60 (by decide) ?_
          refine lv_icmp_lt (tgt := 68) hx hb dX2_addSort_62 (by decide) (fun hc11 => ?_) (fun hc11 => ?_)
          · replace hf := ite_t hf hc11
            refine lv_aload_n hx hb dX2_addSort_68 rfl (lv_at hl 3 rfl) ?_
            refine G_2_15 X hG 0 rfl dX2_addSort_69 ?_
            refine lv_aload_n hx hb dX2_addSort_72 rfl (lv_at hl 3 rfl) ?_
            refine G_2_9 X hG 0 rfl dX2_addSort_73 ?_
            refine lv_iload_n hx hb dX2_addSort_76 rfl (lv_at hl 4 rfl) ?_
            refine r_iast X hG 0 1 rfl rfl hf (fun t => [wX2 g o0 ad0 t]) rfl dX2_addSort_77 (fun z12 H locs hf hG => ?_)
            refine lv_aload_n hx hb dX2_addSort_78 rfl (lv_at hl 3 rfl) ?_
            refine G_2_19 X hG 0 rfl dX2_addSort_79 ?_
            refine lv_aload_n hx hb dX2_addSort_82 rfl (lv_at hl 3 rfl) ?_
            refine G_2_9 X hG 0 rfl dX2_addSort_83 ?_
            refine lv_iload_n hx hb dX2_addSort_86 rfl (lv_at hl 2 rfl) ?_
            refine r_iast X hG 0 2 rfl rfl hf (fun t => [wX2 g o0 ad0 t]) rfl dX2_addSort_87 (fun z13 H locs hf hG => ?_)
            refine lv_aload_n hx hb dX2_addSort_88 rfl (lv_at hl 3 rfl) ?_
            refine G_2_22 X hG 0 rfl dX2_addSort_89 ?_
            refine lv_aload_n hx hb dX2_addSort_92 rfl (lv_at hl 3 rfl) ?_
            refine G_2_9 X hG 0 rfl dX2_addSort_93 ?_
            refine lv_iload hx hb dX2_addSort_96 (lv_at hl 1 rfl) ?_
            refine r_iast X hG 0 3 rfl rfl hf (fun t => [wX2 g o0 ad0 t]) rfl dX2_addSort_98 (fun z14 H locs hf hG => ?_)
            refine lv_aload_n hx hb dX2_addSort_99 rfl (lv_at hl 3 rfl) ?_
            refine G_2_25 X hG 0 rfl dX2_addSort_100 ?_
            refine lv_aload_n hx hb dX2_addSort_103 rfl (lv_at hl 3 rfl) ?_
            refine G_2_9 X hG 0 rfl dX2_addSort_104 ?_
            refine lv_iload hx hb dX2_addSort_107 (lv_at hl 0 rfl) ?_
            refine r_iast X hG 0 4 rfl rfl hf (fun t => [wX2 g o0 ad0 t]) rfl dX2_addSort_109 (fun z15 H locs hf hG => ?_)
            refine lv_aload_n hx hb dX2_addSort_110 rfl (lv_at hl 3 rfl) ?_
            refine lv_dup hx hb dX2_addSort_111 rfl ?_
            refine G_2_9 X hG 0 rfl dX2_addSort_112 ?_
            refine lv_dup_x1 hx hb dX2_addSort_115 rfl rfl ?_
            refine lv_iconst (v := 1) hx hb dX2_addSort_116 (by decide) ?_
            refine lv_iadd hx hb dX2_addSort_117 ?_
            refine P_2_9 X hG 0 rfl hf (fun t => [wX2 g o0 ad0 t]) (fun _ => rfl) dX2_addSort_118 (fun z16 H locs hf hG => ?_)
            have hq9 := Option.some.inj hf
            subst hq9
            subst hQ
            exact r_iret X hG dX2_addSort_121
          · replace hf := ite_f hf hc11
            refine lv_bipush (v := (-4)) hx hb dX2_addSort_65 (by decide) ?_
            have hq9 := Option.some.inj hf
            subst hq9
            subst hQ
            exact r_iret X hG dX2_addSort_67
        · replace hf := ite_t hf hc10
          refine lv_bipush (v := (-2)) hx hb dX2_addSort_53 (by decide) ?_
          have hq9 := Option.some.inj hf
          subst hq9
          subst hQ
          exact r_iret X hG dX2_addSort_55
  · replace hf := ite_f hf hc1
    refine lv_bipush (v := (-2)) hx hb dX2_addSort_4 (by decide) ?_
    have hq9 := Option.some.inj hf
    subst hq9
    subst hQ
    exact r_iret X hG dX2_addSort_6
def rmX2_takeOver : Room := { frames := 1, cells := 0, slots := 0, locals := 40 }
set_option maxHeartbeats 4000000 in
set_option maxRecDepth 100000 in
theorem c_X2_takeOver (g : GT) (l : Launch) (o0 : Nat) (ad0 : Nat → Nat) (o1 : Nat) (ad1 : Nat → Nat) (n : Nat) (s0 : MS) (s1 : MS) (q : MS) (hf : f_X2_takeOver n s0 s1 = some q) : CV g l yX2_takeOver cX2_takeOver 2 none rmX2_takeOver [.ref o0, .ref o1] [wX2 g o0 ad0 s0, wX2 g o1 ad1 s1] [wX2 g o0 ad0 q, wX2 g o1 ad1 s1] := by
  refine CV_intro RX2 rfl (by decide +kernel) (Nat.le_of_ble_eq_true rfl) ?_
  intro p e s m args below meth c A ls Q hQ X hl hG
  have hl : lv_has ls 2 [(0, .ref o0), (1, .ref o1)] := hl
  have hx := X.1
  have hb := X.2.1
  have hown := X.2.2.2.1
  unfold f_X2_takeOver at hf
  refine lv_aload_n hx hb dX2_takeOver_0 rfl (lv_at hl 1 rfl) ?_
  refine G_2_15 X hG 1 rfl dX2_takeOver_1 ?_
  refine lv_iconst (v := 0) hx hb dX2_takeOver_4 (by decide) ?_
  refine lv_aload_n hx hb dX2_takeOver_5 rfl (lv_at hl 0 rfl) ?_
  refine G_2_15 X hG 0 rfl dX2_takeOver_6 ?_
  refine lv_iconst (v := 0) hx hb dX2_takeOver_9 (by decide) ?_
  refine lv_aload_n hx hb dX2_takeOver_10 rfl (lv_at hl 1 rfl) ?_
  refine G_2_9 X hG 1 rfl dX2_takeOver_11 ?_
  refine r_copy (idx := 57) X hG hl.1 (TW_at 758 (by decide +kernel) (by decide +kernel)) (TW_at 749 (by decide +kernel) (by decide +kernel)) (TW_at 748 (by decide +kernel) (by decide +kernel)) (TW_at 74 (by decide +kernel) (by decide +kernel)) 1 1 0 1 rfl rfl rfl rfl hf (fun t => [wX2 g o0 ad0 t, wX2 g o1 ad1 s1]) rfl (Nat.le_of_ble_eq_true rfl) (Nat.le_of_ble_eq_true rfl) dX2_takeOver_14 (fun z1 H locs hf hG => ?_)
  refine lv_aload_n hx hb dX2_takeOver_17 rfl (lv_at hl 1 rfl) ?_
  refine G_2_19 X hG 1 rfl dX2_takeOver_18 ?_
  refine lv_iconst (v := 0) hx hb dX2_takeOver_21 (by decide) ?_
  refine lv_aload_n hx hb dX2_takeOver_22 rfl (lv_at hl 0 rfl) ?_
  refine G_2_19 X hG 0 rfl dX2_takeOver_23 ?_
  refine lv_iconst (v := 0) hx hb dX2_takeOver_26 (by decide) ?_
  refine lv_aload_n hx hb dX2_takeOver_27 rfl (lv_at hl 1 rfl) ?_
  refine G_2_9 X hG 1 rfl dX2_takeOver_28 ?_
  refine r_copy (idx := 57) X hG hl.1 (TW_at 758 (by decide +kernel) (by decide +kernel)) (TW_at 749 (by decide +kernel) (by decide +kernel)) (TW_at 748 (by decide +kernel) (by decide +kernel)) (TW_at 74 (by decide +kernel) (by decide +kernel)) 1 2 0 2 rfl rfl rfl rfl hf (fun t => [wX2 g o0 ad0 t, wX2 g o1 ad1 s1]) rfl (Nat.le_of_ble_eq_true rfl) (Nat.le_of_ble_eq_true rfl) dX2_takeOver_31 (fun z2 H locs hf hG => ?_)
  refine lv_aload_n hx hb dX2_takeOver_34 rfl (lv_at hl 1 rfl) ?_
  refine G_2_22 X hG 1 rfl dX2_takeOver_35 ?_
  refine lv_iconst (v := 0) hx hb dX2_takeOver_38 (by decide) ?_
  refine lv_aload_n hx hb dX2_takeOver_39 rfl (lv_at hl 0 rfl) ?_
  refine G_2_22 X hG 0 rfl dX2_takeOver_40 ?_
  refine lv_iconst (v := 0) hx hb dX2_takeOver_43 (by decide) ?_
  refine lv_aload_n hx hb dX2_takeOver_44 rfl (lv_at hl 1 rfl) ?_
  refine G_2_9 X hG 1 rfl dX2_takeOver_45 ?_
  refine r_copy (idx := 57) X hG hl.1 (TW_at 758 (by decide +kernel) (by decide +kernel)) (TW_at 749 (by decide +kernel) (by decide +kernel)) (TW_at 748 (by decide +kernel) (by decide +kernel)) (TW_at 74 (by decide +kernel) (by decide +kernel)) 1 3 0 3 rfl rfl rfl rfl hf (fun t => [wX2 g o0 ad0 t, wX2 g o1 ad1 s1]) rfl (Nat.le_of_ble_eq_true rfl) (Nat.le_of_ble_eq_true rfl) dX2_takeOver_48 (fun z3 H locs hf hG => ?_)
  refine lv_aload_n hx hb dX2_takeOver_51 rfl (lv_at hl 1 rfl) ?_
  refine G_2_25 X hG 1 rfl dX2_takeOver_52 ?_
  refine lv_iconst (v := 0) hx hb dX2_takeOver_55 (by decide) ?_
  refine lv_aload_n hx hb dX2_takeOver_56 rfl (lv_at hl 0 rfl) ?_
  refine G_2_25 X hG 0 rfl dX2_takeOver_57 ?_
  refine lv_iconst (v := 0) hx hb dX2_takeOver_60 (by decide) ?_
  refine lv_aload_n hx hb dX2_takeOver_61 rfl (lv_at hl 1 rfl) ?_
  refine G_2_9 X hG 1 rfl dX2_takeOver_62 ?_
  refine r_copy (idx := 57) X hG hl.1 (TW_at 758 (by decide +kernel) (by decide +kernel)) (TW_at 749 (by decide +kernel) (by decide +kernel)) (TW_at 748 (by decide +kernel) (by decide +kernel)) (TW_at 74 (by decide +kernel) (by decide +kernel)) 1 4 0 4 rfl rfl rfl rfl hf (fun t => [wX2 g o0 ad0 t, wX2 g o1 ad1 s1]) rfl (Nat.le_of_ble_eq_true rfl) (Nat.le_of_ble_eq_true rfl) dX2_takeOver_65 (fun z4 H locs hf hG => ?_)
  refine lv_aload_n hx hb dX2_takeOver_68 rfl (lv_at hl 1 rfl) ?_
  refine G_2_28 X hG 1 rfl dX2_takeOver_69 ?_
  refine lv_iconst (v := 0) hx hb dX2_takeOver_72 (by decide) ?_
  refine lv_aload_n hx hb dX2_takeOver_73 rfl (lv_at hl 0 rfl) ?_
  refine G_2_28 X hG 0 rfl dX2_takeOver_74 ?_
  refine lv_iconst (v := 0) hx hb dX2_takeOver_77 (by decide) ?_
  refine lv_bipush (v := 120) hx hb dX2_takeOver_78 (by decide) ?_
  refine r_copy (idx := 57) X hG hl.1 (TW_at 758 (by decide +kernel) (by decide +kernel)) (TW_at 749 (by decide +kernel) (by decide +kernel)) (TW_at 748 (by decide +kernel) (by decide +kernel)) (TW_at 74 (by decide +kernel) (by decide +kernel)) 1 5 0 5 rfl rfl rfl rfl hf (fun t => [wX2 g o0 ad0 t, wX2 g o1 ad1 s1]) rfl (Nat.le_of_ble_eq_true rfl) (Nat.le_of_ble_eq_true rfl) dX2_takeOver_80 (fun z5 H locs hf hG => ?_)
  refine lv_aload_n hx hb dX2_takeOver_83 rfl (lv_at hl 0 rfl) ?_
  refine lv_aload_n hx hb dX2_takeOver_84 rfl (lv_at hl 0 rfl) ?_
  refine G_2_9 X hG 0 rfl dX2_takeOver_85 ?_
  refine lv_aload_n hx hb dX2_takeOver_88 rfl (lv_at hl 1 rfl) ?_
  refine G_2_9 X hG 1 rfl dX2_takeOver_89 ?_
  refine r_mmax (idx := 63) X hl.1 (TW_at 759 (by decide +kernel) (by decide +kernel)) (TW_at 624 (by decide +kernel) (by decide +kernel)) (TW_at 73 (by decide +kernel) (by decide +kernel)) (TW_at 625 (by decide +kernel) (by decide +kernel)) (Nat.le_of_ble_eq_true rfl) (Nat.le_of_ble_eq_true rfl) ⟨Nat.zero_le _, Nat.zero_le _⟩ dX2_takeOver_92 ?_
  refine P_2_9 X hG 0 rfl hf (fun t => [wX2 g o0 ad0 t, wX2 g o1 ad1 s1]) (fun _ => rfl) dX2_takeOver_95 (fun z6 H locs hf hG => ?_)
  refine lv_aload_n hx hb dX2_takeOver_98 rfl (lv_at hl 0 rfl) ?_
  refine lv_aload_n hx hb dX2_takeOver_99 rfl (lv_at hl 1 rfl) ?_
  refine G_2_31 X hG 1 rfl dX2_takeOver_100 ?_
  refine P_2_31 X hG 0 rfl hf (fun t => [wX2 g o0 ad0 t, wX2 g o1 ad1 s1]) (fun _ => rfl) dX2_takeOver_103 (fun z7 H locs hf hG => ?_)
  refine lv_aload_n hx hb dX2_takeOver_106 rfl (lv_at hl 0 rfl) ?_
  refine lv_aload_n hx hb dX2_takeOver_107 rfl (lv_at hl 1 rfl) ?_
  refine G_2_34 X hG 1 rfl dX2_takeOver_108 ?_
  refine P_2_34 X hG 0 rfl hf (fun t => [wX2 g o0 ad0 t, wX2 g o1 ad1 s1]) (fun _ => rfl) dX2_takeOver_111 (fun z8 H locs hf hG => ?_)
  refine lv_aload_n hx hb dX2_takeOver_114 rfl (lv_at hl 0 rfl) ?_
  refine lv_aload_n hx hb dX2_takeOver_115 rfl (lv_at hl 1 rfl) ?_
  refine G_2_37 X hG 1 rfl dX2_takeOver_116 ?_
  refine P_2_37 X hG 0 rfl hf (fun t => [wX2 g o0 ad0 t, wX2 g o1 ad1 s1]) (fun _ => rfl) dX2_takeOver_119 (fun z9 H locs hf hG => ?_)
  refine lv_aload_n hx hb dX2_takeOver_122 rfl (lv_at hl 0 rfl) ?_
  refine lv_aload_n hx hb dX2_takeOver_123 rfl (lv_at hl 1 rfl) ?_
  refine G_2_40 X hG 1 rfl dX2_takeOver_124 ?_
  refine P_2_40 X hG 0 rfl hf (fun t => [wX2 g o0 ad0 t, wX2 g o1 ad1 s1]) (fun _ => rfl) dX2_takeOver_127 (fun z10 H locs hf hG => ?_)
  have hq9 := Option.some.inj hf
  subst hq9
  subst hQ
  exact r_vret X hG dX2_takeOver_130
def rmX4_append : Room := { frames := 0, cells := 0, slots := 0, locals := 0 }
set_option maxHeartbeats 4000000 in
set_option maxRecDepth 100000 in
theorem c_X4_append (g : GT) (l : Launch) (o0 : Nat) (ad0 : Nat → Nat) (n : Nat) (a1 : Int32) (s0 : MS) (q : MS) (hf : f_X4_append n a1 s0 = some q) : CV g l yX4_append cX4_append 2 none rmX4_append [.ref o0, .int a1] [wX4 g o0 ad0 s0] [wX4 g o0 ad0 q] := by
  refine CV_intro RX4 rfl (by decide +kernel) (Nat.le_of_ble_eq_true rfl) ?_
  intro p e s m args below meth c A ls Q hQ X hl hG
  have hl : lv_has ls 2 [(0, .ref o0), (1, .int a1)] := hl
  have hx := X.1
  have hb := X.2.1
  have hown := X.2.2.2.1
  unfold f_X4_append at hf
  refine lv_aload_n hx hb dX4_append_0 rfl (lv_at hl 0 rfl) ?_
  refine G_4_15 X hG 0 rfl dX4_append_1 ?_
  refine lv_sipush (v := 160) hx hb dX4_append_4 (by decide) ?_
  refine lv_icmp_lt (tgt := 11) hx hb dX4_append_7 (by decide) (fun hc1 => ?_) (fun hc1 => ?_)
  · replace hf := ite_t hf hc1
    refine lv_aload_n hx hb dX4_append_11 rfl (lv_at hl 0 rfl) ?_
    refine G_4_9 X hG 0 rfl dX4_append_12 ?_
    refine lv_aload_n hx hb dX4_append_15 rfl (lv_at hl 0 rfl) ?_
    refine G_4_15 X hG 0 rfl dX4_append_16 ?_
    refine lv_iload_n hx hb dX4_append_19 rfl (lv_at hl 1 rfl) ?_
    refine r_iast X hG 0 1 rfl rfl hf (fun t => [wX4 g o0 ad0 t]) rfl dX4_append_20 (fun z2 H locs hf hG => ?_)
    refine lv_aload_n hx hb dX4_append_21 rfl (lv_at hl 0 rfl) ?_
    refine lv_dup hx hb dX4_append_22 rfl ?_
    refine G_4_15 X hG 0 rfl dX4_append_23 ?_
    refine lv_iconst (v := 1) hx hb dX4_append_26 (by decide) ?_
    refine lv_iadd hx hb dX4_append_27 ?_
    refine P_4_15 X hG 0 rfl hf (fun t => [wX4 g o0 ad0 t]) (fun _ => rfl) dX4_append_28 (fun z3 H locs hf hG => ?_)
    have hq9 := Option.some.inj hf
    subst hq9
    subst hQ
    exact r_vret X hG dX4_append_31
  · replace hf := ite_f hf hc1
    have hq9 := Option.some.inj hf
    subst hq9
    subst hQ
    exact r_vret X hG dX4_append_10
def rmX4_empty : Room := { frames := 0, cells := 0, slots := 0, locals := 0 }
set_option maxHeartbeats 4000000 in
set_option maxRecDepth 100000 in
theorem c_X4_empty (g : GT) (l : Launch) (o0 : Nat) (ad0 : Nat → Nat) (n : Nat) (s0 : MS) (q : MS) (hf : f_X4_empty n s0 = some q) : CV g l yX4_empty cX4_empty 1 none rmX4_empty [.ref o0] [wX4 g o0 ad0 s0] [wX4 g o0 ad0 q] := by
  refine CV_intro RX4 rfl (by decide +kernel) (Nat.le_of_ble_eq_true rfl) ?_
  intro p e s m args below meth c A ls Q hQ X hl hG
  have hl : lv_has ls 1 [(0, .ref o0)] := hl
  have hx := X.1
  have hb := X.2.1
  have hown := X.2.2.2.1
  unfold f_X4_empty at hf
  refine lv_aload_n hx hb dX4_empty_0 rfl (lv_at hl 0 rfl) ?_
  refine lv_iconst (v := 0) hx hb dX4_empty_1 (by decide) ?_
  refine P_4_15 X hG 0 rfl hf (fun t => [wX4 g o0 ad0 t]) (fun _ => rfl) dX4_empty_2 (fun z1 H locs hf hG => ?_)
  have hq9 := Option.some.inj hf
  subst hq9
  subst hQ
  exact r_vret X hG dX4_empty_5
def rmX4_isLetter : Room := { frames := 1, cells := 0, slots := 0, locals := 22 }
set_option maxHeartbeats 4000000 in
set_option maxRecDepth 100000 in
theorem c_X4_isLetter (g : GT) (l : Launch) (n : Nat) (a1 : Int32) (q : Int32) (hf : f_X4_isLetter n a1 = some q) : CI g l yX4_isLetter cX4_isLetter 1 (some .boolean) rmX4_isLetter [.int a1] [] q [] := by
  refine CI_intro RX4 rfl (by decide +kernel) (Nat.le_of_ble_eq_true rfl) ?_
  intro p e s m args below meth c A ls Q hQ X hl hG
  have hl : lv_has ls 1 [(0, .int a1)] := hl
  have hx := X.1
  have hb := X.2.1
  have hown := X.2.2.2.1
  unfold f_X4_isLetter at hf
  refine lv_iload_n hx hb dX4_isLetter_0 rfl (lv_at hl 0 rfl) ?_
  refine lv_bipush (v := 97) hx hb dX4_isLetter_1 (by decide) ?_
  refine lv_bipush (v := 122) hx hb dX4_isLetter_3 (by decide) ?_
  obtain ⟨q1, hq1, hf⟩ := cl_inv hf
  refine r_callNi (bc := []) (br := []) (bs' := []) (As := [.int a1, .int 97, .int 122]) (rest := []) X hG hl.1 (c_X7_between g l n a1 97 122 q1 hq1) (List.Perm.refl _) (List.Perm.refl _) lk_X7_between ls_X7_between mn_4_95 rfl rfl ⟨Nat.le_of_ble_eq_true rfl, Nat.le_of_ble_eq_true rfl⟩ rfl rfl (Nat.le_of_ble_eq_true rfl) ⟨Nat.zero_le _, Nat.zero_le _⟩ dX4_isLetter_5 (fun H locs hG => ?_)
  obtain ⟨hz, hf⟩ := ck_inv hf
  have hq9 := Option.some.inj hf
  subst hq9
  subst hQ
  exact r_zret X hG (of_decide_eq_true hz) dX4_isLetter_8
def rmX4_isDigit : Room := { frames := 1, cells := 0, slots := 0, locals := 22 }
set_option maxHeartbeats 4000000 in
set_option maxRecDepth 100000 in
theorem c_X4_isDigit (g : GT) (l : Launch) (n : Nat) (a1 : Int32) (q : Int32) (hf : f_X4_isDigit n a1 = some q) : CI g l yX4_isDigit cX4_isDigit 1 (some .boolean) rmX4_isDigit [.int a1] [] q [] := by
  refine CI_intro RX4 rfl (by decide +kernel) (Nat.le_of_ble_eq_true rfl) ?_
  intro p e s m args below meth c A ls Q hQ X hl hG
  have hl : lv_has ls 1 [(0, .int a1)] := hl
  have hx := X.1
  have hb := X.2.1
  have hown := X.2.2.2.1
  unfold f_X4_isDigit at hf
  refine lv_iload_n hx hb dX4_isDigit_0 rfl (lv_at hl 0 rfl) ?_
  refine lv_bipush (v := 48) hx hb dX4_isDigit_1 (by decide) ?_
  refine lv_bipush (v := 57) hx hb dX4_isDigit_3 (by decide) ?_
  obtain ⟨q1, hq1, hf⟩ := cl_inv hf
  refine r_callNi (bc := []) (br := []) (bs' := []) (As := [.int a1, .int 48, .int 57]) (rest := []) X hG hl.1 (c_X7_between g l n a1 48 57 q1 hq1) (List.Perm.refl _) (List.Perm.refl _) lk_X7_between ls_X7_between mn_4_95 rfl rfl ⟨Nat.le_of_ble_eq_true rfl, Nat.le_of_ble_eq_true rfl⟩ rfl rfl (Nat.le_of_ble_eq_true rfl) ⟨Nat.zero_le _, Nat.zero_le _⟩ dX4_isDigit_5 (fun H locs hG => ?_)
  obtain ⟨hz, hf⟩ := ck_inv hf
  have hq9 := Option.some.inj hf
  subst hq9
  subst hQ
  exact r_zret X hG (of_decide_eq_true hz) dX4_isDigit_8
def rmX4_signToken : Room := { frames := 0, cells := 0, slots := 0, locals := 0 }
set_option maxHeartbeats 4000000 in
set_option maxRecDepth 100000 in
theorem c_X4_signToken (g : GT) (l : Launch) (n : Nat) (a1 : Int32) (q : Int32) (hf : f_X4_signToken n a1 = some q) : CI g l yX4_signToken cX4_signToken 1 (some .int) rmX4_signToken [.int a1] [] q [] := by
  refine CI_intro RX4 rfl (by decide +kernel) (Nat.le_of_ble_eq_true rfl) ?_
  intro p e s m args below meth c A ls Q hQ X hl hG
  have hl : lv_has ls 1 [(0, .int a1)] := hl
  have hx := X.1
  have hb := X.2.1
  have hown := X.2.2.2.1
  unfold f_X4_signToken at hf
  refine lv_iload_n hx hb dX4_signToken_0 rfl (lv_at hl 0 rfl) ?_
  by_cases hk1_0 : a1 = 40
  · replace hf := ite_t hf hk1_0
    refine r_tsi (tgt := 104) (off := 103) X dX4_signToken_1 hk1_0 (by decide +kernel) (by decide +kernel) (by decide) ?_
    refine lv_iload_n hx hb dX4_signToken_104 rfl (lv_at hl 0 rfl) ?_
    have hq9 := Option.some.inj hf
    subst hq9
    subst hQ
    exact r_iret X hG dX4_signToken_105
  · replace hf := ite_f hf hk1_0
    by_cases hk1_1 : a1 = 41
    · replace hf := ite_t hf hk1_1
      refine r_tsi (tgt := 104) (off := 103) X dX4_signToken_1 hk1_1 (by decide +kernel) (by decide +kernel) (by decide) ?_
      refine lv_iload_n hx hb dX4_signToken_104 rfl (lv_at hl 0 rfl) ?_
      have hq9 := Option.some.inj hf
      subst hq9
      subst hQ
      exact r_iret X hG dX4_signToken_105
    · replace hf := ite_f hf hk1_1
      by_cases hk1_2 : a1 = 42
      · replace hf := ite_t hf hk1_2
        refine r_tsi (tgt := 104) (off := 103) X dX4_signToken_1 hk1_2 (by decide +kernel) (by decide +kernel) (by decide) ?_
        refine lv_iload_n hx hb dX4_signToken_104 rfl (lv_at hl 0 rfl) ?_
        have hq9 := Option.some.inj hf
        subst hq9
        subst hQ
        exact r_iret X hG dX4_signToken_105
      · replace hf := ite_f hf hk1_2
        by_cases hk1_3 : a1 = 43
        · replace hf := ite_t hf hk1_3
          refine r_tsi (tgt := 104) (off := 103) X dX4_signToken_1 hk1_3 (by decide +kernel) (by decide +kernel) (by decide) ?_
          refine lv_iload_n hx hb dX4_signToken_104 rfl (lv_at hl 0 rfl) ?_
          have hq9 := Option.some.inj hf
          subst hq9
          subst hQ
          exact r_iret X hG dX4_signToken_105
        · replace hf := ite_f hf hk1_3
          by_cases hk1_4 : a1 = 44
          · replace hf := ite_t hf hk1_4
            refine r_tsi (tgt := 106) (off := 105) X dX4_signToken_1 hk1_4 (by decide +kernel) (by decide +kernel) (by decide) ?_
            refine lv_iconst (v := 0) hx hb dX4_signToken_106 (by decide) ?_
            have hq9 := Option.some.inj hf
            subst hq9
            subst hQ
            exact r_iret X hG dX4_signToken_107
          · replace hf := ite_f hf hk1_4
            by_cases hk1_5 : a1 = 45
            · replace hf := ite_t hf hk1_5
              refine r_tsi (tgt := 104) (off := 103) X dX4_signToken_1 hk1_5 (by decide +kernel) (by decide +kernel) (by decide) ?_
              refine lv_iload_n hx hb dX4_signToken_104 rfl (lv_at hl 0 rfl) ?_
              have hq9 := Option.some.inj hf
              subst hq9
              subst hQ
              exact r_iret X hG dX4_signToken_105
            · replace hf := ite_f hf hk1_5
              by_cases hk1_6 : a1 = 46
              · replace hf := ite_t hf hk1_6
                refine r_tsi (tgt := 106) (off := 105) X dX4_signToken_1 hk1_6 (by decide +kernel) (by decide +kernel) (by decide) ?_
                refine lv_iconst (v := 0) hx hb dX4_signToken_106 (by decide) ?_
                have hq9 := Option.some.inj hf
                subst hq9
                subst hQ
                exact r_iret X hG dX4_signToken_107
              · replace hf := ite_f hf hk1_6
                by_cases hk1_7 : a1 = 47
                · replace hf := ite_t hf hk1_7
                  refine r_tsi (tgt := 106) (off := 105) X dX4_signToken_1 hk1_7 (by decide +kernel) (by decide +kernel) (by decide) ?_
                  refine lv_iconst (v := 0) hx hb dX4_signToken_106 (by decide) ?_
                  have hq9 := Option.some.inj hf
                  subst hq9
                  subst hQ
                  exact r_iret X hG dX4_signToken_107
                · replace hf := ite_f hf hk1_7
                  by_cases hk1_8 : a1 = 48
                  · replace hf := ite_t hf hk1_8
                    refine r_tsi (tgt := 106) (off := 105) X dX4_signToken_1 hk1_8 (by decide +kernel) (by decide +kernel) (by decide) ?_
                    refine lv_iconst (v := 0) hx hb dX4_signToken_106 (by decide) ?_
                    have hq9 := Option.some.inj hf
                    subst hq9
                    subst hQ
                    exact r_iret X hG dX4_signToken_107
                  · replace hf := ite_f hf hk1_8
                    by_cases hk1_9 : a1 = 49
                    · replace hf := ite_t hf hk1_9
                      refine r_tsi (tgt := 106) (off := 105) X dX4_signToken_1 hk1_9 (by decide +kernel) (by decide +kernel) (by decide) ?_
                      refine lv_iconst (v := 0) hx hb dX4_signToken_106 (by decide) ?_
                      have hq9 := Option.some.inj hf
                      subst hq9
                      subst hQ
                      exact r_iret X hG dX4_signToken_107
                    · replace hf := ite_f hf hk1_9
                      by_cases hk1_10 : a1 = 50
                      · replace hf := ite_t hf hk1_10
                        refine r_tsi (tgt := 106) (off := 105) X dX4_signToken_1 hk1_10 (by decide +kernel) (by decide +kernel) (by decide) ?_
                        refine lv_iconst (v := 0) hx hb dX4_signToken_106 (by decide) ?_
                        have hq9 := Option.some.inj hf
                        subst hq9
                        subst hQ
                        exact r_iret X hG dX4_signToken_107
                      · replace hf := ite_f hf hk1_10
                        by_cases hk1_11 : a1 = 51
                        · replace hf := ite_t hf hk1_11
                          refine r_tsi (tgt := 106) (off := 105) X dX4_signToken_1 hk1_11 (by decide +kernel) (by decide +kernel) (by decide) ?_
                          refine lv_iconst (v := 0) hx hb dX4_signToken_106 (by decide) ?_
                          have hq9 := Option.some.inj hf
                          subst hq9
                          subst hQ
                          exact r_iret X hG dX4_signToken_107
                        · replace hf := ite_f hf hk1_11
                          by_cases hk1_12 : a1 = 52
                          · replace hf := ite_t hf hk1_12
                            refine r_tsi (tgt := 106) (off := 105) X dX4_signToken_1 hk1_12 (by decide +kernel) (by decide +kernel) (by decide) ?_
                            refine lv_iconst (v := 0) hx hb dX4_signToken_106 (by decide) ?_
                            have hq9 := Option.some.inj hf
                            subst hq9
                            subst hQ
                            exact r_iret X hG dX4_signToken_107
                          · replace hf := ite_f hf hk1_12
                            by_cases hk1_13 : a1 = 53
                            · replace hf := ite_t hf hk1_13
                              refine r_tsi (tgt := 106) (off := 105) X dX4_signToken_1 hk1_13 (by decide +kernel) (by decide +kernel) (by decide) ?_
                              refine lv_iconst (v := 0) hx hb dX4_signToken_106 (by decide) ?_
                              have hq9 := Option.some.inj hf
                              subst hq9
                              subst hQ
                              exact r_iret X hG dX4_signToken_107
                            · replace hf := ite_f hf hk1_13
                              by_cases hk1_14 : a1 = 54
                              · replace hf := ite_t hf hk1_14
                                refine r_tsi (tgt := 106) (off := 105) X dX4_signToken_1 hk1_14 (by decide +kernel) (by decide +kernel) (by decide) ?_
                                refine lv_iconst (v := 0) hx hb dX4_signToken_106 (by decide) ?_
                                have hq9 := Option.some.inj hf
                                subst hq9
                                subst hQ
                                exact r_iret X hG dX4_signToken_107
                              · replace hf := ite_f hf hk1_14
                                by_cases hk1_15 : a1 = 55
                                · replace hf := ite_t hf hk1_15
                                  refine r_tsi (tgt := 106) (off := 105) X dX4_signToken_1 hk1_15 (by decide +kernel) (by decide +kernel) (by decide) ?_
                                  refine lv_iconst (v := 0) hx hb dX4_signToken_106 (by decide) ?_
                                  have hq9 := Option.some.inj hf
                                  subst hq9
                                  subst hQ
                                  exact r_iret X hG dX4_signToken_107
                                · replace hf := ite_f hf hk1_15
                                  by_cases hk1_16 : a1 = 56
                                  · replace hf := ite_t hf hk1_16
                                    refine r_tsi (tgt := 106) (off := 105) X dX4_signToken_1 hk1_16 (by decide +kernel) (by decide +kernel) (by decide) ?_
                                    refine lv_iconst (v := 0) hx hb dX4_signToken_106 (by decide) ?_
                                    have hq9 := Option.some.inj hf
                                    subst hq9
                                    subst hQ
                                    exact r_iret X hG dX4_signToken_107
                                  · replace hf := ite_f hf hk1_16
                                    by_cases hk1_17 : a1 = 57
                                    · replace hf := ite_t hf hk1_17
                                      refine r_tsi (tgt := 106) (off := 105) X dX4_signToken_1 hk1_17 (by decide +kernel) (by decide +kernel) (by decide) ?_
                                      refine lv_iconst (v := 0) hx hb dX4_signToken_106 (by decide) ?_
                                      have hq9 := Option.some.inj hf
                                      subst hq9
                                      subst hQ
                                      exact r_iret X hG dX4_signToken_107
                                    · replace hf := ite_f hf hk1_17
                                      by_cases hk1_18 : a1 = 58
                                      · replace hf := ite_t hf hk1_18
                                        refine r_tsi (tgt := 106) (off := 105) X dX4_signToken_1 hk1_18 (by decide +kernel) (by decide +kernel) (by decide) ?_
                                        refine lv_iconst (v := 0) hx hb dX4_signToken_106 (by decide) ?_
                                        have hq9 := Option.some.inj hf
                                        subst hq9
                                        subst hQ
                                        exact r_iret X hG dX4_signToken_107
                                      · replace hf := ite_f hf hk1_18
                                        by_cases hk1_19 : a1 = 59
                                        · replace hf := ite_t hf hk1_19
                                          refine r_tsi (tgt := 104) (off := 103) X dX4_signToken_1 hk1_19 (by decide +kernel) (by decide +kernel) (by decide) ?_
                                          refine lv_iload_n hx hb dX4_signToken_104 rfl (lv_at hl 0 rfl) ?_
                                          have hq9 := Option.some.inj hf
                                          subst hq9
                                          subst hQ
                                          exact r_iret X hG dX4_signToken_105
                                        · replace hf := ite_f hf hk1_19
                                          by_cases hk1_20 : a1 = 60
                                          · replace hf := ite_t hf hk1_20
                                            refine r_tsi (tgt := 104) (off := 103) X dX4_signToken_1 hk1_20 (by decide +kernel) (by decide +kernel) (by decide) ?_
                                            refine lv_iload_n hx hb dX4_signToken_104 rfl (lv_at hl 0 rfl) ?_
                                            have hq9 := Option.some.inj hf
                                            subst hq9
                                            subst hQ
                                            exact r_iret X hG dX4_signToken_105
                                          · replace hf := ite_f hf hk1_20
                                            by_cases hk1_21 : a1 = 61
                                            · replace hf := ite_t hf hk1_21
                                              refine r_tsi (tgt := 104) (off := 103) X dX4_signToken_1 hk1_21 (by decide +kernel) (by decide +kernel) (by decide) ?_
                                              refine lv_iload_n hx hb dX4_signToken_104 rfl (lv_at hl 0 rfl) ?_
                                              have hq9 := Option.some.inj hf
                                              subst hq9
                                              subst hQ
                                              exact r_iret X hG dX4_signToken_105
                                            · replace hf := ite_f hf hk1_21
                                              refine r_tso (tgt := 106) X dX4_signToken_1 (ks := [40, 41, 42, 43, 44, 45, 46, 47, 48, 49, 50, 51, 52, 53, 54, 55, 56, 57, 58, 59, 60, 61]) (List.forall_mem_cons.mpr ⟨hk1_0, List.forall_mem_cons.mpr ⟨hk1_1, List.forall_mem_cons.mpr ⟨hk1_2, List.forall_mem_cons.mpr ⟨hk1_3, List.forall_mem_cons.mpr ⟨hk1_4, List.forall_mem_cons.mpr ⟨hk1_5, List.forall_mem_cons.mpr ⟨hk1_6, List.forall_mem_cons.mpr ⟨hk1_7, List.forall_mem_cons.mpr ⟨hk1_8, List.forall_mem_cons.mpr ⟨hk1_9, List.forall_mem_cons.mpr ⟨hk1_10, List.forall_mem_cons.mpr ⟨hk1_11, List.forall_mem_cons.mpr ⟨hk1_12, List.forall_mem_cons.mpr ⟨hk1_13, List.forall_mem_cons.mpr ⟨hk1_14, List.forall_mem_cons.mpr ⟨hk1_15, List.forall_mem_cons.mpr ⟨hk1_16, List.forall_mem_cons.mpr ⟨hk1_17, List.forall_mem_cons.mpr ⟨hk1_18, List.forall_mem_cons.mpr ⟨hk1_19, List.forall_mem_cons.mpr ⟨hk1_20, List.forall_mem_cons.mpr ⟨hk1_21, List.forall_mem_nil _⟩⟩⟩⟩⟩⟩⟩⟩⟩⟩⟩⟩⟩⟩⟩⟩⟩⟩⟩⟩⟩⟩) (by decide +kernel) (by decide) ?_
                                              refine lv_iconst (v := 0) hx hb dX4_signToken_106 (by decide) ?_
                                              have hq9 := Option.some.inj hf
                                              subst hq9
                                              subst hQ
                                              exact r_iret X hG dX4_signToken_107
def rmX4_numberToken : Room := { frames := 0, cells := 0, slots := 0, locals := 0 }
set_option maxHeartbeats 4000000 in
set_option maxRecDepth 100000 in
theorem c_X4_numberToken (g : GT) (l : Launch) (o0 : Nat) (ad0 : Nat → Nat) (n : Nat) (s0 : MS) (q : Int32) (hf : f_X4_numberToken n s0 = some q) : CI g l yX4_numberToken cX4_numberToken 3 (some .int) rmX4_numberToken [.ref o0] [wX4 g o0 ad0 s0] q [wX4 g o0 ad0 s0] := by
  refine CI_intro RX4 rfl (by decide +kernel) (Nat.le_of_ble_eq_true rfl) ?_
  intro p e s m args below meth c A ls Q hQ X hl hG
  have hl : lv_has ls 3 [(0, .ref o0)] := hl
  have hx := X.1
  have hb := X.2.1
  have hown := X.2.2.2.1
  unfold f_X4_numberToken at hf
  refine lv_aload_n hx hb dX4_numberToken_0 rfl (lv_at hl 0 rfl) ?_
  refine G_4_19 X hG 0 rfl dX4_numberToken_1 ?_
  refine lv_aload_n hx hb dX4_numberToken_4 rfl (lv_at hl 0 rfl) ?_
  refine G_4_25 X hG 0 rfl dX4_numberToken_5 ?_
  refine lv_isub hx hb dX4_numberToken_8 ?_
  refine lv_iconst (v := 4) hx hb dX4_numberToken_9 (by decide) ?_
  refine lv_icmp_le (tgt := 15) hx hb dX4_numberToken_10 (by decide) (fun hc1 => ?_) (fun hc1 => ?_)
  · replace hf := ite_t hf hc1
    refine lv_iconst (v := 0) hx hb dX4_numberToken_15 (by decide) ?_
    refine lv_istore_n (lv' := [(1, .int 0), (0, .ref o0)]) hx hb dX4_numberToken_16 rfl hl (by decide) rfl (fun ls hl => ?_)
    refine lv_aload_n hx hb dX4_numberToken_17 rfl (lv_at hl 1 rfl) ?_
    refine G_4_25 X hG 0 rfl dX4_numberToken_18 ?_
    refine lv_istore_n (lv' := [(2, .int (s0.1 4)), (1, .int 0), (0, .ref o0)]) hx hb dX4_numberToken_21 rfl hl (by decide) rfl (fun ls hl => ?_)
    refine lp_go (P := fun (t2 : Int32 × Int32) => ∀ (H : Heap) (locs : List Loc) (ls : Array Slot), GM g A s.heap H locs [wX4 g o0 ad0 s0] → lv_has ls 3 [(0, .ref o0), (1, .int t2.1), (2, .int t2.2)] → W p l e rmX4_numberToken s m args below meth c H locs 0 0 Q (F0 m 22 ls [])) hf (fun K3 hK3 t2 hf H locs ls hG hl => ?_) _ _ _ hG (lv_sub hl [2, 1, 0] rfl)
    refine lv_iload_n hx hb dX4_numberToken_22 rfl (lv_at hl 2 rfl) ?_
    refine lv_aload_n hx hb dX4_numberToken_23 rfl (lv_at hl 0 rfl) ?_
    refine G_4_19 X hG 0 rfl dX4_numberToken_24 ?_
    refine lv_icmp_ge (tgt := 51) hx hb dX4_numberToken_27 (by decide) (fun hc4 => ?_) (fun hc4 => ?_)
    · replace hf := ite_t hf hc4
      refine lv_sipush (v := 1000) hx hb dX4_numberToken_51 (by decide) ?_
      refine lv_iload_n hx hb dX4_numberToken_54 rfl (lv_at hl 1 rfl) ?_
      refine lv_iadd hx hb dX4_numberToken_55 ?_
      have hq9 := Option.some.inj hf
      subst hq9
      subst hQ
      exact r_iret X hG dX4_numberToken_56
    · replace hf := ite_f hf hc4
      refine lv_bipush (v := 10) hx hb dX4_numberToken_30 (by decide) ?_
      refine lv_iload_n hx hb dX4_numberToken_32 rfl (lv_at hl 1 rfl) ?_
      refine lv_imul hx hb dX4_numberToken_33 ?_
      refine lv_aload_n hx hb dX4_numberToken_34 rfl (lv_at hl 0 rfl) ?_
      refine G_4_9 X hG 0 rfl dX4_numberToken_35 ?_
      refine lv_iload_n hx hb dX4_numberToken_38 rfl (lv_at hl 2 rfl) ?_
      refine r_iald X hG 0 1 rfl rfl hf dX4_numberToken_39 (fun x5 hf => ?_)
      refine lv_iadd hx hb dX4_numberToken_40 ?_
      refine lv_bipush (v := 48) hx hb dX4_numberToken_41 (by decide) ?_
      refine lv_isub hx hb dX4_numberToken_43 ?_
      refine r_bni hf (fun x6 hf => ?_)
      refine lv_istore_n (lv' := [(1, .int x6), (0, .ref o0), (2, .int t2.2)]) hx hb dX4_numberToken_44 rfl hl (by decide) rfl (fun ls hl => ?_)
      refine lv_iinc (v := (t2.2 + 1)) (lv' := [(2, .int (t2.2 + 1)), (1, .int x6), (0, .ref o0)]) hx hb dX4_numberToken_45 hl (k := 2) rfl rfl (by decide) rfl (fun ls hl => ?_)
      refine lv_goto (tgt := 22) hx hb dX4_numberToken_48 (by decide) ?_
      exact hK3 _ hf _ _ _ hG (lv_sub hl [2, 1, 0] rfl)
  · replace hf := ite_f hf hc1
    refine lv_iconst (v := 0) hx hb dX4_numberToken_13 (by decide) ?_
    have hq9 := Option.some.inj hf
    subst hq9
    subst hQ
    exact r_iret X hG dX4_numberToken_14
def rmX4_spells : Room := { frames := 4, cells := 0, slots := 0, locals := 130 }
set_option maxHeartbeats 4000000 in
set_option maxRecDepth 100000 in
theorem c_X4_spells (g : GT) (l : Launch) (o0 : Nat) (ad0 : Nat → Nat) (n : Nat) (a1 : Nat) (s0 : MS) (q : Int32) (hf : f_X4_spells n a1 s0 = some q) (hw : a1 < 13) : CI g l yX4_spells cX4_spells 3 (some .boolean) rmX4_spells [.ref o0, .ref (g.2.2.2.1 a1)] [wX4 g o0 ad0 s0] q [wX4 g o0 ad0 s0] := by
  refine CI_intro RX4 rfl (by decide +kernel) (Nat.le_of_ble_eq_true rfl) ?_
  intro p e s m args below meth c A ls Q hQ X hl hG
  have hl : lv_has ls 3 [(0, .ref o0), (1, .ref (g.2.2.2.1 a1))] := hl
  have hx := X.1
  have hb := X.2.1
  have hown := X.2.2.2.1
  unfold f_X4_spells at hf
  refine lv_aload_n hx hb dX4_spells_0 rfl (lv_at hl 0 rfl) ?_
  refine G_4_19 X hG 0 rfl dX4_spells_1 ?_
  refine lv_aload_n hx hb dX4_spells_4 rfl (lv_at hl 0 rfl) ?_
  refine G_4_25 X hG 0 rfl dX4_spells_5 ?_
  refine lv_isub hx hb dX4_spells_8 ?_
  refine lv_aload_n hx hb dX4_spells_9 rfl (lv_at hl 1 rfl) ?_
  refine r_callRi (bc := []) (br := [wX4 g o0 ad0 s0]) (bs' := [wX4 g o0 ad0 s0]) (As := []) (rest := [.int ((s0.1 2) - (s0.1 4))]) X hG hl.1 (c_slen g l a1 hw) (List.Perm.refl _) (List.Perm.refl _) lk_J0_length_8abf5 lv_J0_length_8abf5 (TW_at 359 (by decide +kernel) (by decide +kernel)) (str_recv X hG hw) rfl rfl ⟨Nat.le_of_ble_eq_true rfl, Nat.le_of_ble_eq_true rfl⟩ rfl rfl (Nat.le_of_ble_eq_true rfl) ⟨Nat.zero_le _, Nat.zero_le _⟩ dX4_spells_10 (fun H locs hG => ?_)
  refine lv_icmp_eq (tgt := 18) hx hb dX4_spells_13 (by decide) (fun hc1 => ?_) (fun hc1 => ?_)
  · replace hf := ite_t hf hc1
    refine lv_iconst (v := 0) hx hb dX4_spells_18 (by decide) ?_
    refine lv_istore_n (lv' := [(2, .int 0), (0, .ref o0), (1, .ref (g.2.2.2.1 a1))]) hx hb dX4_spells_19 rfl hl (by decide) rfl (fun ls hl => ?_)
    refine lp_go (P := fun (t2 : Int32) => ∀ (H : Heap) (locs : List Loc) (ls : Array Slot), GM g A s.heap H locs [wX4 g o0 ad0 s0] → lv_has ls 3 [(0, .ref o0), (1, .ref (g.2.2.2.1 a1)), (2, .int t2)] → W p l e rmX4_spells s m args below meth c H locs 0 0 Q (F0 m 20 ls [])) hf (fun K3 hK3 t2 hf H locs ls hG hl => ?_) _ _ _ hG (lv_sub hl [1, 2, 0] rfl)
    refine lv_iload_n hx hb dX4_spells_20 rfl (lv_at hl 2 rfl) ?_
    refine lv_aload_n hx hb dX4_spells_21 rfl (lv_at hl 1 rfl) ?_
    refine r_callRi (bc := []) (br := [wX4 g o0 ad0 s0]) (bs' := [wX4 g o0 ad0 s0]) (As := []) (rest := [.int t2]) X hG hl.1 (c_slen g l a1 hw) (List.Perm.refl _) (List.Perm.refl _) lk_J0_length_8abf5 lv_J0_length_8abf5 (TW_at 359 (by decide +kernel) (by decide +kernel)) (str_recv X hG hw) rfl rfl ⟨Nat.le_of_ble_eq_true rfl, Nat.le_of_ble_eq_true rfl⟩ rfl rfl (Nat.le_of_ble_eq_true rfl) ⟨Nat.zero_le _, Nat.zero_le _⟩ dX4_spells_22 (fun H locs hG => ?_)
    refine lv_icmp_ge (tgt := 55) hx hb dX4_spells_25 (by decide) (fun hc4 => ?_) (fun hc4 => ?_)
    · replace hf := ite_t hf hc4
      refine lv_iconst (v := 1) hx hb dX4_spells_55 (by decide) ?_
      obtain ⟨hz, hf⟩ := ck_inv hf
      have hq9 := Option.some.inj hf
      subst hq9
      subst hQ
      exact r_zret X hG (of_decide_eq_true hz) dX4_spells_56
    · replace hf := ite_f hf hc4
      refine lv_aload_n hx hb dX4_spells_28 rfl (lv_at hl 0 rfl) ?_
      refine G_4_9 X hG 0 rfl dX4_spells_29 ?_
      refine lv_aload_n hx hb dX4_spells_32 rfl (lv_at hl 0 rfl) ?_
      refine G_4_25 X hG 0 rfl dX4_spells_33 ?_
      refine lv_iload_n hx hb dX4_spells_36 rfl (lv_at hl 2 rfl) ?_
      refine lv_iadd hx hb dX4_spells_37 ?_
      refine r_iald X hG 0 1 rfl rfl hf dX4_spells_38 (fun x5 hf => ?_)
      refine lv_aload_n hx hb dX4_spells_39 rfl (lv_at hl 1 rfl) ?_
      refine lv_iload_n hx hb dX4_spells_40 rfl (lv_at hl 2 rfl) ?_
      obtain ⟨hb7, hf⟩ := ck_inv hf
      refine r_callRi (bc := []) (br := [wX4 g o0 ad0 s0]) (bs' := [wX4 g o0 ad0 s0]) (As := [.int t2]) (rest := [.int x5]) X hG hl.1 (c_schr2 g l a1 t2 hw hb7) (List.Perm.refl _) (List.Perm.refl _) lk_J0_charAt_5068e lv_J0_charAt_5068e (TW_at 360 (by decide +kernel) (by decide +kernel)) (str_recv X hG hw) rfl rfl ⟨Nat.le_of_ble_eq_true rfl, Nat.le_of_ble_eq_true rfl⟩ rfl rfl (Nat.le_of_ble_eq_true rfl) ⟨Nat.zero_le _, Nat.zero_le _⟩ dX4_spells_41 (fun H locs hG => ?_)
      refine r_bni hf (fun x6 hf => ?_)
      refine lv_icmp_eq (tgt := 49) hx hb dX4_spells_44 (by decide) (fun hc8 => ?_) (fun hc8 => ?_)
      · replace hf := ite_t hf hc8
        refine lv_iinc (v := (t2 + 1)) (lv' := [(2, .int (t2 + 1)), (0, .ref o0), (1, .ref (g.2.2.2.1 a1))]) hx hb dX4_spells_49 hl (k := 2) rfl rfl (by decide) rfl (fun ls hl => ?_)
        refine lv_goto (tgt := 20) hx hb dX4_spells_52 (by decide) ?_
        exact hK3 _ hf _ _ _ hG (lv_sub hl [1, 2, 0] rfl)
      · replace hf := ite_f hf hc8
        refine lv_iconst (v := 0) hx hb dX4_spells_47 (by decide) ?_
        obtain ⟨hz, hf⟩ := ck_inv hf
        have hq9 := Option.some.inj hf
        subst hq9
        subst hQ
        exact r_zret X hG (of_decide_eq_true hz) dX4_spells_48
  · replace hf := ite_f hf hc1
    refine lv_iconst (v := 0) hx hb dX4_spells_16 (by decide) ?_
    obtain ⟨hz, hf⟩ := ck_inv hf
    have hq9 := Option.some.inj hf
    subst hq9
    subst hQ
    exact r_zret X hG (of_decide_eq_true hz) dX4_spells_17
def rmX4_wordToken : Room := { frames := 5, cells := 0, slots := 0, locals := 152 }
set_option maxHeartbeats 4000000 in
set_option maxRecDepth 100000 in
theorem c_X4_wordToken (g : GT) (l : Launch) (o0 : Nat) (ad0 : Nat → Nat) (n : Nat) (s0 : MS) (q : Int32) (hf : f_X4_wordToken n s0 = some q) : CI g l yX4_wordToken cX4_wordToken 1 (some .int) rmX4_wordToken [.ref o0] [wX4 g o0 ad0 s0] q [wX4 g o0 ad0 s0] := by
  refine CI_intro RX4 rfl (by decide +kernel) (Nat.le_of_ble_eq_true rfl) ?_
  intro p e s m args below meth c A ls Q hQ X hl hG
  have hl : lv_has ls 1 [(0, .ref o0)] := hl
  have hx := X.1
  have hb := X.2.1
  have hown := X.2.2.2.1
  unfold f_X4_wordToken at hf
  refine lv_aload_n hx hb dX4_wordToken_0 rfl (lv_at hl 0 rfl) ?_
  refine va_ldcS hx hb hown (FX_s1 X) dX4_wordToken_1 ?_
  obtain ⟨q1, hq1, hf⟩ := cl_inv hf
  refine r_callVi (bc := [wX4 g o0 ad0 s0]) (br := []) (bs' := [wX4 g o0 ad0 s0]) (As := [.ref (g.2.2.2.1 1)]) (rest := []) X hG hl.1 (c_X4_spells g l o0 ad0 n 1 s0 q1 hq1 (by decide)) (List.Perm.refl _) (List.Perm.refl _) lk_X4_spells lv_X4_spells ml_4_101 (j := 0) (k := 0) rfl rfl rfl rfl rfl ⟨Nat.le_of_ble_eq_true rfl, Nat.le_of_ble_eq_true rfl⟩ rfl rfl (Nat.le_of_ble_eq_true rfl) ⟨Nat.zero_le _, Nat.zero_le _⟩ dX4_wordToken_3 (fun H locs hG => ?_)
  refine lv_if_eq (tgt := 13) hx hb dX4_wordToken_6 (by decide) (fun hc2 => ?_) (fun hc2 => ?_)
  · replace hf := ite_t hf hc2
    refine lv_aload_n hx hb dX4_wordToken_13 rfl (lv_at hl 0 rfl) ?_
    refine va_ldcS hx hb hown (FX_s2 X) dX4_wordToken_14 ?_
    obtain ⟨q3, hq3, hf⟩ := cl_inv hf
    refine r_callVi (bc := [wX4 g o0 ad0 s0]) (br := []) (bs' := [wX4 g o0 ad0 s0]) (As := [.ref (g.2.2.2.1 2)]) (rest := []) X hG hl.1 (c_X4_spells g l o0 ad0 n 2 s0 q3 hq3 (by decide)) (List.Perm.refl _) (List.Perm.refl _) lk_X4_spells lv_X4_spells ml_4_101 (j := 0) (k := 0) rfl rfl rfl rfl rfl ⟨Nat.le_of_ble_eq_true rfl, Nat.le_of_ble_eq_true rfl⟩ rfl rfl (Nat.le_of_ble_eq_true rfl) ⟨Nat.zero_le _, Nat.zero_le _⟩ dX4_wordToken_16 (fun H locs hG => ?_)
    refine lv_if_eq (tgt := 26) hx hb dX4_wordToken_19 (by decide) (fun hc4 => ?_) (fun hc4 => ?_)
    · replace hf := ite_t hf hc4
      refine lv_aload_n hx hb dX4_wordToken_26 rfl (lv_at hl 0 rfl) ?_
      refine va_ldcS hx hb hown (FX_s3 X) dX4_wordToken_27 ?_
      obtain ⟨q5, hq5, hf⟩ := cl_inv hf
      refine r_callVi (bc := [wX4 g o0 ad0 s0]) (br := []) (bs' := [wX4 g o0 ad0 s0]) (As := [.ref (g.2.2.2.1 3)]) (rest := []) X hG hl.1 (c_X4_spells g l o0 ad0 n 3 s0 q5 hq5 (by decide)) (List.Perm.refl _) (List.Perm.refl _) lk_X4_spells lv_X4_spells ml_4_101 (j := 0) (k := 0) rfl rfl rfl rfl rfl ⟨Nat.le_of_ble_eq_true rfl, Nat.le_of_ble_eq_true rfl⟩ rfl rfl (Nat.le_of_ble_eq_true rfl) ⟨Nat.zero_le _, Nat.zero_le _⟩ dX4_wordToken_29 (fun H locs hG => ?_)
      refine lv_if_eq (tgt := 39) hx hb dX4_wordToken_32 (by decide) (fun hc6 => ?_) (fun hc6 => ?_)
      · replace hf := ite_t hf hc6
        refine lv_aload_n hx hb dX4_wordToken_39 rfl (lv_at hl 0 rfl) ?_
        refine va_ldcS hx hb hown (FX_s4 X) dX4_wordToken_40 ?_
        obtain ⟨q7, hq7, hf⟩ := cl_inv hf
        refine r_callVi (bc := [wX4 g o0 ad0 s0]) (br := []) (bs' := [wX4 g o0 ad0 s0]) (As := [.ref (g.2.2.2.1 4)]) (rest := []) X hG hl.1 (c_X4_spells g l o0 ad0 n 4 s0 q7 hq7 (by decide)) (List.Perm.refl _) (List.Perm.refl _) lk_X4_spells lv_X4_spells ml_4_101 (j := 0) (k := 0) rfl rfl rfl rfl rfl ⟨Nat.le_of_ble_eq_true rfl, Nat.le_of_ble_eq_true rfl⟩ rfl rfl (Nat.le_of_ble_eq_true rfl) ⟨Nat.zero_le _, Nat.zero_le _⟩ dX4_wordToken_42 (fun H locs hG => ?_)
        refine lv_if_eq (tgt := 52) hx hb dX4_wordToken_45 (by decide) (fun hc8 => ?_) (fun hc8 => ?_)
        · replace hf := ite_t hf hc8
          refine lv_aload_n hx hb dX4_wordToken_52 rfl (lv_at hl 0 rfl) ?_
          refine va_ldcS hx hb hown (FX_s5 X) dX4_wordToken_53 ?_
          obtain ⟨q9, hq9, hf⟩ := cl_inv hf
          refine r_callVi (bc := [wX4 g o0 ad0 s0]) (br := []) (bs' := [wX4 g o0 ad0 s0]) (As := [.ref (g.2.2.2.1 5)]) (rest := []) X hG hl.1 (c_X4_spells g l o0 ad0 n 5 s0 q9 hq9 (by decide)) (List.Perm.refl _) (List.Perm.refl _) lk_X4_spells lv_X4_spells ml_4_101 (j := 0) (k := 0) rfl rfl rfl rfl rfl ⟨Nat.le_of_ble_eq_true rfl, Nat.le_of_ble_eq_true rfl⟩ rfl rfl (Nat.le_of_ble_eq_true rfl) ⟨Nat.zero_le _, Nat.zero_le _⟩ dX4_wordToken_55 (fun H locs hG => ?_)
          refine lv_if_eq (tgt := 65) hx hb dX4_wordToken_58 (by decide) (fun hc10 => ?_) (fun hc10 => ?_)
          · replace hf := ite_t hf hc10
            refine lv_aload_n hx hb dX4_wordToken_65 rfl (lv_at hl 0 rfl) ?_
            refine va_ldcS hx hb hown (FX_s6 X) dX4_wordToken_66 ?_
            obtain ⟨q11, hq11, hf⟩ := cl_inv hf
            refine r_callVi (bc := [wX4 g o0 ad0 s0]) (br := []) (bs' := [wX4 g o0 ad0 s0]) (As := [.ref (g.2.2.2.1 6)]) (rest := []) X hG hl.1 (c_X4_spells g l o0 ad0 n 6 s0 q11 hq11 (by decide)) (List.Perm.refl _) (List.Perm.refl _) lk_X4_spells lv_X4_spells ml_4_101 (j := 0) (k := 0) rfl rfl rfl rfl rfl ⟨Nat.le_of_ble_eq_true rfl, Nat.le_of_ble_eq_true rfl⟩ rfl rfl (Nat.le_of_ble_eq_true rfl) ⟨Nat.zero_le _, Nat.zero_le _⟩ dX4_wordToken_68 (fun H locs hG => ?_)
            refine lv_if_eq (tgt := 78) hx hb dX4_wordToken_71 (by decide) (fun hc12 => ?_) (fun hc12 => ?_)
            · replace hf := ite_t hf hc12
              refine lv_aload_n hx hb dX4_wordToken_78 rfl (lv_at hl 0 rfl) ?_
              refine va_ldcS hx hb hown (FX_s7 X) dX4_wordToken_79 ?_
              obtain ⟨q13, hq13, hf⟩ := cl_inv hf
              refine r_callVi (bc := [wX4 g o0 ad0 s0]) (br := []) (bs' := [wX4 g o0 ad0 s0]) (As := [.ref (g.2.2.2.1 7)]) (rest := []) X hG hl.1 (c_X4_spells g l o0 ad0 n 7 s0 q13 hq13 (by decide)) (List.Perm.refl _) (List.Perm.refl _) lk_X4_spells lv_X4_spells ml_4_101 (j := 0) (k := 0) rfl rfl rfl rfl rfl ⟨Nat.le_of_ble_eq_true rfl, Nat.le_of_ble_eq_true rfl⟩ rfl rfl (Nat.le_of_ble_eq_true rfl) ⟨Nat.zero_le _, Nat.zero_le _⟩ dX4_wordToken_81 (fun H locs hG => ?_)
              refine lv_if_eq (tgt := 91) hx hb dX4_wordToken_84 (by decide) (fun hc14 => ?_) (fun hc14 => ?_)
              · replace hf := ite_t hf hc14
                refine lv_aload_n hx hb dX4_wordToken_91 rfl (lv_at hl 0 rfl) ?_
                refine va_ldcS hx hb hown (FX_s8 X) dX4_wordToken_92 ?_
                obtain ⟨q15, hq15, hf⟩ := cl_inv hf
                refine r_callVi (bc := [wX4 g o0 ad0 s0]) (br := []) (bs' := [wX4 g o0 ad0 s0]) (As := [.ref (g.2.2.2.1 8)]) (rest := []) X hG hl.1 (c_X4_spells g l o0 ad0 n 8 s0 q15 hq15 (by decide)) (List.Perm.refl _) (List.Perm.refl _) lk_X4_spells lv_X4_spells ml_4_101 (j := 0) (k := 0) rfl rfl rfl rfl rfl ⟨Nat.le_of_ble_eq_true rfl, Nat.le_of_ble_eq_true rfl⟩ rfl rfl (Nat.le_of_ble_eq_true rfl) ⟨Nat.zero_le _, Nat.zero_le _⟩ dX4_wordToken_94 (fun H locs hG => ?_)
                refine lv_if_eq (tgt := 104) hx hb dX4_wordToken_97 (by decide) (fun hc16 => ?_) (fun hc16 => ?_)
                · replace hf := ite_t hf hc16
                  refine lv_aload_n hx hb dX4_wordToken_104 rfl (lv_at hl 0 rfl) ?_
                  refine va_ldcS hx hb hown (FX_s9 X) dX4_wordToken_105 ?_
                  obtain ⟨q17, hq17, hf⟩ := cl_inv hf
                  refine r_callVi (bc := [wX4 g o0 ad0 s0]) (br := []) (bs' := [wX4 g o0 ad0 s0]) (As := [.ref (g.2.2.2.1 9)]) (rest := []) X hG hl.1 (c_X4_spells g l o0 ad0 n 9 s0 q17 hq17 (by decide)) (List.Perm.refl _) (List.Perm.refl _) lk_X4_spells lv_X4_spells ml_4_101 (j := 0) (k := 0) rfl rfl rfl rfl rfl ⟨Nat.le_of_ble_eq_true rfl, Nat.le_of_ble_eq_true rfl⟩ rfl rfl (Nat.le_of_ble_eq_true rfl) ⟨Nat.zero_le _, Nat.zero_le _⟩ dX4_wordToken_107 (fun H locs hG => ?_)
                  refine lv_if_eq (tgt := 117) hx hb dX4_wordToken_110 (by decide) (fun hc18 => ?_) (fun hc18 => ?_)
                  · replace hf := ite_t hf hc18
                    refine lv_aload_n hx hb dX4_wordToken_117 rfl (lv_at hl 0 rfl) ?_
                    refine va_ldcS hx hb hown (FX_s10 X) dX4_wordToken_118 ?_
                    obtain ⟨q19, hq19, hf⟩ := cl_inv hf
                    refine r_callVi (bc := [wX4 g o0 ad0 s0]) (br := []) (bs' := [wX4 g o0 ad0 s0]) (As := [.ref (g.2.2.2.1 10)]) (rest := []) X hG hl.1 (c_X4_spells g l o0 ad0 n 10 s0 q19 hq19 (by decide)) (List.Perm.refl _) (List.Perm.refl _) lk_X4_spells lv_X4_spells ml_4_101 (j := 0) (k := 0) rfl rfl rfl rfl rfl ⟨Nat.le_of_ble_eq_true rfl, Nat.le_of_ble_eq_true rfl⟩ rfl rfl (Nat.le_of_ble_eq_true rfl) ⟨Nat.zero_le _, Nat.zero_le _⟩ dX4_wordToken_120 (fun H locs hG => ?_)
                    refine lv_if_eq (tgt := 130) hx hb dX4_wordToken_123 (by decide) (fun hc20 => ?_) (fun hc20 => ?_)
                    · replace hf := ite_t hf hc20
                      refine lv_aload_n hx hb dX4_wordToken_130 rfl (lv_at hl 0 rfl) ?_
                      refine va_ldcS hx hb hown (FX_s11 X) dX4_wordToken_131 ?_
                      obtain ⟨q21, hq21, hf⟩ := cl_inv hf
                      refine r_callVi (bc := [wX4 g o0 ad0 s0]) (br := []) (bs' := [wX4 g o0 ad0 s0]) (As := [.ref (g.2.2.2.1 11)]) (rest := []) X hG hl.1 (c_X4_spells g l o0 ad0 n 11 s0 q21 hq21 (by decide)) (List.Perm.refl _) (List.Perm.refl _) lk_X4_spells lv_X4_spells ml_4_101 (j := 0) (k := 0) rfl rfl rfl rfl rfl ⟨Nat.le_of_ble_eq_true rfl, Nat.le_of_ble_eq_true rfl⟩ rfl rfl (Nat.le_of_ble_eq_true rfl) ⟨Nat.zero_le _, Nat.zero_le _⟩ dX4_wordToken_133 (fun H locs hG => ?_)
                      refine lv_if_eq (tgt := 143) hx hb dX4_wordToken_136 (by decide) (fun hc22 => ?_) (fun hc22 => ?_)
                      · replace hf := ite_t hf hc22
                        refine lv_aload_n hx hb dX4_wordToken_143 rfl (lv_at hl 0 rfl) ?_
                        refine va_ldcS hx hb hown (FX_s12 X) dX4_wordToken_144 ?_
                        obtain ⟨q23, hq23, hf⟩ := cl_inv hf
                        refine r_callVi (bc := [wX4 g o0 ad0 s0]) (br := []) (bs' := [wX4 g o0 ad0 s0]) (As := [.ref (g.2.2.2.1 12)]) (rest := []) X hG hl.1 (c_X4_spells g l o0 ad0 n 12 s0 q23 hq23 (by decide)) (List.Perm.refl _) (List.Perm.refl _) lk_X4_spells lv_X4_spells ml_4_101 (j := 0) (k := 0) rfl rfl rfl rfl rfl ⟨Nat.le_of_ble_eq_true rfl, Nat.le_of_ble_eq_true rfl⟩ rfl rfl (Nat.le_of_ble_eq_true rfl) ⟨Nat.zero_le _, Nat.zero_le _⟩ dX4_wordToken_146 (fun H locs hG => ?_)
                        refine lv_if_eq (tgt := 158) hx hb dX4_wordToken_149 (by decide) (fun hc24 => ?_) (fun hc24 => ?_)
                        · replace hf := ite_t hf hc24
                          refine lv_iconst (v := 0) hx hb dX4_wordToken_158 (by decide) ?_
                          have hq9 := Option.some.inj hf
                          subst hq9
                          subst hQ
                          exact r_iret X hG dX4_wordToken_159
                        · replace hf := ite_f hf hc24
                          refine lv_sipush (v := 258) hx hb dX4_wordToken_152 (by decide) ?_
                          refine lv_goto (tgt := 159) hx hb dX4_wordToken_155 (by decide) ?_
                          have hq9 := Option.some.inj hf
                          subst hq9
                          subst hQ
                          exact r_iret X hG dX4_wordToken_159
                      · replace hf := ite_f hf hc22
                        refine lv_sipush (v := 257) hx hb dX4_wordToken_139 (by decide) ?_
                        have hq9 := Option.some.inj hf
                        subst hq9
                        subst hQ
                        exact r_iret X hG dX4_wordToken_142
                    · replace hf := ite_f hf hc20
                      refine lv_sipush (v := 256) hx hb dX4_wordToken_126 (by decide) ?_
                      have hq9 := Option.some.inj hf
                      subst hq9
                      subst hQ
                      exact r_iret X hG dX4_wordToken_129
                  · replace hf := ite_f hf hc18
                    refine lv_sipush (v := 272) hx hb dX4_wordToken_113 (by decide) ?_
                    have hq9 := Option.some.inj hf
                    subst hq9
                    subst hQ
                    exact r_iret X hG dX4_wordToken_116
                · replace hf := ite_f hf hc16
                  refine lv_sipush (v := 271) hx hb dX4_wordToken_100 (by decide) ?_
                  have hq9 := Option.some.inj hf
                  subst hq9
                  subst hQ
                  exact r_iret X hG dX4_wordToken_103
              · replace hf := ite_f hf hc14
                refine lv_sipush (v := 270) hx hb dX4_wordToken_87 (by decide) ?_
                have hq9 := Option.some.inj hf
                subst hq9
                subst hQ
                exact r_iret X hG dX4_wordToken_90
            · replace hf := ite_f hf hc12
              refine lv_sipush (v := 305) hx hb dX4_wordToken_74 (by decide) ?_
              have hq9 := Option.some.inj hf
              subst hq9
              subst hQ
              exact r_iret X hG dX4_wordToken_77
          · replace hf := ite_f hf hc10
            refine lv_sipush (v := 304) hx hb dX4_wordToken_61 (by decide) ?_
            have hq9 := Option.some.inj hf
            subst hq9
            subst hQ
            exact r_iret X hG dX4_wordToken_64
        · replace hf := ite_f hf hc8
          refine lv_sipush (v := 303) hx hb dX4_wordToken_48 (by decide) ?_
          have hq9 := Option.some.inj hf
          subst hq9
          subst hQ
          exact r_iret X hG dX4_wordToken_51
      · replace hf := ite_f hf hc6
        refine lv_sipush (v := 302) hx hb dX4_wordToken_35 (by decide) ?_
        have hq9 := Option.some.inj hf
        subst hq9
        subst hQ
        exact r_iret X hG dX4_wordToken_38
    · replace hf := ite_f hf hc4
      refine lv_sipush (v := 301) hx hb dX4_wordToken_22 (by decide) ?_
      have hq9 := Option.some.inj hf
      subst hq9
      subst hQ
      exact r_iret X hG dX4_wordToken_25
  · replace hf := ite_f hf hc2
    refine lv_sipush (v := 300) hx hb dX4_wordToken_9 (by decide) ?_
    have hq9 := Option.some.inj hf
    subst hq9
    subst hQ
    exact r_iret X hG dX4_wordToken_12
def rmX4_next : Room := { frames := 6, cells := 0, slots := 0, locals := 172 }
set_option maxHeartbeats 4000000 in
set_option maxRecDepth 100000 in
theorem c_X4_next (g : GT) (l : Launch) (o0 : Nat) (ad0 : Nat → Nat) (n : Nat) (s0 : MS) (q : MS) (hf : f_X4_next n s0 = some q) : CV g l yX4_next cX4_next 1 none rmX4_next [.ref o0] [wX4 g o0 ad0 s0] [wX4 g o0 ad0 q] := by
  refine CV_intro RX4 rfl (by decide +kernel) (Nat.le_of_ble_eq_true rfl) ?_
  intro p e s m args below meth c A ls Q hQ X hl hG
  have hl : lv_has ls 1 [(0, .ref o0)] := hl
  have hx := X.1
  have hb := X.2.1
  have hown := X.2.2.2.1
  unfold f_X4_next at hf
  refine lp_go (P := fun (t1 : MS) => ∀ (H : Heap) (locs : List Loc) (ls : Array Slot), GM g A s.heap H locs [wX4 g o0 ad0 t1] → lv_has ls 1 [(0, .ref o0)] → W p l e rmX4_next s m args below meth c H locs 0 0 Q (F0 m 0 ls [])) hf (fun K2 hK2 t1 hf H locs ls hG hl => ?_) _ _ _ hG (lv_sub hl [0] rfl)
  refine lv_aload_n hx hb dX4_next_0 rfl (lv_at hl 0 rfl) ?_
  refine G_4_19 X hG 0 rfl dX4_next_1 ?_
  refine lv_aload_n hx hb dX4_next_4 rfl (lv_at hl 0 rfl) ?_
  refine G_4_15 X hG 0 rfl dX4_next_5 ?_
  refine jn_use (P := fun (t3 : Unit) => ∀ (H : Heap) (locs : List Loc) (ls : Array Slot), GM g A s.heap H locs [wX4 g o0 ad0 t1] → lv_has ls 1 [(0, .ref o0)] → W p l e rmX4_next s m args below meth c H locs 0 0 Q (F0 m 52 ls [])) hf (fun t3 hf H locs ls hG hl => ?_) (fun K4 hK4 hf => ?_)
  · refine lv_aload_n hx hb dX4_next_52 rfl (lv_at hl 0 rfl) ?_
    refine lv_aload_n hx hb dX4_next_53 rfl (lv_at hl 0 rfl) ?_
    refine G_4_19 X hG 0 rfl dX4_next_54 ?_
    refine P_4_25 X hG 0 rfl hf (fun t => [wX4 g o0 ad0 t]) (fun _ => rfl) dX4_next_57 (fun z5 H locs hf hG => ?_)
    refine lv_aload_n hx hb dX4_next_60 rfl (lv_at hl 0 rfl) ?_
    refine G_4_19 X hG 0 rfl dX4_next_61 ?_
    refine lv_aload_n hx hb dX4_next_64 rfl (lv_at hl 0 rfl) ?_
    refine G_4_15 X hG 0 rfl dX4_next_65 ?_
    refine lv_icmp_lt (tgt := 79) hx hb dX4_next_68 (by decide) (fun hc6 => ?_) (fun hc6 => ?_)
    · replace hf := ite_t hf hc6
      refine lv_aload_n hx hb dX4_next_79 rfl (lv_at hl 0 rfl) ?_
      refine G_4_9 X hG 0 rfl dX4_next_80 ?_
      refine lv_aload_n hx hb dX4_next_83 rfl (lv_at hl 0 rfl) ?_
      refine G_4_19 X hG 0 rfl dX4_next_84 ?_
      refine r_iald X hG 0 1 rfl rfl hf dX4_next_87 (fun x7 hf => ?_)
      obtain ⟨q8, hq8, hf⟩ := cl_inv hf
      refine r_callSi (bc := []) (br := [wX4 g o0 ad0 z5]) (bs' := [wX4 g o0 ad0 z5]) (As := [.int x7]) (rest := []) X hG hl.1 (c_X4_isLetter g l n x7 q8 hq8) (List.Perm.refl _) (List.Perm.refl _) lk_X4_isLetter ls_X4_isLetter ml_4_78 rfl rfl ⟨Nat.le_of_ble_eq_true rfl, Nat.le_of_ble_eq_true rfl⟩ rfl rfl (Nat.le_of_ble_eq_true rfl) ⟨Nat.zero_le _, Nat.zero_le _⟩ dX4_next_88 (fun H locs hG => ?_)
      refine lv_if_eq (tgt := 144) hx hb dX4_next_91 (by decide) (fun hc9 => ?_) (fun hc9 => ?_)
      · replace hf := ite_t hf hc9
        refine lv_aload_n hx hb dX4_next_144 rfl (lv_at hl 0 rfl) ?_
        refine G_4_9 X hG 0 rfl dX4_next_145 ?_
        refine lv_aload_n hx hb dX4_next_148 rfl (lv_at hl 0 rfl) ?_
        refine G_4_19 X hG 0 rfl dX4_next_149 ?_
        refine r_iald X hG 0 1 rfl rfl hf dX4_next_152 (fun x10 hf => ?_)
        obtain ⟨q11, hq11, hf⟩ := cl_inv hf
        refine r_callSi (bc := []) (br := [wX4 g o0 ad0 z5]) (bs' := [wX4 g o0 ad0 z5]) (As := [.int x10]) (rest := []) X hG hl.1 (c_X4_isDigit g l n x10 q11 hq11) (List.Perm.refl _) (List.Perm.refl _) lk_X4_isDigit ls_X4_isDigit ml_4_85 rfl rfl ⟨Nat.le_of_ble_eq_true rfl, Nat.le_of_ble_eq_true rfl⟩ rfl rfl (Nat.le_of_ble_eq_true rfl) ⟨Nat.zero_le _, Nat.zero_le _⟩ dX4_next_153 (fun H locs hG => ?_)
        refine lv_if_eq (tgt := 209) hx hb dX4_next_156 (by decide) (fun hc12 => ?_) (fun hc12 => ?_)
        · replace hf := ite_t hf hc12
          refine lv_aload_n hx hb dX4_next_209 rfl (lv_at hl 0 rfl) ?_
          refine lv_aload_n hx hb dX4_next_210 rfl (lv_at hl 0 rfl) ?_
          refine G_4_9 X hG 0 rfl dX4_next_211 ?_
          refine lv_aload_n hx hb dX4_next_214 rfl (lv_at hl 0 rfl) ?_
          refine G_4_19 X hG 0 rfl dX4_next_215 ?_
          refine r_iald X hG 0 1 rfl rfl hf dX4_next_218 (fun x13 hf => ?_)
          obtain ⟨q14, hq14, hf⟩ := cl_inv hf
          refine r_callSi (bc := []) (br := [wX4 g o0 ad0 z5]) (bs' := [wX4 g o0 ad0 z5]) (As := [.int x13]) (rest := [.ref o0]) X hG hl.1 (c_X4_signToken g l n x13 q14 hq14) (List.Perm.refl _) (List.Perm.refl _) lk_X4_signToken ls_X4_signToken ml_4_91 rfl rfl ⟨Nat.le_of_ble_eq_true rfl, Nat.le_of_ble_eq_true rfl⟩ rfl rfl (Nat.le_of_ble_eq_true rfl) ⟨Nat.zero_le _, Nat.zero_le _⟩ dX4_next_219 (fun H locs hG => ?_)
          refine P_4_22 X hG 0 rfl hf (fun t => [wX4 g o0 ad0 t]) (fun _ => rfl) dX4_next_222 (fun z15 H locs hf hG => ?_)
          refine lv_aload_n hx hb dX4_next_225 rfl (lv_at hl 0 rfl) ?_
          refine lv_dup hx hb dX4_next_226 rfl ?_
          refine G_4_19 X hG 0 rfl dX4_next_227 ?_
          refine lv_iconst (v := 1) hx hb dX4_next_230 (by decide) ?_
          refine lv_iadd hx hb dX4_next_231 ?_
          refine P_4_19 X hG 0 rfl hf (fun t => [wX4 g o0 ad0 t]) (fun _ => rfl) dX4_next_232 (fun z16 H locs hf hG => ?_)
          have hq9 := Option.some.inj hf
          subst hq9
          subst hQ
          exact r_vret X hG dX4_next_235
        · replace hf := ite_f hf hc12
          refine lp_go (P := fun (t17 : MS) => ∀ (H : Heap) (locs : List Loc) (ls : Array Slot), GM g A s.heap H locs [wX4 g o0 ad0 t17] → lv_has ls 1 [(0, .ref o0)] → W p l e rmX4_next s m args below meth c H locs 0 0 Q (F0 m 159 ls [])) hf (fun K18 hK18 t17 hf H locs ls hG hl => ?_) _ _ _ hG (lv_sub hl [0] rfl)
          refine lv_aload_n hx hb dX4_next_159 rfl (lv_at hl 0 rfl) ?_
          refine G_4_19 X hG 0 rfl dX4_next_160 ?_
          refine lv_aload_n hx hb dX4_next_163 rfl (lv_at hl 0 rfl) ?_
          refine G_4_15 X hG 0 rfl dX4_next_164 ?_
          refine jn_use (P := fun (t19 : Unit) => ∀ (H : Heap) (locs : List Loc) (ls : Array Slot), GM g A s.heap H locs [wX4 g o0 ad0 t17] → lv_has ls 1 [(0, .ref o0)] → W p l e rmX4_next s m args below meth c H locs 0 0 Q (F0 m 198 ls [])) hf (fun t19 hf H locs ls hG hl => ?_) (fun K20 hK20 hf => ?_)
          · refine lv_aload_n hx hb dX4_next_198 rfl (lv_at hl 0 rfl) ?_
            refine lv_aload_n hx hb dX4_next_199 rfl (lv_at hl 0 rfl) ?_
            obtain ⟨q21, hq21, hf⟩ := cl_inv hf
            refine r_callVi (bc := [wX4 g o0 ad0 t17]) (br := []) (bs' := [wX4 g o0 ad0 t17]) (As := []) (rest := [.ref o0]) X hG hl.1 (c_X4_numberToken g l o0 ad0 n t17 q21 hq21) (List.Perm.refl _) (List.Perm.refl _) lk_X4_numberToken lv_X4_numberToken ml_4_88 (j := 0) (k := 0) rfl rfl rfl rfl rfl ⟨Nat.le_of_ble_eq_true rfl, Nat.le_of_ble_eq_true rfl⟩ rfl rfl (Nat.le_of_ble_eq_true rfl) ⟨Nat.zero_le _, Nat.zero_le _⟩ dX4_next_200 (fun H locs hG => ?_)
            refine P_4_22 X hG 0 rfl hf (fun t => [wX4 g o0 ad0 t]) (fun _ => rfl) dX4_next_203 (fun z22 H locs hf hG => ?_)
            refine lv_goto (tgt := 235) hx hb dX4_next_206 (by decide) ?_
            have hq9 := Option.some.inj hf
            subst hq9
            subst hQ
            exact r_vret X hG dX4_next_235
          refine lv_icmp_ge (tgt := 198) hx hb dX4_next_167 (by decide) (fun hc23 => ?_) (fun hc23 => ?_)
          · replace hf := ite_t hf hc23
            exact hK20 _ hf _ _ _ hG (lv_sub hl [0] rfl)
          · replace hf := ite_f hf hc23
            refine lv_aload_n hx hb dX4_next_170 rfl (lv_at hl 0 rfl) ?_
            refine G_4_9 X hG 0 rfl dX4_next_171 ?_
            refine lv_aload_n hx hb dX4_next_174 rfl (lv_at hl 0 rfl) ?_
            refine G_4_19 X hG 0 rfl dX4_next_175 ?_
            refine r_iald X hG 0 1 rfl rfl hf dX4_next_178 (fun x24 hf => ?_)
            obtain ⟨q25, hq25, hf⟩ := cl_inv hf
            refine r_callSi (bc := []) (br := [wX4 g o0 ad0 t17]) (bs' := [wX4 g o0 ad0 t17]) (As := [.int x24]) (rest := []) X hG hl.1 (c_X4_isDigit g l n x24 q25 hq25) (List.Perm.refl _) (List.Perm.refl _) lk_X4_isDigit ls_X4_isDigit ml_4_85 rfl rfl ⟨Nat.le_of_ble_eq_true rfl, Nat.le_of_ble_eq_true rfl⟩ rfl rfl (Nat.le_of_ble_eq_true rfl) ⟨Nat.zero_le _, Nat.zero_le _⟩ dX4_next_179 (fun H locs hG => ?_)
            refine lv_if_eq (tgt := 198) hx hb dX4_next_182 (by decide) (fun hc26 => ?_) (fun hc26 => ?_)
            · replace hf := ite_t hf hc26
              exact hK20 _ hf _ _ _ hG (lv_sub hl [0] rfl)
            · replace hf := ite_f hf hc26
              refine lv_aload_n hx hb dX4_next_185 rfl (lv_at hl 0 rfl) ?_
              refine lv_dup hx hb dX4_next_186 rfl ?_
              refine G_4_19 X hG 0 rfl dX4_next_187 ?_
              refine lv_iconst (v := 1) hx hb dX4_next_190 (by decide) ?_
              refine lv_iadd hx hb dX4_next_191 ?_
              refine P_4_19 X hG 0 rfl hf (fun t => [wX4 g o0 ad0 t]) (fun _ => rfl) dX4_next_192 (fun z27 H locs hf hG => ?_)
              refine lv_goto (tgt := 159) hx hb dX4_next_195 (by decide) ?_
              exact hK18 _ hf _ _ _ hG (lv_sub hl [0] rfl)
      · replace hf := ite_f hf hc9
        refine lp_go (P := fun (t28 : MS) => ∀ (H : Heap) (locs : List Loc) (ls : Array Slot), GM g A s.heap H locs [wX4 g o0 ad0 t28] → lv_has ls 1 [(0, .ref o0)] → W p l e rmX4_next s m args below meth c H locs 0 0 Q (F0 m 94 ls [])) hf (fun K29 hK29 t28 hf H locs ls hG hl => ?_) _ _ _ hG (lv_sub hl [0] rfl)
        refine lv_aload_n hx hb dX4_next_94 rfl (lv_at hl 0 rfl) ?_
        refine G_4_19 X hG 0 rfl dX4_next_95 ?_
        refine lv_aload_n hx hb dX4_next_98 rfl (lv_at hl 0 rfl) ?_
        refine G_4_15 X hG 0 rfl dX4_next_99 ?_
        refine jn_use (P := fun (t30 : Unit) => ∀ (H : Heap) (locs : List Loc) (ls : Array Slot), GM g A s.heap H locs [wX4 g o0 ad0 t28] → lv_has ls 1 [(0, .ref o0)] → W p l e rmX4_next s m args below meth c H locs 0 0 Q (F0 m 133 ls [])) hf (fun t30 hf H locs ls hG hl => ?_) (fun K31 hK31 hf => ?_)
        · refine lv_aload_n hx hb dX4_next_133 rfl (lv_at hl 0 rfl) ?_
          refine lv_aload_n hx hb dX4_next_134 rfl (lv_at hl 0 rfl) ?_
          obtain ⟨q32, hq32, hf⟩ := cl_inv hf
          refine r_callVi (bc := [wX4 g o0 ad0 t28]) (br := []) (bs' := [wX4 g o0 ad0 t28]) (As := []) (rest := [.ref o0]) X hG hl.1 (c_X4_wordToken g l o0 ad0 n t28 q32 hq32) (List.Perm.refl _) (List.Perm.refl _) lk_X4_wordToken lv_X4_wordToken ml_4_81 (j := 0) (k := 0) rfl rfl rfl rfl rfl ⟨Nat.le_of_ble_eq_true rfl, Nat.le_of_ble_eq_true rfl⟩ rfl rfl (Nat.le_of_ble_eq_true rfl) ⟨Nat.zero_le _, Nat.zero_le _⟩ dX4_next_135 (fun H locs hG => ?_)
          refine P_4_22 X hG 0 rfl hf (fun t => [wX4 g o0 ad0 t]) (fun _ => rfl) dX4_next_138 (fun z33 H locs hf hG => ?_)
          refine lv_goto (tgt := 235) hx hb dX4_next_141 (by decide) ?_
          have hq9 := Option.some.inj hf
          subst hq9
          subst hQ
          exact r_vret X hG dX4_next_235
        refine lv_icmp_ge (tgt := 133) hx hb dX4_next_102 (by decide) (fun hc34 => ?_) (fun hc34 => ?_)
        · replace hf := ite_t hf hc34
          exact hK31 _ hf _ _ _ hG (lv_sub hl [0] rfl)
        · replace hf := ite_f hf hc34
          refine lv_aload_n hx hb dX4_next_105 rfl (lv_at hl 0 rfl) ?_
          refine G_4_9 X hG 0 rfl dX4_next_106 ?_
          refine lv_aload_n hx hb dX4_next_109 rfl (lv_at hl 0 rfl) ?_
          refine G_4_19 X hG 0 rfl dX4_next_110 ?_
          refine r_iald X hG 0 1 rfl rfl hf dX4_next_113 (fun x35 hf => ?_)
          obtain ⟨q36, hq36, hf⟩ := cl_inv hf
          refine r_callSi (bc := []) (br := [wX4 g o0 ad0 t28]) (bs' := [wX4 g o0 ad0 t28]) (As := [.int x35]) (rest := []) X hG hl.1 (c_X4_isLetter g l n x35 q36 hq36) (List.Perm.refl _) (List.Perm.refl _) lk_X4_isLetter ls_X4_isLetter ml_4_78 rfl rfl ⟨Nat.le_of_ble_eq_true rfl, Nat.le_of_ble_eq_true rfl⟩ rfl rfl (Nat.le_of_ble_eq_true rfl) ⟨Nat.zero_le _, Nat.zero_le _⟩ dX4_next_114 (fun H locs hG => ?_)
          refine lv_if_eq (tgt := 133) hx hb dX4_next_117 (by decide) (fun hc37 => ?_) (fun hc37 => ?_)
          · replace hf := ite_t hf hc37
            exact hK31 _ hf _ _ _ hG (lv_sub hl [0] rfl)
          · replace hf := ite_f hf hc37
            refine lv_aload_n hx hb dX4_next_120 rfl (lv_at hl 0 rfl) ?_
            refine lv_dup hx hb dX4_next_121 rfl ?_
            refine G_4_19 X hG 0 rfl dX4_next_122 ?_
            refine lv_iconst (v := 1) hx hb dX4_next_125 (by decide) ?_
            refine lv_iadd hx hb dX4_next_126 ?_
            refine P_4_19 X hG 0 rfl hf (fun t => [wX4 g o0 ad0 t]) (fun _ => rfl) dX4_next_127 (fun z38 H locs hf hG => ?_)
            refine lv_goto (tgt := 94) hx hb dX4_next_130 (by decide) ?_
            exact hK29 _ hf _ _ _ hG (lv_sub hl [0] rfl)
    · replace hf := ite_f hf hc6
      refine lv_aload_n hx hb dX4_next_71 rfl (lv_at hl 0 rfl) ?_
      refine lv_iconst (v := 1) hx hb dX4_next_72 (by decide) ?_
      refine P_4_22 X hG 0 rfl hf (fun t => [wX4 g o0 ad0 t]) (fun _ => rfl) dX4_next_73 (fun z39 H locs hf hG => ?_)
      refine lv_goto (tgt := 235) hx hb dX4_next_76 (by decide) ?_
      have hq9 := Option.some.inj hf
      subst hq9
      subst hQ
      exact r_vret X hG dX4_next_235
  refine lv_icmp_ge (tgt := 52) hx hb dX4_next_8 (by decide) (fun hc40 => ?_) (fun hc40 => ?_)
  · replace hf := ite_t hf hc40
    exact hK4 _ hf _ _ _ hG (lv_sub hl [0] rfl)
  · replace hf := ite_f hf hc40
    refine lv_aload_n hx hb dX4_next_11 rfl (lv_at hl 0 rfl) ?_
    refine G_4_9 X hG 0 rfl dX4_next_12 ?_
    refine lv_aload_n hx hb dX4_next_15 rfl (lv_at hl 0 rfl) ?_
    refine G_4_19 X hG 0 rfl dX4_next_16 ?_
    refine r_iald X hG 0 1 rfl rfl hf dX4_next_19 (fun x41 hf => ?_)
    refine lv_bipush (v := 32) hx hb dX4_next_20 (by decide) ?_
    refine jn_use (P := fun (t42 : Unit) => ∀ (H : Heap) (locs : List Loc) (ls : Array Slot), GM g A s.heap H locs [wX4 g o0 ad0 t1] → lv_has ls 1 [(0, .ref o0)] → W p l e rmX4_next s m args below meth c H locs 0 0 Q (F0 m 39 ls [])) hf (fun t42 hf H locs ls hG hl => ?_) (fun K43 hK43 hf => ?_)
    · refine lv_aload_n hx hb dX4_next_39 rfl (lv_at hl 0 rfl) ?_
      refine lv_dup hx hb dX4_next_40 rfl ?_
      refine G_4_19 X hG 0 rfl dX4_next_41 ?_
      refine lv_iconst (v := 1) hx hb dX4_next_44 (by decide) ?_
      refine lv_iadd hx hb dX4_next_45 ?_
      refine P_4_19 X hG 0 rfl hf (fun t => [wX4 g o0 ad0 t]) (fun _ => rfl) dX4_next_46 (fun z44 H locs hf hG => ?_)
      refine lv_goto (tgt := 0) hx hb dX4_next_49 (by decide) ?_
      exact hK2 _ hf _ _ _ hG (lv_sub hl [0] rfl)
    refine lv_icmp_eq (tgt := 39) hx hb dX4_next_22 (by decide) (fun hc45 => ?_) (fun hc45 => ?_)
    · replace hf := ite_t hf hc45
      exact hK43 _ hf _ _ _ hG (lv_sub hl [0] rfl)
    · replace hf := ite_f hf hc45
      refine lv_aload_n hx hb dX4_next_25 rfl (lv_at hl 0 rfl) ?_
      refine G_4_9 X hG 0 rfl dX4_next_26 ?_
      refine lv_aload_n hx hb dX4_next_29 rfl (lv_at hl 0 rfl) ?_
      refine G_4_19 X hG 0 rfl dX4_next_30 ?_
      refine r_iald X hG 0 1 rfl rfl hf dX4_next_33 (fun x46 hf => ?_)
      refine lv_bipush (v := 10) hx hb dX4_next_34 (by decide) ?_
      refine lv_icmp_ne (tgt := 52) hx hb dX4_next_36 (by decide) (fun hc47 => ?_) (fun hc47 => ?_)
      · replace hf := ite_f hf hc47
        exact hK4 _ hf _ _ _ hG (lv_sub hl [0] rfl)
      · replace hf := ite_t hf hc47
        exact hK43 _ hf _ _ _ hG (lv_sub hl [0] rfl)
def rmX4_refuse : Room := { frames := 0, cells := 0, slots := 0, locals := 0 }
set_option maxHeartbeats 4000000 in
set_option maxRecDepth 100000 in
theorem c_X4_refuse (g : GT) (l : Launch) (o0 : Nat) (ad0 : Nat → Nat) (n : Nat) (s0 : MS) (q : MS) (hf : f_X4_refuse n s0 = some q) : CV g l yX4_refuse cX4_refuse 1 none rmX4_refuse [.ref o0] [wX4 g o0 ad0 s0] [wX4 g o0 ad0 q] := by
  refine CV_intro RX4 rfl (by decide +kernel) (Nat.le_of_ble_eq_true rfl) ?_
  intro p e s m args below meth c A ls Q hQ X hl hG
  have hl : lv_has ls 1 [(0, .ref o0)] := hl
  have hx := X.1
  have hb := X.2.1
  have hown := X.2.2.2.1
  unfold f_X4_refuse at hf
  refine lv_aload_n hx hb dX4_refuse_0 rfl (lv_at hl 0 rfl) ?_
  refine G_4_28 X hG 0 rfl dX4_refuse_1 ?_
  refine lv_iconst (v := (-1)) hx hb dX4_refuse_4 (by decide) ?_
  refine jn_use (P := fun (t1 : MS) => ∀ (H : Heap) (locs : List Loc) (ls : Array Slot), GM g A s.heap H locs [wX4 g o0 ad0 t1] → lv_has ls 1 [(0, .ref o0)] → W p l e rmX4_refuse s m args below meth c H locs 0 0 Q (F0 m 16 ls [])) hf (fun t1 hf H locs ls hG hl => ?_) (fun K2 hK2 hf => ?_)
  · refine lv_aload_n hx hb dX4_refuse_16 rfl (lv_at hl 0 rfl) ?_
    refine lv_iconst (v := 0) hx hb dX4_refuse_17 (by decide) ?_
    refine P_4_22 X hG 0 rfl hf (fun t => [wX4 g o0 ad0 t]) (fun _ => rfl) dX4_refuse_18 (fun z3 H locs hf hG => ?_)
    have hq9 := Option.some.inj hf
    subst hq9
    subst hQ
    exact r_vret X hG dX4_refuse_21
  refine lv_icmp_ne (tgt := 16) hx hb dX4_refuse_5 (by decide) (fun hc4 => ?_) (fun hc4 => ?_)
  · replace hf := ite_f hf hc4
    exact hK2 _ hf _ _ _ hG (lv_sub hl [0] rfl)
  · replace hf := ite_t hf hc4
    refine lv_aload_n hx hb dX4_refuse_8 rfl (lv_at hl 0 rfl) ?_
    refine lv_aload_n hx hb dX4_refuse_9 rfl (lv_at hl 0 rfl) ?_
    refine G_4_25 X hG 0 rfl dX4_refuse_10 ?_
    refine P_4_28 X hG 0 rfl hf (fun t => [wX4 g o0 ad0 t]) (fun _ => rfl) dX4_refuse_13 (fun z5 H locs hf hG => ?_)
    exact hK2 _ hf _ _ _ hG (lv_sub hl [0] rfl)
def rmX4_expect : Room := { frames := 7, cells := 0, slots := 0, locals := 192 }
set_option maxHeartbeats 4000000 in
set_option maxRecDepth 100000 in
theorem c_X4_expect (g : GT) (l : Launch) (o0 : Nat) (ad0 : Nat → Nat) (n : Nat) (a1 : Int32) (s0 : MS) (q : MS) (hf : f_X4_expect n a1 s0 = some q) : CV g l yX4_expect cX4_expect 2 none rmX4_expect [.ref o0, .int a1] [wX4 g o0 ad0 s0] [wX4 g o0 ad0 q] := by
  refine CV_intro RX4 rfl (by decide +kernel) (Nat.le_of_ble_eq_true rfl) ?_
  intro p e s m args below meth c A ls Q hQ X hl hG
  have hl : lv_has ls 2 [(0, .ref o0), (1, .int a1)] := hl
  have hx := X.1
  have hb := X.2.1
  have hown := X.2.2.2.1
  unfold f_X4_expect at hf
  refine lv_aload_n hx hb dX4_expect_0 rfl (lv_at hl 0 rfl) ?_
  refine G_4_22 X hG 0 rfl dX4_expect_1 ?_
  refine lv_iload_n hx hb dX4_expect_4 rfl (lv_at hl 1 rfl) ?_
  refine lv_icmp_ne (tgt := 15) hx hb dX4_expect_5 (by decide) (fun hc1 => ?_) (fun hc1 => ?_)
  · replace hf := ite_f hf hc1
    refine lv_aload_n hx hb dX4_expect_15 rfl (lv_at hl 0 rfl) ?_
    obtain ⟨q2, hq2, hf⟩ := cl_inv hf
    refine r_callVv (bc := [wX4 g o0 ad0 s0]) (br := []) (bs' := [wX4 g o0 ad0 q2]) (As := []) (rest := []) X hG hl.1 (c_X4_refuse g l o0 ad0 n s0 q2 hq2) (List.Perm.refl _) (List.Perm.refl _) lk_X4_refuse lv_X4_refuse ml_4_53 (j := 0) (k := 0) rfl rfl rfl rfl rfl ⟨Nat.le_of_ble_eq_true rfl, Nat.le_of_ble_eq_true rfl⟩ rfl rfl (Nat.le_of_ble_eq_true rfl) ⟨Nat.zero_le _, Nat.zero_le _⟩ dX4_expect_16 (fun H locs hG => ?_)
    have hq9 := Option.some.inj hf
    subst hq9
    subst hQ
    exact r_vret X hG dX4_expect_19
  · replace hf := ite_t hf hc1
    refine lv_aload_n hx hb dX4_expect_8 rfl (lv_at hl 0 rfl) ?_
    obtain ⟨q3, hq3, hf⟩ := cl_inv hf
    refine r_callVv (bc := [wX4 g o0 ad0 s0]) (br := []) (bs' := [wX4 g o0 ad0 q3]) (As := []) (rest := []) X hG hl.1 (c_X4_next g l o0 ad0 n s0 q3 hq3) (List.Perm.refl _) (List.Perm.refl _) lk_X4_next lv_X4_next ml_4_36 (j := 0) (k := 0) rfl rfl rfl rfl rfl ⟨Nat.le_of_ble_eq_true rfl, Nat.le_of_ble_eq_true rfl⟩ rfl rfl (Nat.le_of_ble_eq_true rfl) ⟨Nat.zero_le _, Nat.zero_le _⟩ dX4_expect_9 (fun H locs hG => ?_)
    refine lv_goto (tgt := 19) hx hb dX4_expect_12 (by decide) ?_
    have hq9 := Option.some.inj hf
    subst hq9
    subst hQ
    exact r_vret X hG dX4_expect_19
def rmX4_mayOpen : Room := { frames := 1, cells := 0, slots := 0, locals := 20 }
set_option maxHeartbeats 4000000 in
set_option maxRecDepth 100000 in
theorem c_X4_mayOpen (g : GT) (l : Launch) (o0 : Nat) (ad0 : Nat → Nat) (n : Nat) (a1 : Int32) (s0 : MS) (q : Int32 × MS) (hf : f_X4_mayOpen n a1 s0 = some q) : CI g l yX4_mayOpen cX4_mayOpen 2 (some .boolean) rmX4_mayOpen [.ref o0, .int a1] [wX4 g o0 ad0 s0] q.1 [wX4 g o0 ad0 q.2] := by
  refine CI_intro RX4 rfl (by decide +kernel) (Nat.le_of_ble_eq_true rfl) ?_
  intro p e s m args below meth c A ls Q hQ X hl hG
  have hl : lv_has ls 2 [(0, .ref o0), (1, .int a1)] := hl
  have hx := X.1
  have hb := X.2.1
  have hown := X.2.2.2.1
  unfold f_X4_mayOpen at hf
  refine lv_iload_n hx hb dX4_mayOpen_0 rfl (lv_at hl 1 rfl) ?_
  refine lv_iconst (v := 5) hx hb dX4_mayOpen_1 (by decide) ?_
  refine lv_icmp_ge (tgt := 7) hx hb dX4_mayOpen_2 (by decide) (fun hc1 => ?_) (fun hc1 => ?_)
  · replace hf := ite_t hf hc1
    refine lv_aload_n hx hb dX4_mayOpen_7 rfl (lv_at hl 0 rfl) ?_
    obtain ⟨q2, hq2, hf⟩ := cl_inv hf
    refine r_callVv (bc := [wX4 g o0 ad0 s0]) (br := []) (bs' := [wX4 g o0 ad0 q2]) (As := []) (rest := []) X hG hl.1 (c_X4_refuse g l o0 ad0 n s0 q2 hq2) (List.Perm.refl _) (List.Perm.refl _) lk_X4_refuse lv_X4_refuse ml_4_53 (j := 0) (k := 0) rfl rfl rfl rfl rfl ⟨Nat.le_of_ble_eq_true rfl, Nat.le_of_ble_eq_true rfl⟩ rfl rfl (Nat.le_of_ble_eq_true rfl) ⟨Nat.zero_le _, Nat.zero_le _⟩ dX4_mayOpen_8 (fun H locs hG => ?_)
    refine lv_iconst (v := 0) hx hb dX4_mayOpen_11 (by decide) ?_
    obtain ⟨hz, hf⟩ := ck_inv hf
    have hq9 := Option.some.inj hf
    subst hq9
    subst hQ
    exact r_zret X hG (of_decide_eq_true hz) dX4_mayOpen_12
  · replace hf := ite_f hf hc1
    refine lv_iconst (v := 1) hx hb dX4_mayOpen_5 (by decide) ?_
    obtain ⟨hz, hf⟩ := ck_inv hf
    have hq9 := Option.some.inj hf
    subst hq9
    subst hQ
    exact r_zret X hG (of_decide_eq_true hz) dX4_mayOpen_6
def rmG4 (d : Nat) : Room := { frames := d + 8, cells := 0, slots := 0, locals := 60 * d + 213 }
def GRP4 (g : GT) (l : Launch) (o0 : Nat) (ad0 : Nat → Nat) (o1 : Nat) (ad1 : Nat → Nat) (d w : Nat) (a : Int32) (s t : MS) (q : MS × MS) : Prop := (w = 0 → CV g l yX4_readOr cX4_readOr 4 none (rmG4 d) [.ref o0, .ref o1, .int a] [wX4 g o0 ad0 s, wX5 g o1 ad1 t] [wX4 g o0 ad0 q.1, wX5 g o1 ad1 q.2]) ∧ (w = 1 → CV g l yX4_readAnd cX4_readAnd 4 none (rmG4 d) [.ref o0, .ref o1, .int a] [wX4 g o0 ad0 s, wX5 g o1 ad1 t] [wX4 g o0 ad0 q.1, wX5 g o1 ad1 q.2]) ∧ (w = 2 → CV g l yX4_readNot cX4_readNot 4 none (rmG4 d) [.ref o0, .ref o1, .int a] [wX4 g o0 ad0 s, wX5 g o1 ad1 t] [wX4 g o0 ad0 q.1, wX5 g o1 ad1 q.2]) ∧ (w = 3 → CV g l yX4_readSum cX4_readSum 5 none (rmG4 d) [.ref o0, .ref o1, .int a] [wX4 g o0 ad0 s, wX5 g o1 ad1 t] [wX4 g o0 ad0 q.1, wX5 g o1 ad1 q.2]) ∧ (w = 4 → CV g l yX4_readTerm cX4_readTerm 4 none (rmG4 d) [.ref o0, .ref o1, .int a] [wX4 g o0 ad0 s, wX5 g o1 ad1 t] [wX4 g o0 ad0 q.1, wX5 g o1 ad1 q.2]) ∧ (w = 5 → CV g l yX4_readOne cX4_readOne 3 none (rmG4 d) [.ref o0, .ref o1, .int a] [wX4 g o0 ad0 s, wX5 g o1 ad1 t] [wX4 g o0 ad0 q.1, wX5 g o1 ad1 q.2])
set_option maxHeartbeats 4000000 in
set_option maxRecDepth 100000 in
theorem cb_X4_readOr (g : GT) (l : Launch) (o0 : Nat) (ad0 : Nat → Nat) (o1 : Nat) (ad1 : Nat → Nat) (n d : Nat) (rec : Nat → Int32 → MS → MS → Option (MS × MS)) (hrec : ∀ (w : Nat) (a : Int32) (s t : MS) (q : MS × MS), rec w a s t = some q → GRP4 g l o0 ad0 o1 ad1 d w a s t q) (a2 : Int32) (s0 s1 : MS) (q : MS × MS) (hf : b_X4_readOr n rec a2 s0 s1 = some q) : CV g l yX4_readOr cX4_readOr 4 none (rmG4 (d + 1)) [.ref o0, .ref o1, .int a2] [wX4 g o0 ad0 s0, wX5 g o1 ad1 s1] [wX4 g o0 ad0 q.1, wX5 g o1 ad1 q.2] := by
  refine CV_intro RX4 rfl (by decide +kernel) (Nat.le_of_ble_eq_true rfl) ?_
  intro p e s m args below meth c A ls Q hQ X hl hG
  have hl : lv_has ls 4 [(0, .ref o0), (1, .ref o1), (2, .int a2)] := hl
  have hx := X.1
  have hb := X.2.1
  have hown := X.2.2.2.1
  unfold b_X4_readOr at hf
  refine lv_aload_n hx hb dX4_readOr_0 rfl (lv_at hl 0 rfl) ?_
  refine lv_aload_n hx hb dX4_readOr_1 rfl (lv_at hl 1 rfl) ?_
  refine lv_iload_n hx hb dX4_readOr_2 rfl (lv_at hl 2 rfl) ?_
  obtain ⟨q1, hq1, hf⟩ := cl_inv hf
  refine r_callVv (bc := [wX4 g o0 ad0 s0, wX5 g o1 ad1 s1]) (br := []) (bs' := [wX4 g o0 ad0 q1.1, wX5 g o1 ad1 q1.2]) (As := [.ref o1, .int a2]) (rest := []) X hG hl.1 ((hrec 1 a2 s0 s1 q1 hq1).2.1 rfl) (List.Perm.refl _) (List.Perm.refl _) lk_X4_readAnd lv_X4_readAnd ml_4_56 (j := 0) (k := 0) rfl rfl rfl rfl rfl ⟨by show (_ : Nat) ≤ _; simp only [rmG4]; omega, by show (_ : Nat) ≤ _; simp only [rmG4]; omega⟩ rfl rfl (Nat.le_of_ble_eq_true rfl) ⟨Nat.zero_le _, Nat.zero_le _⟩ dX4_readOr_3 (fun H locs hG => ?_)
  refine lv_iconst (v := 0) hx hb dX4_readOr_6 (by decide) ?_
  refine lv_istore_n (lv' := [(3, .int 0), (0, .ref o0), (1, .ref o1), (2, .int a2)]) hx hb dX4_readOr_7 rfl hl (by decide) rfl (fun ls hl => ?_)
  refine lp_go (P := fun (t2 : Int32 × MS × MS) => ∀ (H : Heap) (locs : List Loc) (ls : Array Slot), GM g A s.heap H locs [wX4 g o0 ad0 t2.2.1, wX5 g o1 ad1 t2.2.2] → lv_has ls 4 [(0, .ref o0), (1, .ref o1), (2, .int a2), (3, .int t2.1)] → W p l e (rmG4 (d + 1)) s m args below meth c H locs 0 0 Q (F0 m 8 ls [])) hf (fun K3 hK3 t2 hf H locs ls hG hl => ?_) _ _ _ hG (lv_sub hl [1, 2, 3, 0] rfl)
  refine lv_iload_n hx hb dX4_readOr_8 rfl (lv_at hl 3 rfl) ?_
  refine lv_sipush (v := 160) hx hb dX4_readOr_9 (by decide) ?_
  refine lv_icmp_ge (tgt := 48) hx hb dX4_readOr_12 (by decide) (fun hc4 => ?_) (fun hc4 => ?_)
  · replace hf := ite_t hf hc4
    have hq9 := Option.some.inj hf
    subst hq9
    subst hQ
    exact r_vret X hG dX4_readOr_48
  · replace hf := ite_f hf hc4
    refine lv_aload_n hx hb dX4_readOr_15 rfl (lv_at hl 0 rfl) ?_
    refine G_4_22 X hG 0 rfl dX4_readOr_16 ?_
    refine lv_sipush (v := 256) hx hb dX4_readOr_19 (by decide) ?_
    refine lv_icmp_ne (tgt := 48) hx hb dX4_readOr_22 (by decide) (fun hc5 => ?_) (fun hc5 => ?_)
    · replace hf := ite_f hf hc5
      have hq9 := Option.some.inj hf
      subst hq9
      subst hQ
      exact r_vret X hG dX4_readOr_48
    · replace hf := ite_t hf hc5
      refine lv_aload_n hx hb dX4_readOr_25 rfl (lv_at hl 0 rfl) ?_
      obtain ⟨q6, hq6, hf⟩ := cl_inv hf
      refine r_callVv (bc := [wX4 g o0 ad0 t2.2.1]) (br := [wX5 g o1 ad1 t2.2.2]) (bs' := [wX4 g o0 ad0 q6, wX5 g o1 ad1 t2.2.2]) (As := []) (rest := []) X hG hl.1 (c_X4_next g l o0 ad0 n t2.2.1 q6 hq6) (List.Perm.refl _) (List.Perm.refl _) lk_X4_next lv_X4_next ml_4_36 (j := 0) (k := 0) rfl rfl rfl rfl rfl ⟨by show (_ : Nat) ≤ _; simp only [rmG4, rmX4_next]; omega, by show (_ : Nat) ≤ _; simp only [rmG4, rmX4_next]; omega⟩ rfl rfl (Nat.le_of_ble_eq_true rfl) ⟨Nat.zero_le _, Nat.zero_le _⟩ dX4_readOr_26 (fun H locs hG => ?_)
      refine lv_aload_n hx hb dX4_readOr_29 rfl (lv_at hl 0 rfl) ?_
      refine lv_aload_n hx hb dX4_readOr_30 rfl (lv_at hl 1 rfl) ?_
      refine lv_iload_n hx hb dX4_readOr_31 rfl (lv_at hl 2 rfl) ?_
      obtain ⟨q7, hq7, hf⟩ := cl_inv hf
      refine r_callVv (bc := [wX4 g o0 ad0 q6, wX5 g o1 ad1 t2.2.2]) (br := []) (bs' := [wX4 g o0 ad0 q7.1, wX5 g o1 ad1 q7.2]) (As := [.ref o1, .int a2]) (rest := []) X hG hl.1 ((hrec 1 a2 q6 t2.2.2 q7 hq7).2.1 rfl) (List.Perm.refl _) (List.Perm.refl _) lk_X4_readAnd lv_X4_readAnd ml_4_56 (j := 0) (k := 0) rfl rfl rfl rfl rfl ⟨by show (_ : Nat) ≤ _; simp only [rmG4]; omega, by show (_ : Nat) ≤ _; simp only [rmG4]; omega⟩ rfl rfl (Nat.le_of_ble_eq_true rfl) ⟨Nat.zero_le _, Nat.zero_le _⟩ dX4_readOr_32 (fun H locs hG => ?_)
      refine lv_aload_n hx hb dX4_readOr_35 rfl (lv_at hl 1 rfl) ?_
      refine lv_sipush (v := 256) hx hb dX4_readOr_36 (by decide) ?_
      obtain ⟨q8, hq8, hf⟩ := cl_inv hf
      refine r_callVv (bc := [wX5 g o1 ad1 q7.2]) (br := [wX4 g o0 ad0 q7.1]) (bs' := [wX4 g o0 ad0 q7.1, wX5 g o1 ad1 q8]) (As := [.int 256]) (rest := []) X hG hl.1 (c_X5_add g l o1 ad1 n 256 q7.2 q8 hq8) ((blk_perm2 [1, 0] 2 rfl rfl (by decide)).flatten) ((blk_perm2 [1, 0] 2 rfl rfl (by decide)).flatten) lk_X5_add lv_X5_add ml_4_59 (j := 1) (k := 0) rfl rfl rfl rfl rfl ⟨by show (_ : Nat) ≤ _; simp only [rmG4, rmX5_add]; omega, by show (_ : Nat) ≤ _; simp only [rmG4, rmX5_add]; omega⟩ rfl rfl (Nat.le_of_ble_eq_true rfl) ⟨Nat.zero_le _, Nat.zero_le _⟩ dX4_readOr_39 (fun H locs hG => ?_)
      refine lv_iinc (v := (t2.1 + 1)) (lv' := [(3, .int (t2.1 + 1)), (0, .ref o0), (1, .ref o1), (2, .int a2)]) hx hb dX4_readOr_42 hl (k := 3) rfl rfl (by decide) rfl (fun ls hl => ?_)
      refine lv_goto (tgt := 8) hx hb dX4_readOr_45 (by decide) ?_
      exact hK3 _ hf _ _ _ hG (lv_sub hl [1, 2, 3, 0] rfl)
set_option maxHeartbeats 4000000 in
set_option maxRecDepth 100000 in
theorem cb_X4_readAnd (g : GT) (l : Launch) (o0 : Nat) (ad0 : Nat → Nat) (o1 : Nat) (ad1 : Nat → Nat) (n d : Nat) (rec : Nat → Int32 → MS → MS → Option (MS × MS)) (hrec : ∀ (w : Nat) (a : Int32) (s t : MS) (q : MS × MS), rec w a s t = some q → GRP4 g l o0 ad0 o1 ad1 d w a s t q) (a2 : Int32) (s0 s1 : MS) (q : MS × MS) (hf : b_X4_readAnd n rec a2 s0 s1 = some q) : CV g l yX4_readAnd cX4_readAnd 4 none (rmG4 (d + 1)) [.ref o0, .ref o1, .int a2] [wX4 g o0 ad0 s0, wX5 g o1 ad1 s1] [wX4 g o0 ad0 q.1, wX5 g o1 ad1 q.2] := by
  refine CV_intro RX4 rfl (by decide +kernel) (Nat.le_of_ble_eq_true rfl) ?_
  intro p e s m args below meth c A ls Q hQ X hl hG
  have hl : lv_has ls 4 [(0, .ref o0), (1, .ref o1), (2, .int a2)] := hl
  have hx := X.1
  have hb := X.2.1
  have hown := X.2.2.2.1
  unfold b_X4_readAnd at hf
  refine lv_aload_n hx hb dX4_readAnd_0 rfl (lv_at hl 0 rfl) ?_
  refine lv_aload_n hx hb dX4_readAnd_1 rfl (lv_at hl 1 rfl) ?_
  refine lv_iload_n hx hb dX4_readAnd_2 rfl (lv_at hl 2 rfl) ?_
  obtain ⟨q1, hq1, hf⟩ := cl_inv hf
  refine r_callVv (bc := [wX4 g o0 ad0 s0, wX5 g o1 ad1 s1]) (br := []) (bs' := [wX4 g o0 ad0 q1.1, wX5 g o1 ad1 q1.2]) (As := [.ref o1, .int a2]) (rest := []) X hG hl.1 ((hrec 2 a2 s0 s1 q1 hq1).2.2.1 rfl) (List.Perm.refl _) (List.Perm.refl _) lk_X4_readNot lv_X4_readNot ml_4_62 (j := 0) (k := 0) rfl rfl rfl rfl rfl ⟨by show (_ : Nat) ≤ _; simp only [rmG4]; omega, by show (_ : Nat) ≤ _; simp only [rmG4]; omega⟩ rfl rfl (Nat.le_of_ble_eq_true rfl) ⟨Nat.zero_le _, Nat.zero_le _⟩ dX4_readAnd_3 (fun H locs hG => ?_)
  refine lv_iconst (v := 0) hx hb dX4_readAnd_6 (by decide) ?_
  refine lv_istore_n (lv' := [(3, .int 0), (0, .ref o0), (1, .ref o1), (2, .int a2)]) hx hb dX4_readAnd_7 rfl hl (by decide) rfl (fun ls hl => ?_)
  refine lp_go (P := fun (t2 : Int32 × MS × MS) => ∀ (H : Heap) (locs : List Loc) (ls : Array Slot), GM g A s.heap H locs [wX4 g o0 ad0 t2.2.1, wX5 g o1 ad1 t2.2.2] → lv_has ls 4 [(0, .ref o0), (1, .ref o1), (2, .int a2), (3, .int t2.1)] → W p l e (rmG4 (d + 1)) s m args below meth c H locs 0 0 Q (F0 m 8 ls [])) hf (fun K3 hK3 t2 hf H locs ls hG hl => ?_) _ _ _ hG (lv_sub hl [1, 2, 3, 0] rfl)
  refine lv_iload_n hx hb dX4_readAnd_8 rfl (lv_at hl 3 rfl) ?_
  refine lv_sipush (v := 160) hx hb dX4_readAnd_9 (by decide) ?_
  refine lv_icmp_ge (tgt := 48) hx hb dX4_readAnd_12 (by decide) (fun hc4 => ?_) (fun hc4 => ?_)
  · replace hf := ite_t hf hc4
    have hq9 := Option.some.inj hf
    subst hq9
    subst hQ
    exact r_vret X hG dX4_readAnd_48
  · replace hf := ite_f hf hc4
    refine lv_aload_n hx hb dX4_readAnd_15 rfl (lv_at hl 0 rfl) ?_
    refine G_4_22 X hG 0 rfl dX4_readAnd_16 ?_
    refine lv_sipush (v := 257) hx hb dX4_readAnd_19 (by decide) ?_
    refine lv_icmp_ne (tgt := 48) hx hb dX4_readAnd_22 (by decide) (fun hc5 => ?_) (fun hc5 => ?_)
    · replace hf := ite_f hf hc5
      have hq9 := Option.some.inj hf
      subst hq9
      subst hQ
      exact r_vret X hG dX4_readAnd_48
    · replace hf := ite_t hf hc5
      refine lv_aload_n hx hb dX4_readAnd_25 rfl (lv_at hl 0 rfl) ?_
      obtain ⟨q6, hq6, hf⟩ := cl_inv hf
      refine r_callVv (bc := [wX4 g o0 ad0 t2.2.1]) (br := [wX5 g o1 ad1 t2.2.2]) (bs' := [wX4 g o0 ad0 q6, wX5 g o1 ad1 t2.2.2]) (As := []) (rest := []) X hG hl.1 (c_X4_next g l o0 ad0 n t2.2.1 q6 hq6) (List.Perm.refl _) (List.Perm.refl _) lk_X4_next lv_X4_next ml_4_36 (j := 0) (k := 0) rfl rfl rfl rfl rfl ⟨by show (_ : Nat) ≤ _; simp only [rmG4, rmX4_next]; omega, by show (_ : Nat) ≤ _; simp only [rmG4, rmX4_next]; omega⟩ rfl rfl (Nat.le_of_ble_eq_true rfl) ⟨Nat.zero_le _, Nat.zero_le _⟩ dX4_readAnd_26 (fun H locs hG => ?_)
      refine lv_aload_n hx hb dX4_readAnd_29 rfl (lv_at hl 0 rfl) ?_
      refine lv_aload_n hx hb dX4_readAnd_30 rfl (lv_at hl 1 rfl) ?_
      refine lv_iload_n hx hb dX4_readAnd_31 rfl (lv_at hl 2 rfl) ?_
      obtain ⟨q7, hq7, hf⟩ := cl_inv hf
      refine r_callVv (bc := [wX4 g o0 ad0 q6, wX5 g o1 ad1 t2.2.2]) (br := []) (bs' := [wX4 g o0 ad0 q7.1, wX5 g o1 ad1 q7.2]) (As := [.ref o1, .int a2]) (rest := []) X hG hl.1 ((hrec 2 a2 q6 t2.2.2 q7 hq7).2.2.1 rfl) (List.Perm.refl _) (List.Perm.refl _) lk_X4_readNot lv_X4_readNot ml_4_62 (j := 0) (k := 0) rfl rfl rfl rfl rfl ⟨by show (_ : Nat) ≤ _; simp only [rmG4]; omega, by show (_ : Nat) ≤ _; simp only [rmG4]; omega⟩ rfl rfl (Nat.le_of_ble_eq_true rfl) ⟨Nat.zero_le _, Nat.zero_le _⟩ dX4_readAnd_32 (fun H locs hG => ?_)
      refine lv_aload_n hx hb dX4_readAnd_35 rfl (lv_at hl 1 rfl) ?_
      refine lv_sipush (v := 257) hx hb dX4_readAnd_36 (by decide) ?_
      obtain ⟨q8, hq8, hf⟩ := cl_inv hf
      refine r_callVv (bc := [wX5 g o1 ad1 q7.2]) (br := [wX4 g o0 ad0 q7.1]) (bs' := [wX4 g o0 ad0 q7.1, wX5 g o1 ad1 q8]) (As := [.int 257]) (rest := []) X hG hl.1 (c_X5_add g l o1 ad1 n 257 q7.2 q8 hq8) ((blk_perm2 [1, 0] 2 rfl rfl (by decide)).flatten) ((blk_perm2 [1, 0] 2 rfl rfl (by decide)).flatten) lk_X5_add lv_X5_add ml_4_59 (j := 1) (k := 0) rfl rfl rfl rfl rfl ⟨by show (_ : Nat) ≤ _; simp only [rmG4, rmX5_add]; omega, by show (_ : Nat) ≤ _; simp only [rmG4, rmX5_add]; omega⟩ rfl rfl (Nat.le_of_ble_eq_true rfl) ⟨Nat.zero_le _, Nat.zero_le _⟩ dX4_readAnd_39 (fun H locs hG => ?_)
      refine lv_iinc (v := (t2.1 + 1)) (lv' := [(3, .int (t2.1 + 1)), (0, .ref o0), (1, .ref o1), (2, .int a2)]) hx hb dX4_readAnd_42 hl (k := 3) rfl rfl (by decide) rfl (fun ls hl => ?_)
      refine lv_goto (tgt := 8) hx hb dX4_readAnd_45 (by decide) ?_
      exact hK3 _ hf _ _ _ hG (lv_sub hl [1, 2, 3, 0] rfl)
set_option maxHeartbeats 4000000 in
set_option maxRecDepth 100000 in
theorem cb_X4_readNot (g : GT) (l : Launch) (o0 : Nat) (ad0 : Nat → Nat) (o1 : Nat) (ad1 : Nat → Nat) (n d : Nat) (rec : Nat → Int32 → MS → MS → Option (MS × MS)) (hrec : ∀ (w : Nat) (a : Int32) (s t : MS) (q : MS × MS), rec w a s t = some q → GRP4 g l o0 ad0 o1 ad1 d w a s t q) (a2 : Int32) (s0 s1 : MS) (q : MS × MS) (hf : b_X4_readNot n rec a2 s0 s1 = some q) : CV g l yX4_readNot cX4_readNot 4 none (rmG4 (d + 1)) [.ref o0, .ref o1, .int a2] [wX4 g o0 ad0 s0, wX5 g o1 ad1 s1] [wX4 g o0 ad0 q.1, wX5 g o1 ad1 q.2] := by
  refine CV_intro RX4 rfl (by decide +kernel) (Nat.le_of_ble_eq_true rfl) ?_
  intro p e s m args below meth c A ls Q hQ X hl hG
  have hl : lv_has ls 4 [(0, .ref o0), (1, .ref o1), (2, .int a2)] := hl
  have hx := X.1
  have hb := X.2.1
  have hown := X.2.2.2.1
  unfold b_X4_readNot at hf
  refine lv_aload_n hx hb dX4_readNot_0 rfl (lv_at hl 0 rfl) ?_
  refine G_4_22 X hG 0 rfl dX4_readNot_1 ?_
  refine lv_sipush (v := 258) hx hb dX4_readNot_4 (by decide) ?_
  refine lv_icmp_ne (tgt := 39) hx hb dX4_readNot_7 (by decide) (fun hc1 => ?_) (fun hc1 => ?_)
  · replace hf := ite_f hf hc1
    refine lv_aload_n hx hb dX4_readNot_39 rfl (lv_at hl 0 rfl) ?_
    refine lv_aload_n hx hb dX4_readNot_40 rfl (lv_at hl 1 rfl) ?_
    refine lv_iload_n hx hb dX4_readNot_41 rfl (lv_at hl 2 rfl) ?_
    obtain ⟨q2, hq2, hf⟩ := cl_inv hf
    refine r_callVv (bc := [wX4 g o0 ad0 s0, wX5 g o1 ad1 s1]) (br := []) (bs' := [wX4 g o0 ad0 q2.1, wX5 g o1 ad1 q2.2]) (As := [.ref o1, .int a2]) (rest := []) X hG hl.1 ((hrec 3 a2 s0 s1 q2 hq2).2.2.2.1 rfl) (List.Perm.refl _) (List.Perm.refl _) lk_X4_readSum lv_X4_readSum ml_4_69 (j := 0) (k := 0) rfl rfl rfl rfl rfl ⟨by show (_ : Nat) ≤ _; simp only [rmG4]; omega, by show (_ : Nat) ≤ _; simp only [rmG4]; omega⟩ rfl rfl (Nat.le_of_ble_eq_true rfl) ⟨Nat.zero_le _, Nat.zero_le _⟩ dX4_readNot_42 (fun H locs hG => ?_)
    refine lv_aload_n hx hb dX4_readNot_45 rfl (lv_at hl 0 rfl) ?_
    refine G_4_22 X hG 0 rfl dX4_readNot_46 ?_
    refine lv_bipush (v := 60) hx hb dX4_readNot_49 (by decide) ?_
    refine jn_use (P := fun (t3 : Unit) => ∀ (H : Heap) (locs : List Loc) (ls : Array Slot), GM g A s.heap H locs [wX4 g o0 ad0 q2.1, wX5 g o1 ad1 q2.2] → lv_has ls 4 [(0, .ref o0), (1, .ref o1), (2, .int a2)] → W p l e (rmG4 (d + 1)) s m args below meth c H locs 0 0 Q (F0 m 63 ls [])) hf (fun t3 hf H locs ls hG hl => ?_) (fun K4 hK4 hf => ?_)
    · refine lv_aload_n hx hb dX4_readNot_63 rfl (lv_at hl 0 rfl) ?_
      refine G_4_22 X hG 0 rfl dX4_readNot_64 ?_
      refine lv_istore_n (lv' := [(3, .int (q2.1.1 3)), (0, .ref o0), (1, .ref o1), (2, .int a2)]) hx hb dX4_readNot_67 rfl hl (by decide) rfl (fun ls hl => ?_)
      refine lv_aload_n hx hb dX4_readNot_68 rfl (lv_at hl 1 rfl) ?_
      obtain ⟨q5, hq5, hf⟩ := cl_inv hf
      refine r_callVv (bc := [wX4 g o0 ad0 q2.1]) (br := [wX5 g o1 ad1 q2.2]) (bs' := [wX4 g o0 ad0 q5, wX5 g o1 ad1 q2.2]) (As := []) (rest := []) X hG hl.1 (c_X4_next g l o0 ad0 n q2.1 q5 hq5) (List.Perm.refl _) (List.Perm.refl _) lk_X4_next lv_X4_next ml_4_36 (j := 0) (k := 0) rfl rfl rfl rfl rfl ⟨by show (_ : Nat) ≤ _; simp only [rmG4, rmX4_next]; omega, by show (_ : Nat) ≤ _; simp only [rmG4, rmX4_next]; omega⟩ rfl rfl (Nat.le_of_ble_eq_true rfl) ⟨Nat.zero_le _, Nat.zero_le _⟩ dX4_readNot_69 (fun H locs hG => ?_)
      refine lv_aload_n hx hb dX4_readNot_72 rfl (lv_at hl 1 rfl) ?_
      refine lv_aload_n hx hb dX4_readNot_73 rfl (lv_at hl 2 rfl) ?_
      refine lv_iload_n hx hb dX4_readNot_74 rfl (lv_at hl 3 rfl) ?_
      obtain ⟨q6, hq6, hf⟩ := cl_inv hf
      refine r_callVv (bc := [wX4 g o0 ad0 q5, wX5 g o1 ad1 q2.2]) (br := []) (bs' := [wX4 g o0 ad0 q6.1, wX5 g o1 ad1 q6.2]) (As := [.ref o1, .int a2]) (rest := []) X hG hl.1 ((hrec 3 a2 q5 q2.2 q6 hq6).2.2.2.1 rfl) (List.Perm.refl _) (List.Perm.refl _) lk_X4_readSum lv_X4_readSum ml_4_69 (j := 0) (k := 0) rfl rfl rfl rfl rfl ⟨by show (_ : Nat) ≤ _; simp only [rmG4]; omega, by show (_ : Nat) ≤ _; simp only [rmG4]; omega⟩ rfl rfl (Nat.le_of_ble_eq_true rfl) ⟨Nat.zero_le _, Nat.zero_le _⟩ dX4_readNot_75 (fun H locs hG => ?_)
      refine lv_aload_n hx hb dX4_readNot_78 rfl (lv_at hl 2 rfl) ?_
      refine lv_iload_n hx hb dX4_readNot_79 rfl (lv_at hl 0 rfl) ?_
      obtain ⟨q7, hq7, hf⟩ := cl_inv hf
      refine r_callVv (bc := [wX5 g o1 ad1 q6.2]) (br := [wX4 g o0 ad0 q6.1]) (bs' := [wX4 g o0 ad0 q6.1, wX5 g o1 ad1 q7]) (As := [.int (q2.1.1 3)]) (rest := []) X hG hl.1 (c_X5_add g l o1 ad1 n (q2.1.1 3) q6.2 q7 hq7) ((blk_perm2 [1, 0] 2 rfl rfl (by decide)).flatten) ((blk_perm2 [1, 0] 2 rfl rfl (by decide)).flatten) lk_X5_add lv_X5_add ml_4_59 (j := 1) (k := 0) rfl rfl rfl rfl rfl ⟨by show (_ : Nat) ≤ _; simp only [rmG4, rmX5_add]; omega, by show (_ : Nat) ≤ _; simp only [rmG4, rmX5_add]; omega⟩ rfl rfl (Nat.le_of_ble_eq_true rfl) ⟨Nat.zero_le _, Nat.zero_le _⟩ dX4_readNot_80 (fun H locs hG => ?_)
      have hq9 := Option.some.inj hf
      subst hq9
      subst hQ
      exact r_vret X hG dX4_readNot_83
    refine lv_icmp_eq (tgt := 63) hx hb dX4_readNot_51 (by decide) (fun hc8 => ?_) (fun hc8 => ?_)
    · replace hf := ite_t hf hc8
      exact hK4 _ hf _ _ _ hG (lv_sub hl [0, 1, 2] rfl)
    · replace hf := ite_f hf hc8
      refine lv_aload_n hx hb dX4_readNot_54 rfl (lv_at hl 0 rfl) ?_
      refine G_4_22 X hG 0 rfl dX4_readNot_55 ?_
      refine lv_bipush (v := 61) hx hb dX4_readNot_58 (by decide) ?_
      refine lv_icmp_ne (tgt := 83) hx hb dX4_readNot_60 (by decide) (fun hc9 => ?_) (fun hc9 => ?_)
      · replace hf := ite_f hf hc9
        have hq9 := Option.some.inj hf
        subst hq9
        subst hQ
        exact r_vret X hG dX4_readNot_83
      · replace hf := ite_t hf hc9
        exact hK4 _ hf _ _ _ hG (lv_sub hl [0, 1, 2] rfl)
  · replace hf := ite_t hf hc1
    refine lv_aload_n hx hb dX4_readNot_10 rfl (lv_at hl 0 rfl) ?_
    refine lv_iload_n hx hb dX4_readNot_11 rfl (lv_at hl 2 rfl) ?_
    obtain ⟨q10, hq10, hf⟩ := cl_inv hf
    refine r_callVi (bc := [wX4 g o0 ad0 s0]) (br := [wX5 g o1 ad1 s1]) (bs' := [wX4 g o0 ad0 q10.2, wX5 g o1 ad1 s1]) (As := [.int a2]) (rest := []) X hG hl.1 (c_X4_mayOpen g l o0 ad0 n a2 s0 q10 hq10) (List.Perm.refl _) (List.Perm.refl _) lk_X4_mayOpen lv_X4_mayOpen ml_4_65 (j := 0) (k := 0) rfl rfl rfl rfl rfl ⟨by show (_ : Nat) ≤ _; simp only [rmG4, rmX4_mayOpen]; omega, by show (_ : Nat) ≤ _; simp only [rmG4, rmX4_mayOpen]; omega⟩ rfl rfl (Nat.le_of_ble_eq_true rfl) ⟨Nat.zero_le _, Nat.zero_le _⟩ dX4_readNot_12 (fun H locs hG => ?_)
    refine lv_if_ne (tgt := 19) hx hb dX4_readNot_15 (by decide) (fun hc11 => ?_) (fun hc11 => ?_)
    · replace hf := ite_f hf hc11
      refine lv_aload_n hx hb dX4_readNot_19 rfl (lv_at hl 0 rfl) ?_
      obtain ⟨q12, hq12, hf⟩ := cl_inv hf
      refine r_callVv (bc := [wX4 g o0 ad0 q10.2]) (br := [wX5 g o1 ad1 s1]) (bs' := [wX4 g o0 ad0 q12, wX5 g o1 ad1 s1]) (As := []) (rest := []) X hG hl.1 (c_X4_next g l o0 ad0 n q10.2 q12 hq12) (List.Perm.refl _) (List.Perm.refl _) lk_X4_next lv_X4_next ml_4_36 (j := 0) (k := 0) rfl rfl rfl rfl rfl ⟨by show (_ : Nat) ≤ _; simp only [rmG4, rmX4_next]; omega, by show (_ : Nat) ≤ _; simp only [rmG4, rmX4_next]; omega⟩ rfl rfl (Nat.le_of_ble_eq_true rfl) ⟨Nat.zero_le _, Nat.zero_le _⟩ dX4_readNot_20 (fun H locs hG => ?_)
      refine lv_aload_n hx hb dX4_readNot_23 rfl (lv_at hl 0 rfl) ?_
      refine lv_aload_n hx hb dX4_readNot_24 rfl (lv_at hl 1 rfl) ?_
      refine lv_iload_n hx hb dX4_readNot_25 rfl (lv_at hl 2 rfl) ?_
      refine lv_iconst (v := 1) hx hb dX4_readNot_26 (by decide) ?_
      refine lv_iadd hx hb dX4_readNot_27 ?_
      obtain ⟨q13, hq13, hf⟩ := cl_inv hf
      refine r_callVv (bc := [wX4 g o0 ad0 q12, wX5 g o1 ad1 s1]) (br := []) (bs' := [wX4 g o0 ad0 q13.1, wX5 g o1 ad1 q13.2]) (As := [.ref o1, .int (a2 + 1)]) (rest := []) X hG hl.1 ((hrec 2 (a2 + 1) q12 s1 q13 hq13).2.2.1 rfl) (List.Perm.refl _) (List.Perm.refl _) lk_X4_readNot lv_X4_readNot ml_4_62 (j := 0) (k := 0) rfl rfl rfl rfl rfl ⟨by show (_ : Nat) ≤ _; simp only [rmG4]; omega, by show (_ : Nat) ≤ _; simp only [rmG4]; omega⟩ rfl rfl (Nat.le_of_ble_eq_true rfl) ⟨Nat.zero_le _, Nat.zero_le _⟩ dX4_readNot_28 (fun H locs hG => ?_)
      refine lv_aload_n hx hb dX4_readNot_31 rfl (lv_at hl 1 rfl) ?_
      refine lv_sipush (v := 258) hx hb dX4_readNot_32 (by decide) ?_
      obtain ⟨q14, hq14, hf⟩ := cl_inv hf
      refine r_callVv (bc := [wX5 g o1 ad1 q13.2]) (br := [wX4 g o0 ad0 q13.1]) (bs' := [wX4 g o0 ad0 q13.1, wX5 g o1 ad1 q14]) (As := [.int 258]) (rest := []) X hG hl.1 (c_X5_add g l o1 ad1 n 258 q13.2 q14 hq14) ((blk_perm2 [1, 0] 2 rfl rfl (by decide)).flatten) ((blk_perm2 [1, 0] 2 rfl rfl (by decide)).flatten) lk_X5_add lv_X5_add ml_4_59 (j := 1) (k := 0) rfl rfl rfl rfl rfl ⟨by show (_ : Nat) ≤ _; simp only [rmG4, rmX5_add]; omega, by show (_ : Nat) ≤ _; simp only [rmG4, rmX5_add]; omega⟩ rfl rfl (Nat.le_of_ble_eq_true rfl) ⟨Nat.zero_le _, Nat.zero_le _⟩ dX4_readNot_35 (fun H locs hG => ?_)
      have hq9 := Option.some.inj hf
      subst hq9
      subst hQ
      exact r_vret X hG dX4_readNot_38
    · replace hf := ite_t hf hc11
      have hq9 := Option.some.inj hf
      subst hq9
      subst hQ
      exact r_vret X hG dX4_readNot_18
set_option maxHeartbeats 4000000 in
set_option maxRecDepth 100000 in
theorem cb_X4_readSum (g : GT) (l : Launch) (o0 : Nat) (ad0 : Nat → Nat) (o1 : Nat) (ad1 : Nat → Nat) (n d : Nat) (rec : Nat → Int32 → MS → MS → Option (MS × MS)) (hrec : ∀ (w : Nat) (a : Int32) (s t : MS) (q : MS × MS), rec w a s t = some q → GRP4 g l o0 ad0 o1 ad1 d w a s t q) (a2 : Int32) (s0 s1 : MS) (q : MS × MS) (hf : b_X4_readSum n rec a2 s0 s1 = some q) : CV g l yX4_readSum cX4_readSum 5 none (rmG4 (d + 1)) [.ref o0, .ref o1, .int a2] [wX4 g o0 ad0 s0, wX5 g o1 ad1 s1] [wX4 g o0 ad0 q.1, wX5 g o1 ad1 q.2] := by
  refine CV_intro RX4 rfl (by decide +kernel) (Nat.le_of_ble_eq_true rfl) ?_
  intro p e s m args below meth c A ls Q hQ X hl hG
  have hl : lv_has ls 5 [(0, .ref o0), (1, .ref o1), (2, .int a2)] := hl
  have hx := X.1
  have hb := X.2.1
  have hown := X.2.2.2.1
  unfold b_X4_readSum at hf
  refine lv_aload_n hx hb dX4_readSum_0 rfl (lv_at hl 0 rfl) ?_
  refine lv_aload_n hx hb dX4_readSum_1 rfl (lv_at hl 1 rfl) ?_
  refine lv_iload_n hx hb dX4_readSum_2 rfl (lv_at hl 2 rfl) ?_
  obtain ⟨q1, hq1, hf⟩ := cl_inv hf
  refine r_callVv (bc := [wX4 g o0 ad0 s0, wX5 g o1 ad1 s1]) (br := []) (bs' := [wX4 g o0 ad0 q1.1, wX5 g o1 ad1 q1.2]) (As := [.ref o1, .int a2]) (rest := []) X hG hl.1 ((hrec 4 a2 s0 s1 q1 hq1).2.2.2.2.1 rfl) (List.Perm.refl _) (List.Perm.refl _) lk_X4_readTerm lv_X4_readTerm ml_4_72 (j := 0) (k := 0) rfl rfl rfl rfl rfl ⟨by show (_ : Nat) ≤ _; simp only [rmG4]; omega, by show (_ : Nat) ≤ _; simp only [rmG4]; omega⟩ rfl rfl (Nat.le_of_ble_eq_true rfl) ⟨Nat.zero_le _, Nat.zero_le _⟩ dX4_readSum_3 (fun H locs hG => ?_)
  refine lv_iconst (v := 0) hx hb dX4_readSum_6 (by decide) ?_
  refine lv_istore_n (lv' := [(3, .int 0), (0, .ref o0), (1, .ref o1), (2, .int a2)]) hx hb dX4_readSum_7 rfl hl (by decide) rfl (fun ls hl => ?_)
  refine lp_go (P := fun (t2 : Int32 × MS × MS) => ∀ (H : Heap) (locs : List Loc) (ls : Array Slot), GM g A s.heap H locs [wX4 g o0 ad0 t2.2.1, wX5 g o1 ad1 t2.2.2] → lv_has ls 5 [(0, .ref o0), (1, .ref o1), (2, .int a2), (3, .int t2.1)] → W p l e (rmG4 (d + 1)) s m args below meth c H locs 0 0 Q (F0 m 8 ls [])) hf (fun K3 hK3 t2 hf H locs ls hG hl => ?_) _ _ _ hG (lv_sub hl [1, 2, 3, 0] rfl)
  refine lv_iload_n hx hb dX4_readSum_8 rfl (lv_at hl 3 rfl) ?_
  refine lv_sipush (v := 160) hx hb dX4_readSum_9 (by decide) ?_
  refine lv_icmp_ge (tgt := 61) hx hb dX4_readSum_12 (by decide) (fun hc4 => ?_) (fun hc4 => ?_)
  · replace hf := ite_t hf hc4
    have hq9 := Option.some.inj hf
    subst hq9
    subst hQ
    exact r_vret X hG dX4_readSum_61
  · replace hf := ite_f hf hc4
    refine lv_aload_n hx hb dX4_readSum_15 rfl (lv_at hl 0 rfl) ?_
    refine G_4_22 X hG 0 rfl dX4_readSum_16 ?_
    refine lv_bipush (v := 43) hx hb dX4_readSum_19 (by decide) ?_
    refine jn_use (P := fun (t5 : Unit) => ∀ (H : Heap) (locs : List Loc) (ls : Array Slot), GM g A s.heap H locs [wX4 g o0 ad0 t2.2.1, wX5 g o1 ad1 t2.2.2] → lv_has ls 5 [(0, .ref o0), (1, .ref o1), (2, .int a2), (3, .int t2.1)] → W p l e (rmG4 (d + 1)) s m args below meth c H locs 0 0 Q (F0 m 33 ls [])) hf (fun t5 hf H locs ls hG hl => ?_) (fun K6 hK6 hf => ?_)
    · refine lv_aload_n hx hb dX4_readSum_33 rfl (lv_at hl 0 rfl) ?_
      refine G_4_22 X hG 0 rfl dX4_readSum_34 ?_
      refine lv_istore (lv' := [(4, .int (t2.2.1.1 3)), (0, .ref o0), (1, .ref o1), (2, .int a2), (3, .int t2.1)]) hx hb dX4_readSum_37 hl (by decide) rfl (fun ls hl => ?_)
      refine lv_aload_n hx hb dX4_readSum_39 rfl (lv_at hl 1 rfl) ?_
      obtain ⟨q7, hq7, hf⟩ := cl_inv hf
      refine r_callVv (bc := [wX4 g o0 ad0 t2.2.1]) (br := [wX5 g o1 ad1 t2.2.2]) (bs' := [wX4 g o0 ad0 q7, wX5 g o1 ad1 t2.2.2]) (As := []) (rest := []) X hG hl.1 (c_X4_next g l o0 ad0 n t2.2.1 q7 hq7) (List.Perm.refl _) (List.Perm.refl _) lk_X4_next lv_X4_next ml_4_36 (j := 0) (k := 0) rfl rfl rfl rfl rfl ⟨by show (_ : Nat) ≤ _; simp only [rmG4, rmX4_next]; omega, by show (_ : Nat) ≤ _; simp only [rmG4, rmX4_next]; omega⟩ rfl rfl (Nat.le_of_ble_eq_true rfl) ⟨Nat.zero_le _, Nat.zero_le _⟩ dX4_readSum_40 (fun H locs hG => ?_)
      refine lv_aload_n hx hb dX4_readSum_43 rfl (lv_at hl 1 rfl) ?_
      refine lv_aload_n hx hb dX4_readSum_44 rfl (lv_at hl 2 rfl) ?_
      refine lv_iload_n hx hb dX4_readSum_45 rfl (lv_at hl 3 rfl) ?_
      obtain ⟨q8, hq8, hf⟩ := cl_inv hf
      refine r_callVv (bc := [wX4 g o0 ad0 q7, wX5 g o1 ad1 t2.2.2]) (br := []) (bs' := [wX4 g o0 ad0 q8.1, wX5 g o1 ad1 q8.2]) (As := [.ref o1, .int a2]) (rest := []) X hG hl.1 ((hrec 4 a2 q7 t2.2.2 q8 hq8).2.2.2.2.1 rfl) (List.Perm.refl _) (List.Perm.refl _) lk_X4_readTerm lv_X4_readTerm ml_4_72 (j := 0) (k := 0) rfl rfl rfl rfl rfl ⟨by show (_ : Nat) ≤ _; simp only [rmG4]; omega, by show (_ : Nat) ≤ _; simp only [rmG4]; omega⟩ rfl rfl (Nat.le_of_ble_eq_true rfl) ⟨Nat.zero_le _, Nat.zero_le _⟩ dX4_readSum_46 (fun H locs hG => ?_)
      refine lv_aload_n hx hb dX4_readSum_49 rfl (lv_at hl 2 rfl) ?_
      refine lv_iload hx hb dX4_readSum_50 (lv_at hl 0 rfl) ?_
      obtain ⟨q9, hq9, hf⟩ := cl_inv hf
      refine r_callVv (bc := [wX5 g o1 ad1 q8.2]) (br := [wX4 g o0 ad0 q8.1]) (bs' := [wX4 g o0 ad0 q8.1, wX5 g o1 ad1 q9]) (As := [.int (t2.2.1.1 3)]) (rest := []) X hG hl.1 (c_X5_add g l o1 ad1 n (t2.2.1.1 3) q8.2 q9 hq9) ((blk_perm2 [1, 0] 2 rfl rfl (by decide)).flatten) ((blk_perm2 [1, 0] 2 rfl rfl (by decide)).flatten) lk_X5_add lv_X5_add ml_4_59 (j := 1) (k := 0) rfl rfl rfl rfl rfl ⟨by show (_ : Nat) ≤ _; simp only [rmG4, rmX5_add]; omega, by show (_ : Nat) ≤ _; simp only [rmG4, rmX5_add]; omega⟩ rfl rfl (Nat.le_of_ble_eq_true rfl) ⟨Nat.zero_le _, Nat.zero_le _⟩ dX4_readSum_52 (fun H locs hG => ?_)
      refine lv_iinc (v := (t2.1 + 1)) (lv' := [(3, .int (t2.1 + 1)), (4, .int (t2.2.1.1 3)), (0, .ref o0), (1, .ref o1), (2, .int a2)]) hx hb dX4_readSum_55 hl (k := 4) rfl rfl (by decide) rfl (fun ls hl => ?_)
      refine lv_goto (tgt := 8) hx hb dX4_readSum_58 (by decide) ?_
      exact hK3 _ hf _ _ _ hG (lv_sub hl [2, 3, 4, 0] rfl)
    refine lv_icmp_eq (tgt := 33) hx hb dX4_readSum_21 (by decide) (fun hc10 => ?_) (fun hc10 => ?_)
    · replace hf := ite_t hf hc10
      exact hK6 _ hf _ _ _ hG (lv_sub hl [0, 1, 2, 3] rfl)
    · replace hf := ite_f hf hc10
      refine lv_aload_n hx hb dX4_readSum_24 rfl (lv_at hl 0 rfl) ?_
      refine G_4_22 X hG 0 rfl dX4_readSum_25 ?_
      refine lv_bipush (v := 45) hx hb dX4_readSum_28 (by decide) ?_
      refine lv_icmp_ne (tgt := 61) hx hb dX4_readSum_30 (by decide) (fun hc11 => ?_) (fun hc11 => ?_)
      · replace hf := ite_f hf hc11
        have hq9 := Option.some.inj hf
        subst hq9
        subst hQ
        exact r_vret X hG dX4_readSum_61
      · replace hf := ite_t hf hc11
        exact hK6 _ hf _ _ _ hG (lv_sub hl [0, 1, 2, 3] rfl)
set_option maxHeartbeats 4000000 in
set_option maxRecDepth 100000 in
theorem cb_X4_readTerm (g : GT) (l : Launch) (o0 : Nat) (ad0 : Nat → Nat) (o1 : Nat) (ad1 : Nat → Nat) (n d : Nat) (rec : Nat → Int32 → MS → MS → Option (MS × MS)) (hrec : ∀ (w : Nat) (a : Int32) (s t : MS) (q : MS × MS), rec w a s t = some q → GRP4 g l o0 ad0 o1 ad1 d w a s t q) (a2 : Int32) (s0 s1 : MS) (q : MS × MS) (hf : b_X4_readTerm n rec a2 s0 s1 = some q) : CV g l yX4_readTerm cX4_readTerm 4 none (rmG4 (d + 1)) [.ref o0, .ref o1, .int a2] [wX4 g o0 ad0 s0, wX5 g o1 ad1 s1] [wX4 g o0 ad0 q.1, wX5 g o1 ad1 q.2] := by
  refine CV_intro RX4 rfl (by decide +kernel) (Nat.le_of_ble_eq_true rfl) ?_
  intro p e s m args below meth c A ls Q hQ X hl hG
  have hl : lv_has ls 4 [(0, .ref o0), (1, .ref o1), (2, .int a2)] := hl
  have hx := X.1
  have hb := X.2.1
  have hown := X.2.2.2.1
  unfold b_X4_readTerm at hf
  refine lv_aload_n hx hb dX4_readTerm_0 rfl (lv_at hl 0 rfl) ?_
  refine lv_aload_n hx hb dX4_readTerm_1 rfl (lv_at hl 1 rfl) ?_
  refine lv_iload_n hx hb dX4_readTerm_2 rfl (lv_at hl 2 rfl) ?_
  obtain ⟨q1, hq1, hf⟩ := cl_inv hf
  refine r_callVv (bc := [wX4 g o0 ad0 s0, wX5 g o1 ad1 s1]) (br := []) (bs' := [wX4 g o0 ad0 q1.1, wX5 g o1 ad1 q1.2]) (As := [.ref o1, .int a2]) (rest := []) X hG hl.1 ((hrec 5 a2 s0 s1 q1 hq1).2.2.2.2.2 rfl) (List.Perm.refl _) (List.Perm.refl _) lk_X4_readOne lv_X4_readOne ml_4_75 (j := 0) (k := 0) rfl rfl rfl rfl rfl ⟨by show (_ : Nat) ≤ _; simp only [rmG4]; omega, by show (_ : Nat) ≤ _; simp only [rmG4]; omega⟩ rfl rfl (Nat.le_of_ble_eq_true rfl) ⟨Nat.zero_le _, Nat.zero_le _⟩ dX4_readTerm_3 (fun H locs hG => ?_)
  refine lv_iconst (v := 0) hx hb dX4_readTerm_6 (by decide) ?_
  refine lv_istore_n (lv' := [(3, .int 0), (0, .ref o0), (1, .ref o1), (2, .int a2)]) hx hb dX4_readTerm_7 rfl hl (by decide) rfl (fun ls hl => ?_)
  refine lp_go (P := fun (t2 : Int32 × MS × MS) => ∀ (H : Heap) (locs : List Loc) (ls : Array Slot), GM g A s.heap H locs [wX4 g o0 ad0 t2.2.1, wX5 g o1 ad1 t2.2.2] → lv_has ls 4 [(0, .ref o0), (1, .ref o1), (2, .int a2), (3, .int t2.1)] → W p l e (rmG4 (d + 1)) s m args below meth c H locs 0 0 Q (F0 m 8 ls [])) hf (fun K3 hK3 t2 hf H locs ls hG hl => ?_) _ _ _ hG (lv_sub hl [1, 2, 3, 0] rfl)
  refine lv_iload_n hx hb dX4_readTerm_8 rfl (lv_at hl 3 rfl) ?_
  refine lv_sipush (v := 160) hx hb dX4_readTerm_9 (by decide) ?_
  refine lv_icmp_ge (tgt := 46) hx hb dX4_readTerm_12 (by decide) (fun hc4 => ?_) (fun hc4 => ?_)
  · replace hf := ite_t hf hc4
    have hq9 := Option.some.inj hf
    subst hq9
    subst hQ
    exact r_vret X hG dX4_readTerm_46
  · replace hf := ite_f hf hc4
    refine lv_aload_n hx hb dX4_readTerm_15 rfl (lv_at hl 0 rfl) ?_
    refine G_4_22 X hG 0 rfl dX4_readTerm_16 ?_
    refine lv_bipush (v := 42) hx hb dX4_readTerm_19 (by decide) ?_
    refine lv_icmp_ne (tgt := 46) hx hb dX4_readTerm_21 (by decide) (fun hc5 => ?_) (fun hc5 => ?_)
    · replace hf := ite_f hf hc5
      have hq9 := Option.some.inj hf
      subst hq9
      subst hQ
      exact r_vret X hG dX4_readTerm_46
    · replace hf := ite_t hf hc5
      refine lv_aload_n hx hb dX4_readTerm_24 rfl (lv_at hl 0 rfl) ?_
      obtain ⟨q6, hq6, hf⟩ := cl_inv hf
      refine r_callVv (bc := [wX4 g o0 ad0 t2.2.1]) (br := [wX5 g o1 ad1 t2.2.2]) (bs' := [wX4 g o0 ad0 q6, wX5 g o1 ad1 t2.2.2]) (As := []) (rest := []) X hG hl.1 (c_X4_next g l o0 ad0 n t2.2.1 q6 hq6) (List.Perm.refl _) (List.Perm.refl _) lk_X4_next lv_X4_next ml_4_36 (j := 0) (k := 0) rfl rfl rfl rfl rfl ⟨by show (_ : Nat) ≤ _; simp only [rmG4, rmX4_next]; omega, by show (_ : Nat) ≤ _; simp only [rmG4, rmX4_next]; omega⟩ rfl rfl (Nat.le_of_ble_eq_true rfl) ⟨Nat.zero_le _, Nat.zero_le _⟩ dX4_readTerm_25 (fun H locs hG => ?_)
      refine lv_aload_n hx hb dX4_readTerm_28 rfl (lv_at hl 0 rfl) ?_
      refine lv_aload_n hx hb dX4_readTerm_29 rfl (lv_at hl 1 rfl) ?_
      refine lv_iload_n hx hb dX4_readTerm_30 rfl (lv_at hl 2 rfl) ?_
      obtain ⟨q7, hq7, hf⟩ := cl_inv hf
      refine r_callVv (bc := [wX4 g o0 ad0 q6, wX5 g o1 ad1 t2.2.2]) (br := []) (bs' := [wX4 g o0 ad0 q7.1, wX5 g o1 ad1 q7.2]) (As := [.ref o1, .int a2]) (rest := []) X hG hl.1 ((hrec 5 a2 q6 t2.2.2 q7 hq7).2.2.2.2.2 rfl) (List.Perm.refl _) (List.Perm.refl _) lk_X4_readOne lv_X4_readOne ml_4_75 (j := 0) (k := 0) rfl rfl rfl rfl rfl ⟨by show (_ : Nat) ≤ _; simp only [rmG4]; omega, by show (_ : Nat) ≤ _; simp only [rmG4]; omega⟩ rfl rfl (Nat.le_of_ble_eq_true rfl) ⟨Nat.zero_le _, Nat.zero_le _⟩ dX4_readTerm_31 (fun H locs hG => ?_)
      refine lv_aload_n hx hb dX4_readTerm_34 rfl (lv_at hl 1 rfl) ?_
      refine lv_bipush (v := 42) hx hb dX4_readTerm_35 (by decide) ?_
      obtain ⟨q8, hq8, hf⟩ := cl_inv hf
      refine r_callVv (bc := [wX5 g o1 ad1 q7.2]) (br := [wX4 g o0 ad0 q7.1]) (bs' := [wX4 g o0 ad0 q7.1, wX5 g o1 ad1 q8]) (As := [.int 42]) (rest := []) X hG hl.1 (c_X5_add g l o1 ad1 n 42 q7.2 q8 hq8) ((blk_perm2 [1, 0] 2 rfl rfl (by decide)).flatten) ((blk_perm2 [1, 0] 2 rfl rfl (by decide)).flatten) lk_X5_add lv_X5_add ml_4_59 (j := 1) (k := 0) rfl rfl rfl rfl rfl ⟨by show (_ : Nat) ≤ _; simp only [rmG4, rmX5_add]; omega, by show (_ : Nat) ≤ _; simp only [rmG4, rmX5_add]; omega⟩ rfl rfl (Nat.le_of_ble_eq_true rfl) ⟨Nat.zero_le _, Nat.zero_le _⟩ dX4_readTerm_37 (fun H locs hG => ?_)
      refine lv_iinc (v := (t2.1 + 1)) (lv' := [(3, .int (t2.1 + 1)), (0, .ref o0), (1, .ref o1), (2, .int a2)]) hx hb dX4_readTerm_40 hl (k := 3) rfl rfl (by decide) rfl (fun ls hl => ?_)
      refine lv_goto (tgt := 8) hx hb dX4_readTerm_43 (by decide) ?_
      exact hK3 _ hf _ _ _ hG (lv_sub hl [1, 2, 3, 0] rfl)
set_option maxHeartbeats 4000000 in
set_option maxRecDepth 100000 in
theorem cb_X4_readOne (g : GT) (l : Launch) (o0 : Nat) (ad0 : Nat → Nat) (o1 : Nat) (ad1 : Nat → Nat) (n d : Nat) (rec : Nat → Int32 → MS → MS → Option (MS × MS)) (hrec : ∀ (w : Nat) (a : Int32) (s t : MS) (q : MS × MS), rec w a s t = some q → GRP4 g l o0 ad0 o1 ad1 d w a s t q) (a2 : Int32) (s0 s1 : MS) (q : MS × MS) (hf : b_X4_readOne n rec a2 s0 s1 = some q) : CV g l yX4_readOne cX4_readOne 3 none (rmG4 (d + 1)) [.ref o0, .ref o1, .int a2] [wX4 g o0 ad0 s0, wX5 g o1 ad1 s1] [wX4 g o0 ad0 q.1, wX5 g o1 ad1 q.2] := by
  refine CV_intro RX4 rfl (by decide +kernel) (Nat.le_of_ble_eq_true rfl) ?_
  intro p e s m args below meth c A ls Q hQ X hl hG
  have hl : lv_has ls 3 [(0, .ref o0), (1, .ref o1), (2, .int a2)] := hl
  have hx := X.1
  have hb := X.2.1
  have hown := X.2.2.2.1
  unfold b_X4_readOne at hf
  refine lv_aload_n hx hb dX4_readOne_0 rfl (lv_at hl 0 rfl) ?_
  refine G_4_22 X hG 0 rfl dX4_readOne_1 ?_
  refine lv_sipush (v := 300) hx hb dX4_readOne_4 (by decide) ?_
  refine lv_icmp_lt (tgt := 25) hx hb dX4_readOne_7 (by decide) (fun hc1 => ?_) (fun hc1 => ?_)
  · replace hf := ite_t hf hc1
    refine lv_aload_n hx hb dX4_readOne_25 rfl (lv_at hl 0 rfl) ?_
    refine G_4_22 X hG 0 rfl dX4_readOne_26 ?_
    refine lv_bipush (v := 45) hx hb dX4_readOne_29 (by decide) ?_
    refine lv_icmp_ne (tgt := 65) hx hb dX4_readOne_31 (by decide) (fun hc2 => ?_) (fun hc2 => ?_)
    · replace hf := ite_f hf hc2
      refine lv_aload_n hx hb dX4_readOne_65 rfl (lv_at hl 0 rfl) ?_
      refine G_4_22 X hG 0 rfl dX4_readOne_66 ?_
      refine lv_bipush (v := 40) hx hb dX4_readOne_69 (by decide) ?_
      refine lv_icmp_ne (tgt := 104) hx hb dX4_readOne_71 (by decide) (fun hc3 => ?_) (fun hc3 => ?_)
      · replace hf := ite_f hf hc3
        refine lv_aload_n hx hb dX4_readOne_104 rfl (lv_at hl 0 rfl) ?_
        obtain ⟨q4, hq4, hf⟩ := cl_inv hf
        refine r_callVv (bc := [wX4 g o0 ad0 s0]) (br := [wX5 g o1 ad1 s1]) (bs' := [wX4 g o0 ad0 q4, wX5 g o1 ad1 s1]) (As := []) (rest := []) X hG hl.1 (c_X4_refuse g l o0 ad0 n s0 q4 hq4) (List.Perm.refl _) (List.Perm.refl _) lk_X4_refuse lv_X4_refuse ml_4_53 (j := 0) (k := 0) rfl rfl rfl rfl rfl ⟨by show (_ : Nat) ≤ _; simp only [rmG4, rmX4_refuse]; omega, by show (_ : Nat) ≤ _; simp only [rmG4, rmX4_refuse]; omega⟩ rfl rfl (Nat.le_of_ble_eq_true rfl) ⟨Nat.zero_le _, Nat.zero_le _⟩ dX4_readOne_105 (fun H locs hG => ?_)
        have hq9 := Option.some.inj hf
        subst hq9
        subst hQ
        exact r_vret X hG dX4_readOne_108
      · replace hf := ite_t hf hc3
        refine lv_aload_n hx hb dX4_readOne_74 rfl (lv_at hl 0 rfl) ?_
        refine lv_iload_n hx hb dX4_readOne_75 rfl (lv_at hl 2 rfl) ?_
        obtain ⟨q5, hq5, hf⟩ := cl_inv hf
        refine r_callVi (bc := [wX4 g o0 ad0 s0]) (br := [wX5 g o1 ad1 s1]) (bs' := [wX4 g o0 ad0 q5.2, wX5 g o1 ad1 s1]) (As := [.int a2]) (rest := []) X hG hl.1 (c_X4_mayOpen g l o0 ad0 n a2 s0 q5 hq5) (List.Perm.refl _) (List.Perm.refl _) lk_X4_mayOpen lv_X4_mayOpen ml_4_65 (j := 0) (k := 0) rfl rfl rfl rfl rfl ⟨by show (_ : Nat) ≤ _; simp only [rmG4, rmX4_mayOpen]; omega, by show (_ : Nat) ≤ _; simp only [rmG4, rmX4_mayOpen]; omega⟩ rfl rfl (Nat.le_of_ble_eq_true rfl) ⟨Nat.zero_le _, Nat.zero_le _⟩ dX4_readOne_76 (fun H locs hG => ?_)
        refine lv_if_ne (tgt := 83) hx hb dX4_readOne_79 (by decide) (fun hc6 => ?_) (fun hc6 => ?_)
        · replace hf := ite_f hf hc6
          refine lv_aload_n hx hb dX4_readOne_83 rfl (lv_at hl 0 rfl) ?_
          obtain ⟨q7, hq7, hf⟩ := cl_inv hf
          refine r_callVv (bc := [wX4 g o0 ad0 q5.2]) (br := [wX5 g o1 ad1 s1]) (bs' := [wX4 g o0 ad0 q7, wX5 g o1 ad1 s1]) (As := []) (rest := []) X hG hl.1 (c_X4_next g l o0 ad0 n q5.2 q7 hq7) (List.Perm.refl _) (List.Perm.refl _) lk_X4_next lv_X4_next ml_4_36 (j := 0) (k := 0) rfl rfl rfl rfl rfl ⟨by show (_ : Nat) ≤ _; simp only [rmG4, rmX4_next]; omega, by show (_ : Nat) ≤ _; simp only [rmG4, rmX4_next]; omega⟩ rfl rfl (Nat.le_of_ble_eq_true rfl) ⟨Nat.zero_le _, Nat.zero_le _⟩ dX4_readOne_84 (fun H locs hG => ?_)
          refine lv_aload_n hx hb dX4_readOne_87 rfl (lv_at hl 0 rfl) ?_
          refine lv_aload_n hx hb dX4_readOne_88 rfl (lv_at hl 1 rfl) ?_
          refine lv_iload_n hx hb dX4_readOne_89 rfl (lv_at hl 2 rfl) ?_
          refine lv_iconst (v := 1) hx hb dX4_readOne_90 (by decide) ?_
          refine lv_iadd hx hb dX4_readOne_91 ?_
          obtain ⟨q8, hq8, hf⟩ := cl_inv hf
          refine r_callVv (bc := [wX4 g o0 ad0 q7, wX5 g o1 ad1 s1]) (br := []) (bs' := [wX4 g o0 ad0 q8.1, wX5 g o1 ad1 q8.2]) (As := [.ref o1, .int (a2 + 1)]) (rest := []) X hG hl.1 ((hrec 0 (a2 + 1) q7 s1 q8 hq8).1 rfl) (List.Perm.refl _) (List.Perm.refl _) lk_X4_readOr lv_X4_readOr ml_4_46 (j := 0) (k := 0) rfl rfl rfl rfl rfl ⟨by show (_ : Nat) ≤ _; simp only [rmG4]; omega, by show (_ : Nat) ≤ _; simp only [rmG4]; omega⟩ rfl rfl (Nat.le_of_ble_eq_true rfl) ⟨Nat.zero_le _, Nat.zero_le _⟩ dX4_readOne_92 (fun H locs hG => ?_)
          refine lv_aload_n hx hb dX4_readOne_95 rfl (lv_at hl 0 rfl) ?_
          refine lv_bipush (v := 41) hx hb dX4_readOne_96 (by decide) ?_
          obtain ⟨q9, hq9, hf⟩ := cl_inv hf
          refine r_callVv (bc := [wX4 g o0 ad0 q8.1]) (br := [wX5 g o1 ad1 q8.2]) (bs' := [wX4 g o0 ad0 q9, wX5 g o1 ad1 q8.2]) (As := [.int 41]) (rest := []) X hG hl.1 (c_X4_expect g l o0 ad0 n 41 q8.1 q9 hq9) (List.Perm.refl _) (List.Perm.refl _) lk_X4_expect lv_X4_expect ml_4_39 (j := 0) (k := 0) rfl rfl rfl rfl rfl ⟨by show (_ : Nat) ≤ _; simp only [rmG4, rmX4_expect]; omega, by show (_ : Nat) ≤ _; simp only [rmG4, rmX4_expect]; omega⟩ rfl rfl (Nat.le_of_ble_eq_true rfl) ⟨Nat.zero_le _, Nat.zero_le _⟩ dX4_readOne_98 (fun H locs hG => ?_)
          refine lv_goto (tgt := 108) hx hb dX4_readOne_101 (by decide) ?_
          have hq9 := Option.some.inj hf
          subst hq9
          subst hQ
          exact r_vret X hG dX4_readOne_108
        · replace hf := ite_t hf hc6
          have hq9 := Option.some.inj hf
          subst hq9
          subst hQ
          exact r_vret X hG dX4_readOne_82
    · replace hf := ite_t hf hc2
      refine lv_aload_n hx hb dX4_readOne_34 rfl (lv_at hl 0 rfl) ?_
      refine lv_iload_n hx hb dX4_readOne_35 rfl (lv_at hl 2 rfl) ?_
      obtain ⟨q10, hq10, hf⟩ := cl_inv hf
      refine r_callVi (bc := [wX4 g o0 ad0 s0]) (br := [wX5 g o1 ad1 s1]) (bs' := [wX4 g o0 ad0 q10.2, wX5 g o1 ad1 s1]) (As := [.int a2]) (rest := []) X hG hl.1 (c_X4_mayOpen g l o0 ad0 n a2 s0 q10 hq10) (List.Perm.refl _) (List.Perm.refl _) lk_X4_mayOpen lv_X4_mayOpen ml_4_65 (j := 0) (k := 0) rfl rfl rfl rfl rfl ⟨by show (_ : Nat) ≤ _; simp only [rmG4, rmX4_mayOpen]; omega, by show (_ : Nat) ≤ _; simp only [rmG4, rmX4_mayOpen]; omega⟩ rfl rfl (Nat.le_of_ble_eq_true rfl) ⟨Nat.zero_le _, Nat.zero_le _⟩ dX4_readOne_36 (fun H locs hG => ?_)
      refine lv_if_ne (tgt := 43) hx hb dX4_readOne_39 (by decide) (fun hc11 => ?_) (fun hc11 => ?_)
      · replace hf := ite_f hf hc11
        refine lv_aload_n hx hb dX4_readOne_43 rfl (lv_at hl 0 rfl) ?_
        obtain ⟨q12, hq12, hf⟩ := cl_inv hf
        refine r_callVv (bc := [wX4 g o0 ad0 q10.2]) (br := [wX5 g o1 ad1 s1]) (bs' := [wX4 g o0 ad0 q12, wX5 g o1 ad1 s1]) (As := []) (rest := []) X hG hl.1 (c_X4_next g l o0 ad0 n q10.2 q12 hq12) (List.Perm.refl _) (List.Perm.refl _) lk_X4_next lv_X4_next ml_4_36 (j := 0) (k := 0) rfl rfl rfl rfl rfl ⟨by show (_ : Nat) ≤ _; simp only [rmG4, rmX4_next]; omega, by show (_ : Nat) ≤ _; simp only [rmG4, rmX4_next]; omega⟩ rfl rfl (Nat.le_of_ble_eq_true rfl) ⟨Nat.zero_le _, Nat.zero_le _⟩ dX4_readOne_44 (fun H locs hG => ?_)
        refine lv_aload_n hx hb dX4_readOne_47 rfl (lv_at hl 0 rfl) ?_
        refine lv_aload_n hx hb dX4_readOne_48 rfl (lv_at hl 1 rfl) ?_
        refine lv_iload_n hx hb dX4_readOne_49 rfl (lv_at hl 2 rfl) ?_
        refine lv_iconst (v := 1) hx hb dX4_readOne_50 (by decide) ?_
        refine lv_iadd hx hb dX4_readOne_51 ?_
        obtain ⟨q13, hq13, hf⟩ := cl_inv hf
        refine r_callVv (bc := [wX4 g o0 ad0 q12, wX5 g o1 ad1 s1]) (br := []) (bs' := [wX4 g o0 ad0 q13.1, wX5 g o1 ad1 q13.2]) (As := [.ref o1, .int (a2 + 1)]) (rest := []) X hG hl.1 ((hrec 5 (a2 + 1) q12 s1 q13 hq13).2.2.2.2.2 rfl) (List.Perm.refl _) (List.Perm.refl _) lk_X4_readOne lv_X4_readOne ml_4_75 (j := 0) (k := 0) rfl rfl rfl rfl rfl ⟨by show (_ : Nat) ≤ _; simp only [rmG4]; omega, by show (_ : Nat) ≤ _; simp only [rmG4]; omega⟩ rfl rfl (Nat.le_of_ble_eq_true rfl) ⟨Nat.zero_le _, Nat.zero_le _⟩ dX4_readOne_52 (fun H locs hG => ?_)
        refine lv_aload_n hx hb dX4_readOne_55 rfl (lv_at hl 1 rfl) ?_
        refine lv_sipush (v := 259) hx hb dX4_readOne_56 (by decide) ?_
        obtain ⟨q14, hq14, hf⟩ := cl_inv hf
        refine r_callVv (bc := [wX5 g o1 ad1 q13.2]) (br := [wX4 g o0 ad0 q13.1]) (bs' := [wX4 g o0 ad0 q13.1, wX5 g o1 ad1 q14]) (As := [.int 259]) (rest := []) X hG hl.1 (c_X5_add g l o1 ad1 n 259 q13.2 q14 hq14) ((blk_perm2 [1, 0] 2 rfl rfl (by decide)).flatten) ((blk_perm2 [1, 0] 2 rfl rfl (by decide)).flatten) lk_X5_add lv_X5_add ml_4_59 (j := 1) (k := 0) rfl rfl rfl rfl rfl ⟨by show (_ : Nat) ≤ _; simp only [rmG4, rmX5_add]; omega, by show (_ : Nat) ≤ _; simp only [rmG4, rmX5_add]; omega⟩ rfl rfl (Nat.le_of_ble_eq_true rfl) ⟨Nat.zero_le _, Nat.zero_le _⟩ dX4_readOne_59 (fun H locs hG => ?_)
        refine lv_goto (tgt := 108) hx hb dX4_readOne_62 (by decide) ?_
        have hq9 := Option.some.inj hf
        subst hq9
        subst hQ
        exact r_vret X hG dX4_readOne_108
      · replace hf := ite_t hf hc11
        have hq9 := Option.some.inj hf
        subst hq9
        subst hQ
        exact r_vret X hG dX4_readOne_42
  · replace hf := ite_f hf hc1
    refine lv_aload_n hx hb dX4_readOne_10 rfl (lv_at hl 1 rfl) ?_
    refine lv_aload_n hx hb dX4_readOne_11 rfl (lv_at hl 0 rfl) ?_
    refine G_4_22 X hG 0 rfl dX4_readOne_12 ?_
    obtain ⟨q15, hq15, hf⟩ := cl_inv hf
    refine r_callVv (bc := [wX5 g o1 ad1 s1]) (br := [wX4 g o0 ad0 s0]) (bs' := [wX4 g o0 ad0 s0, wX5 g o1 ad1 q15]) (As := [.int (s0.1 3)]) (rest := []) X hG hl.1 (c_X5_add g l o1 ad1 n (s0.1 3) s1 q15 hq15) ((blk_perm2 [1, 0] 2 rfl rfl (by decide)).flatten) ((blk_perm2 [1, 0] 2 rfl rfl (by decide)).flatten) lk_X5_add lv_X5_add ml_4_59 (j := 1) (k := 0) rfl rfl rfl rfl rfl ⟨by show (_ : Nat) ≤ _; simp only [rmG4, rmX5_add]; omega, by show (_ : Nat) ≤ _; simp only [rmG4, rmX5_add]; omega⟩ rfl rfl (Nat.le_of_ble_eq_true rfl) ⟨Nat.zero_le _, Nat.zero_le _⟩ dX4_readOne_15 (fun H locs hG => ?_)
    refine lv_aload_n hx hb dX4_readOne_18 rfl (lv_at hl 0 rfl) ?_
    obtain ⟨q16, hq16, hf⟩ := cl_inv hf
    refine r_callVv (bc := [wX4 g o0 ad0 s0]) (br := [wX5 g o1 ad1 q15]) (bs' := [wX4 g o0 ad0 q16, wX5 g o1 ad1 q15]) (As := []) (rest := []) X hG hl.1 (c_X4_next g l o0 ad0 n s0 q16 hq16) (List.Perm.refl _) (List.Perm.refl _) lk_X4_next lv_X4_next ml_4_36 (j := 0) (k := 0) rfl rfl rfl rfl rfl ⟨by show (_ : Nat) ≤ _; simp only [rmG4, rmX4_next]; omega, by show (_ : Nat) ≤ _; simp only [rmG4, rmX4_next]; omega⟩ rfl rfl (Nat.le_of_ble_eq_true rfl) ⟨Nat.zero_le _, Nat.zero_le _⟩ dX4_readOne_19 (fun H locs hG => ?_)
    refine lv_goto (tgt := 108) hx hb dX4_readOne_22 (by decide) ?_
    have hq9 := Option.some.inj hf
    subst hq9
    subst hQ
    exact r_vret X hG dX4_readOne_108
theorem c_grp4 (g : GT) (l : Launch) (o0 : Nat) (ad0 : Nat → Nat) (o1 : Nat) (ad1 : Nat → Nat) (n : Nat) : ∀ (d w : Nat) (a : Int32) (s t : MS) (q : MS × MS), f_grp4 n d w a s t = some q → GRP4 g l o0 ad0 o1 ad1 d w a s t q := by
  intro d
  induction d with
  | zero => intro w a s t q h; cases h
  | succ d ih =>
    intro w a s t q h
    refine ⟨fun hw => ?_, fun hw => ?_, fun hw => ?_, fun hw => ?_, fun hw => ?_, fun hw => ?_⟩
    · subst hw; exact cb_X4_readOr g l o0 ad0 o1 ad1 n d (f_grp4 n d) ih a s t q h
    · subst hw; exact cb_X4_readAnd g l o0 ad0 o1 ad1 n d (f_grp4 n d) ih a s t q h
    · subst hw; exact cb_X4_readNot g l o0 ad0 o1 ad1 n d (f_grp4 n d) ih a s t q h
    · subst hw; exact cb_X4_readSum g l o0 ad0 o1 ad1 n d (f_grp4 n d) ih a s t q h
    · subst hw; exact cb_X4_readTerm g l o0 ad0 o1 ad1 n d (f_grp4 n d) ih a s t q h
    · subst hw; exact cb_X4_readOne g l o0 ad0 o1 ad1 n d (f_grp4 n d) ih a s t q h
theorem c_X4_readOr (g : GT) (l : Launch) (o0 : Nat) (ad0 : Nat → Nat) (o1 : Nat) (ad1 : Nat → Nat) (n : Nat) (a : Int32) (s t : MS) (q : MS × MS) (hf : f_X4_readOr n a s t = some q) : CV g l yX4_readOr cX4_readOr 4 none (rmG4 64) [.ref o0, .ref o1, .int a] [wX4 g o0 ad0 s, wX5 g o1 ad1 t] [wX4 g o0 ad0 q.1, wX5 g o1 ad1 q.2] := (c_grp4 g l o0 ad0 o1 ad1 n 64 0 a s t q hf).1 rfl
theorem c_X4_readAnd (g : GT) (l : Launch) (o0 : Nat) (ad0 : Nat → Nat) (o1 : Nat) (ad1 : Nat → Nat) (n : Nat) (a : Int32) (s t : MS) (q : MS × MS) (hf : f_X4_readAnd n a s t = some q) : CV g l yX4_readAnd cX4_readAnd 4 none (rmG4 64) [.ref o0, .ref o1, .int a] [wX4 g o0 ad0 s, wX5 g o1 ad1 t] [wX4 g o0 ad0 q.1, wX5 g o1 ad1 q.2] := (c_grp4 g l o0 ad0 o1 ad1 n 64 1 a s t q hf).2.1 rfl
theorem c_X4_readNot (g : GT) (l : Launch) (o0 : Nat) (ad0 : Nat → Nat) (o1 : Nat) (ad1 : Nat → Nat) (n : Nat) (a : Int32) (s t : MS) (q : MS × MS) (hf : f_X4_readNot n a s t = some q) : CV g l yX4_readNot cX4_readNot 4 none (rmG4 64) [.ref o0, .ref o1, .int a] [wX4 g o0 ad0 s, wX5 g o1 ad1 t] [wX4 g o0 ad0 q.1, wX5 g o1 ad1 q.2] := (c_grp4 g l o0 ad0 o1 ad1 n 64 2 a s t q hf).2.2.1 rfl
theorem c_X4_readSum (g : GT) (l : Launch) (o0 : Nat) (ad0 : Nat → Nat) (o1 : Nat) (ad1 : Nat → Nat) (n : Nat) (a : Int32) (s t : MS) (q : MS × MS) (hf : f_X4_readSum n a s t = some q) : CV g l yX4_readSum cX4_readSum 5 none (rmG4 64) [.ref o0, .ref o1, .int a] [wX4 g o0 ad0 s, wX5 g o1 ad1 t] [wX4 g o0 ad0 q.1, wX5 g o1 ad1 q.2] := (c_grp4 g l o0 ad0 o1 ad1 n 64 3 a s t q hf).2.2.2.1 rfl
theorem c_X4_readTerm (g : GT) (l : Launch) (o0 : Nat) (ad0 : Nat → Nat) (o1 : Nat) (ad1 : Nat → Nat) (n : Nat) (a : Int32) (s t : MS) (q : MS × MS) (hf : f_X4_readTerm n a s t = some q) : CV g l yX4_readTerm cX4_readTerm 4 none (rmG4 64) [.ref o0, .ref o1, .int a] [wX4 g o0 ad0 s, wX5 g o1 ad1 t] [wX4 g o0 ad0 q.1, wX5 g o1 ad1 q.2] := (c_grp4 g l o0 ad0 o1 ad1 n 64 4 a s t q hf).2.2.2.2.1 rfl
theorem c_X4_readOne (g : GT) (l : Launch) (o0 : Nat) (ad0 : Nat → Nat) (o1 : Nat) (ad1 : Nat → Nat) (n : Nat) (a : Int32) (s t : MS) (q : MS × MS) (hf : f_X4_readOne n a s t = some q) : CV g l yX4_readOne cX4_readOne 3 none (rmG4 64) [.ref o0, .ref o1, .int a] [wX4 g o0 ad0 s, wX5 g o1 ad1 t] [wX4 g o0 ad0 q.1, wX5 g o1 ad1 q.2] := (c_grp4 g l o0 ad0 o1 ad1 n 64 5 a s t q hf).2.2.2.2.2 rfl
def rmX4_read : Room := { frames := 73, cells := 0, slots := 0, locals := 4076 }
set_option maxHeartbeats 4000000 in
set_option maxRecDepth 100000 in
theorem c_X4_read (g : GT) (l : Launch) (o0 : Nat) (ad0 : Nat → Nat) (o1 : Nat) (ad1 : Nat → Nat) (n : Nat) (s0 : MS) (s1 : MS) (q : Int32 × MS × MS) (hf : f_X4_read n s0 s1 = some q) : CI g l yX4_read cX4_read 3 (some .int) rmX4_read [.ref o0, .ref o1] [wX4 g o0 ad0 s0, wX5 g o1 ad1 s1] q.1 [wX4 g o0 ad0 q.2.1, wX5 g o1 ad1 q.2.2] := by
  refine CI_intro RX4 rfl (by decide +kernel) (Nat.le_of_ble_eq_true rfl) ?_
  intro p e s m args below meth c A ls Q hQ X hl hG
  have hl : lv_has ls 3 [(0, .ref o0), (1, .ref o1)] := hl
  have hx := X.1
  have hb := X.2.1
  have hown := X.2.2.2.1
  unfold f_X4_read at hf
  refine lv_aload_n hx hb dX4_read_0 rfl (lv_at hl 0 rfl) ?_
  refine lv_iconst (v := 0) hx hb dX4_read_1 (by decide) ?_
  refine P_4_19 X hG 0 rfl hf (fun t => [wX4 g o0 ad0 t, wX5 g o1 ad1 s1]) (fun _ => rfl) dX4_read_2 (fun z1 H locs hf hG => ?_)
  refine lv_aload_n hx hb dX4_read_5 rfl (lv_at hl 0 rfl) ?_
  refine lv_iconst (v := (-1)) hx hb dX4_read_6 (by decide) ?_
  refine P_4_28 X hG 0 rfl hf (fun t => [wX4 g o0 ad0 t, wX5 g o1 ad1 s1]) (fun _ => rfl) dX4_read_7 (fun z2 H locs hf hG => ?_)
  refine lv_aload_n hx hb dX4_read_10 rfl (lv_at hl 1 rfl) ?_
  obtain ⟨q3, hq3, hf⟩ := cl_inv hf
  refine r_callVv (bc := [wX5 g o1 ad1 s1]) (br := [wX4 g o0 ad0 z2]) (bs' := [wX4 g o0 ad0 z2, wX5 g o1 ad1 q3]) (As := []) (rest := []) X hG hl.1 (c_X5_clear g l o1 ad1 n s1 q3 hq3) ((blk_perm2 [1, 0] 2 rfl rfl (by decide)).flatten) ((blk_perm2 [1, 0] 2 rfl rfl (by decide)).flatten) lk_X5_clear lv_X5_clear ml_4_31 (j := 1) (k := 0) rfl rfl rfl rfl rfl ⟨Nat.le_of_ble_eq_true rfl, Nat.le_of_ble_eq_true rfl⟩ rfl rfl (Nat.le_of_ble_eq_true rfl) ⟨Nat.zero_le _, Nat.zero_le _⟩ dX4_read_11 (fun H locs hG => ?_)
  refine lv_aload_n hx hb dX4_read_14 rfl (lv_at hl 0 rfl) ?_
  obtain ⟨q4, hq4, hf⟩ := cl_inv hf
  refine r_callVv (bc := [wX4 g o0 ad0 z2]) (br := [wX5 g o1 ad1 q3]) (bs' := [wX4 g o0 ad0 q4, wX5 g o1 ad1 q3]) (As := []) (rest := []) X hG hl.1 (c_X4_next g l o0 ad0 n z2 q4 hq4) (List.Perm.refl _) (List.Perm.refl _) lk_X4_next lv_X4_next ml_4_36 (j := 0) (k := 0) rfl rfl rfl rfl rfl ⟨Nat.le_of_ble_eq_true rfl, Nat.le_of_ble_eq_true rfl⟩ rfl rfl (Nat.le_of_ble_eq_true rfl) ⟨Nat.zero_le _, Nat.zero_le _⟩ dX4_read_15 (fun H locs hG => ?_)
  refine lv_iconst (v := 0) hx hb dX4_read_18 (by decide) ?_
  refine lv_istore_n (lv' := [(2, .int 0), (0, .ref o0), (1, .ref o1)]) hx hb dX4_read_19 rfl hl (by decide) rfl (fun ls hl => ?_)
  refine lp_go (P := fun (t5 : Int32 × MS × MS) => ∀ (H : Heap) (locs : List Loc) (ls : Array Slot), GM g A s.heap H locs [wX4 g o0 ad0 t5.2.1, wX5 g o1 ad1 t5.2.2] → lv_has ls 3 [(0, .ref o0), (1, .ref o1), (2, .int t5.1)] → W p l e rmX4_read s m args below meth c H locs 0 0 Q (F0 m 20 ls [])) hf (fun K6 hK6 t5 hf H locs ls hG hl => ?_) _ _ _ hG (lv_sub hl [1, 2, 0] rfl)
  refine lv_iload_n hx hb dX4_read_20 rfl (lv_at hl 2 rfl) ?_
  refine lv_iconst (v := 3) hx hb dX4_read_21 (by decide) ?_
  refine lv_icmp_ge (tgt := 57) hx hb dX4_read_22 (by decide) (fun hc7 => ?_) (fun hc7 => ?_)
  · replace hf := ite_t hf hc7
    refine lv_aload_n hx hb dX4_read_57 rfl (lv_at hl 1 rfl) ?_
    obtain ⟨q8, hq8, hf⟩ := cl_inv hf
    refine r_callVv (bc := [wX5 g o1 ad1 t5.2.2]) (br := [wX4 g o0 ad0 t5.2.1]) (bs' := [wX4 g o0 ad0 t5.2.1, wX5 g o1 ad1 q8]) (As := []) (rest := []) X hG hl.1 (c_X5_close g l o1 ad1 n t5.2.2 q8 hq8) ((blk_perm2 [1, 0] 2 rfl rfl (by decide)).flatten) ((blk_perm2 [1, 0] 2 rfl rfl (by decide)).flatten) lk_X5_close lv_X5_close ml_4_50 (j := 1) (k := 0) rfl rfl rfl rfl rfl ⟨Nat.le_of_ble_eq_true rfl, Nat.le_of_ble_eq_true rfl⟩ rfl rfl (Nat.le_of_ble_eq_true rfl) ⟨Nat.zero_le _, Nat.zero_le _⟩ dX4_read_58 (fun H locs hG => ?_)
    refine lv_aload_n hx hb dX4_read_61 rfl (lv_at hl 0 rfl) ?_
    refine lv_iconst (v := 1) hx hb dX4_read_62 (by decide) ?_
    obtain ⟨q9, hq9, hf⟩ := cl_inv hf
    refine r_callVv (bc := [wX4 g o0 ad0 t5.2.1]) (br := [wX5 g o1 ad1 q8]) (bs' := [wX4 g o0 ad0 q9, wX5 g o1 ad1 q8]) (As := [.int 1]) (rest := []) X hG hl.1 (c_X4_expect g l o0 ad0 n 1 t5.2.1 q9 hq9) (List.Perm.refl _) (List.Perm.refl _) lk_X4_expect lv_X4_expect ml_4_39 (j := 0) (k := 0) rfl rfl rfl rfl rfl ⟨Nat.le_of_ble_eq_true rfl, Nat.le_of_ble_eq_true rfl⟩ rfl rfl (Nat.le_of_ble_eq_true rfl) ⟨Nat.zero_le _, Nat.zero_le _⟩ dX4_read_63 (fun H locs hG => ?_)
    refine lv_aload_n hx hb dX4_read_66 rfl (lv_at hl 0 rfl) ?_
    refine G_4_28 X hG 0 rfl dX4_read_67 ?_
    have hq9 := Option.some.inj hf
    subst hq9
    subst hQ
    exact r_iret X hG dX4_read_70
  · replace hf := ite_f hf hc7
    refine lv_aload_n hx hb dX4_read_25 rfl (lv_at hl 0 rfl) ?_
    refine lv_sipush (v := 270) hx hb dX4_read_26 (by decide) ?_
    refine lv_iload_n hx hb dX4_read_29 rfl (lv_at hl 2 rfl) ?_
    refine lv_iadd hx hb dX4_read_30 ?_
    obtain ⟨q10, hq10, hf⟩ := cl_inv hf
    refine r_callVv (bc := [wX4 g o0 ad0 t5.2.1]) (br := [wX5 g o1 ad1 t5.2.2]) (bs' := [wX4 g o0 ad0 q10, wX5 g o1 ad1 t5.2.2]) (As := [.int (270 + t5.1)]) (rest := []) X hG hl.1 (c_X4_expect g l o0 ad0 n (270 + t5.1) t5.2.1 q10 hq10) (List.Perm.refl _) (List.Perm.refl _) lk_X4_expect lv_X4_expect ml_4_39 (j := 0) (k := 0) rfl rfl rfl rfl rfl ⟨Nat.le_of_ble_eq_true rfl, Nat.le_of_ble_eq_true rfl⟩ rfl rfl (Nat.le_of_ble_eq_true rfl) ⟨Nat.zero_le _, Nat.zero_le _⟩ dX4_read_31 (fun H locs hG => ?_)
    refine lv_aload_n hx hb dX4_read_34 rfl (lv_at hl 1 rfl) ?_
    refine lv_iload_n hx hb dX4_read_35 rfl (lv_at hl 2 rfl) ?_
    obtain ⟨q11, hq11, hf⟩ := cl_inv hf
    refine r_callVv (bc := [wX5 g o1 ad1 t5.2.2]) (br := [wX4 g o0 ad0 q10]) (bs' := [wX4 g o0 ad0 q10, wX5 g o1 ad1 q11]) (As := [.int t5.1]) (rest := []) X hG hl.1 (c_X5_begin g l o1 ad1 n t5.1 t5.2.2 q11 hq11) ((blk_perm2 [1, 0] 2 rfl rfl (by decide)).flatten) ((blk_perm2 [1, 0] 2 rfl rfl (by decide)).flatten) lk_X5_begin lv_X5_begin ml_4_43 (j := 1) (k := 0) rfl rfl rfl rfl rfl ⟨Nat.le_of_ble_eq_true rfl, Nat.le_of_ble_eq_true rfl⟩ rfl rfl (Nat.le_of_ble_eq_true rfl) ⟨Nat.zero_le _, Nat.zero_le _⟩ dX4_read_36 (fun H locs hG => ?_)
    refine lv_aload_n hx hb dX4_read_39 rfl (lv_at hl 0 rfl) ?_
    refine lv_aload_n hx hb dX4_read_40 rfl (lv_at hl 1 rfl) ?_
    refine lv_iconst (v := 0) hx hb dX4_read_41 (by decide) ?_
    obtain ⟨q12, hq12, hf⟩ := cl_inv hf
    refine r_callVv (bc := [wX4 g o0 ad0 q10, wX5 g o1 ad1 q11]) (br := []) (bs' := [wX4 g o0 ad0 q12.1, wX5 g o1 ad1 q12.2]) (As := [.ref o1, .int 0]) (rest := []) X hG hl.1 (c_X4_readOr g l o0 ad0 o1 ad1 n 0 q10 q11 q12 hq12) (List.Perm.refl _) (List.Perm.refl _) lk_X4_readOr lv_X4_readOr ml_4_46 (j := 0) (k := 0) rfl rfl rfl rfl rfl ⟨Nat.le_of_ble_eq_true rfl, Nat.le_of_ble_eq_true rfl⟩ rfl rfl (Nat.le_of_ble_eq_true rfl) ⟨Nat.zero_le _, Nat.zero_le _⟩ dX4_read_42 (fun H locs hG => ?_)
    refine lv_aload_n hx hb dX4_read_45 rfl (lv_at hl 0 rfl) ?_
    refine lv_bipush (v := 59) hx hb dX4_read_46 (by decide) ?_
    obtain ⟨q13, hq13, hf⟩ := cl_inv hf
    refine r_callVv (bc := [wX4 g o0 ad0 q12.1]) (br := [wX5 g o1 ad1 q12.2]) (bs' := [wX4 g o0 ad0 q13, wX5 g o1 ad1 q12.2]) (As := [.int 59]) (rest := []) X hG hl.1 (c_X4_expect g l o0 ad0 n 59 q12.1 q13 hq13) (List.Perm.refl _) (List.Perm.refl _) lk_X4_expect lv_X4_expect ml_4_39 (j := 0) (k := 0) rfl rfl rfl rfl rfl ⟨Nat.le_of_ble_eq_true rfl, Nat.le_of_ble_eq_true rfl⟩ rfl rfl (Nat.le_of_ble_eq_true rfl) ⟨Nat.zero_le _, Nat.zero_le _⟩ dX4_read_48 (fun H locs hG => ?_)
    refine lv_iinc (v := (t5.1 + 1)) (lv' := [(2, .int (t5.1 + 1)), (0, .ref o0), (1, .ref o1)]) hx hb dX4_read_51 hl (k := 2) rfl rfl (by decide) rfl (fun ls hl => ?_)
    refine lv_goto (tgt := 20) hx hb dX4_read_54 (by decide) ?_
    exact hK6 _ hf _ _ _ hG (lv_sub hl [1, 2, 0] rfl)
def rmX1_hearWay : Room := { frames := 1, cells := 0, slots := 0, locals := 23 }
set_option maxHeartbeats 4000000 in
set_option maxRecDepth 100000 in
theorem c_X1_hearWay (g : GT) (l : Launch) (o0 : Nat) (ad0 : Nat → Nat) (o1 : Nat) (ad1 : Nat → Nat) (o2 : Nat) (ad2 : Nat → Nat) (n : Nat) (a2 : Int32) (s0 : MS) (s1 : MS) (s2 : MS) (q : MS) (hf : f_X1_hearWay n a2 s0 s1 s2 = some q) : CV g l yX1_hearWay cX1_hearWay 5 none rmX1_hearWay [.ref o0, .ref o1, .int a2, .ref o2] [wX1 g o0 ad0 s0, wX6 g o1 ad1 s1, wX2 g o2 ad2 s2] [wX1 g o0 ad0 q, wX6 g o1 ad1 s1, wX2 g o2 ad2 s2] := by
  refine CV_intro RX1 rfl (by decide +kernel) (Nat.le_of_ble_eq_true rfl) ?_
  intro p e s m args below meth c A ls Q hQ X hl hG
  have hl : lv_has ls 5 [(0, .ref o0), (1, .ref o1), (2, .int a2), (3, .ref o2)] := hl
  have hx := X.1
  have hb := X.2.1
  have hown := X.2.2.2.1
  unfold f_X1_hearWay at hf
  refine lv_iconst (v := 0) hx hb dX1_hearWay_0 (by decide) ?_
  refine lv_istore (lv' := [(4, .int 0), (0, .ref o0), (1, .ref o1), (2, .int a2), (3, .ref o2)]) hx hb dX1_hearWay_1 hl (by decide) rfl (fun ls hl => ?_)
  refine lp_go (P := fun (t1 : Int32 × MS) => ∀ (H : Heap) (locs : List Loc) (ls : Array Slot), GM g A s.heap H locs [wX1 g o0 ad0 t1.2, wX6 g o1 ad1 s1, wX2 g o2 ad2 s2] → lv_has ls 5 [(0, .ref o0), (1, .ref o1), (2, .int a2), (3, .ref o2), (4, .int t1.1)] → W p l e rmX1_hearWay s m args below meth c H locs 0 0 Q (F0 m 3 ls [])) hf (fun K2 hK2 t1 hf H locs ls hG hl => ?_) _ _ _ hG (lv_sub hl [1, 2, 3, 4, 0] rfl)
  refine lv_iload hx hb dX1_hearWay_3 (lv_at hl 4 rfl) ?_
  refine lv_aload_n hx hb dX1_hearWay_5 rfl (lv_at hl 3 rfl) ?_
  refine G_1_54 X hG 2 rfl dX1_hearWay_6 ?_
  refine lv_icmp_ge (tgt := 46) hx hb dX1_hearWay_9 (by decide) (fun hc3 => ?_) (fun hc3 => ?_)
  · replace hf := ite_t hf hc3
    refine lv_iconst (v := 0) hx hb dX1_hearWay_46 (by decide) ?_
    refine lv_istore (lv' := [(4, .int 0), (0, .ref o0), (1, .ref o1), (2, .int a2), (3, .ref o2)]) hx hb dX1_hearWay_47 hl (by decide) rfl (fun ls hl => ?_)
    refine lp_go (P := fun (t4 : Int32 × MS) => ∀ (H : Heap) (locs : List Loc) (ls : Array Slot), GM g A s.heap H locs [wX1 g o0 ad0 t4.2, wX6 g o1 ad1 s1, wX2 g o2 ad2 s2] → lv_has ls 5 [(0, .ref o0), (1, .ref o1), (3, .ref o2), (4, .int t4.1)] → W p l e rmX1_hearWay s m args below meth c H locs 0 0 Q (F0 m 49 ls [])) hf (fun K5 hK5 t4 hf H locs ls hG hl => ?_) _ _ _ hG (lv_sub hl [1, 2, 4, 0] rfl)
    refine lv_iload hx hb dX1_hearWay_49 (lv_at hl 3 rfl) ?_
    refine lv_aload_n hx hb dX1_hearWay_51 rfl (lv_at hl 2 rfl) ?_
    refine G_1_68 X hG 2 rfl dX1_hearWay_52 ?_
    refine lv_icmp_ge (tgt := 84) hx hb dX1_hearWay_55 (by decide) (fun hc6 => ?_) (fun hc6 => ?_)
    · replace hf := ite_t hf hc6
      have hq9 := Option.some.inj hf
      subst hq9
      subst hQ
      exact r_vret X hG dX1_hearWay_84
    · replace hf := ite_f hf hc6
      refine lv_aload_n hx hb dX1_hearWay_58 rfl (lv_at hl 0 rfl) ?_
      refine G_1_18 X hG 0 rfl dX1_hearWay_59 ?_
      refine lv_iload hx hb dX1_hearWay_62 (lv_at hl 3 rfl) ?_
      refine lv_aload_n hx hb dX1_hearWay_64 rfl (lv_at hl 1 rfl) ?_
      refine lv_iload hx hb dX1_hearWay_65 (lv_at hl 3 rfl) ?_
      refine lv_aload_n hx hb dX1_hearWay_67 rfl (lv_at hl 2 rfl) ?_
      refine G_1_71 X hG 2 rfl dX1_hearWay_68 ?_
      refine lv_iload hx hb dX1_hearWay_71 (lv_at hl 3 rfl) ?_
      refine r_iald X hG 2 2 rfl rfl hf dX1_hearWay_73 (fun x7 hf => ?_)
      obtain ⟨q8, hq8, hf⟩ := cl_inv hf
      refine r_callVi (bc := [wX6 g o1 ad1 s1]) (br := [wX1 g o0 ad0 t4.2, wX2 g o2 ad2 s2]) (bs' := [wX1 g o0 ad0 t4.2, wX6 g o1 ad1 s1, wX2 g o2 ad2 s2]) (As := [.int t4.1, .int x7]) (rest := [.int t4.1, .ref (ad0 2)]) X hG hl.1 (c_X6_rankOf g l o1 ad1 n t4.1 x7 s1 q8 hq8) ((blk_perm2 [1, 0, 2] 3 rfl rfl (by decide)).flatten) ((blk_perm2 [1, 0, 2] 3 rfl rfl (by decide)).flatten) lk_X6_rankOf lv_X6_rankOf ml_1_74 (j := 1) (k := 0) rfl rfl rfl rfl rfl ⟨Nat.le_of_ble_eq_true rfl, Nat.le_of_ble_eq_true rfl⟩ rfl rfl (Nat.le_of_ble_eq_true rfl) ⟨Nat.zero_le _, Nat.zero_le _⟩ dX1_hearWay_74 (fun H locs hG => ?_)
      refine r_iast X hG 0 3 rfl rfl hf (fun t => [wX1 g o0 ad0 t, wX6 g o1 ad1 s1, wX2 g o2 ad2 s2]) rfl dX1_hearWay_77 (fun z9 H locs hf hG => ?_)
      refine lv_iinc (v := (t4.1 + 1)) (lv' := [(4, .int (t4.1 + 1)), (0, .ref o0), (1, .ref o1), (3, .ref o2)]) hx hb dX1_hearWay_78 hl (k := 3) rfl rfl (by decide) rfl (fun ls hl => ?_)
      refine lv_goto (tgt := 49) hx hb dX1_hearWay_81 (by decide) ?_
      exact hK5 _ hf _ _ _ hG (lv_sub hl [1, 2, 3, 0] rfl)
  · replace hf := ite_f hf hc3
    refine lv_aload_n hx hb dX1_hearWay_12 rfl (lv_at hl 0 rfl) ?_
    refine G_1_9 X hG 0 rfl dX1_hearWay_13 ?_
    refine lv_iload hx hb dX1_hearWay_16 (lv_at hl 4 rfl) ?_
    refine lv_aload_n hx hb dX1_hearWay_18 rfl (lv_at hl 1 rfl) ?_
    refine lv_iload hx hb dX1_hearWay_19 (lv_at hl 4 rfl) ?_
    refine lv_iload_n hx hb dX1_hearWay_21 rfl (lv_at hl 2 rfl) ?_
    obtain ⟨q10, hq10, hf⟩ := cl_inv hf
    refine r_callVi (bc := [wX6 g o1 ad1 s1]) (br := [wX1 g o0 ad0 t1.2, wX2 g o2 ad2 s2]) (bs' := [wX1 g o0 ad0 t1.2, wX6 g o1 ad1 s1, wX2 g o2 ad2 s2]) (As := [.int t1.1, .int a2]) (rest := [.int t1.1, .ref (ad0 0)]) X hG hl.1 (c_X6_callsIn g l o1 ad1 n t1.1 a2 s1 q10 hq10) ((blk_perm2 [1, 0, 2] 3 rfl rfl (by decide)).flatten) ((blk_perm2 [1, 0, 2] 3 rfl rfl (by decide)).flatten) lk_X6_callsIn lv_X6_callsIn ml_1_59 (j := 1) (k := 0) rfl rfl rfl rfl rfl ⟨Nat.le_of_ble_eq_true rfl, Nat.le_of_ble_eq_true rfl⟩ rfl rfl (Nat.le_of_ble_eq_true rfl) ⟨Nat.zero_le _, Nat.zero_le _⟩ dX1_hearWay_22 (fun H locs hG => ?_)
    refine r_iast X hG 0 1 rfl rfl hf (fun t => [wX1 g o0 ad0 t, wX6 g o1 ad1 s1, wX2 g o2 ad2 s2]) rfl dX1_hearWay_25 (fun z11 H locs hf hG => ?_)
    refine lv_aload_n hx hb dX1_hearWay_26 rfl (lv_at hl 0 rfl) ?_
    refine G_1_15 X hG 0 rfl dX1_hearWay_27 ?_
    refine lv_iload hx hb dX1_hearWay_30 (lv_at hl 4 rfl) ?_
    refine lv_aload_n hx hb dX1_hearWay_32 rfl (lv_at hl 1 rfl) ?_
    refine lv_iload hx hb dX1_hearWay_33 (lv_at hl 4 rfl) ?_
    refine lv_iload_n hx hb dX1_hearWay_35 rfl (lv_at hl 2 rfl) ?_
    obtain ⟨q12, hq12, hf⟩ := cl_inv hf
    refine r_callVi (bc := [wX6 g o1 ad1 s1]) (br := [wX1 g o0 ad0 z11, wX2 g o2 ad2 s2]) (bs' := [wX1 g o0 ad0 z11, wX6 g o1 ad1 s1, wX2 g o2 ad2 s2]) (As := [.int t1.1, .int a2]) (rest := [.int t1.1, .ref (ad0 1)]) X hG hl.1 (c_X6_asksIn g l o1 ad1 n t1.1 a2 s1 q12 hq12) ((blk_perm2 [1, 0, 2] 3 rfl rfl (by decide)).flatten) ((blk_perm2 [1, 0, 2] 3 rfl rfl (by decide)).flatten) lk_X6_asksIn lv_X6_asksIn ml_1_65 (j := 1) (k := 0) rfl rfl rfl rfl rfl ⟨Nat.le_of_ble_eq_true rfl, Nat.le_of_ble_eq_true rfl⟩ rfl rfl (Nat.le_of_ble_eq_true rfl) ⟨Nat.zero_le _, Nat.zero_le _⟩ dX1_hearWay_36 (fun H locs hG => ?_)
    refine r_iast X hG 0 2 rfl rfl hf (fun t => [wX1 g o0 ad0 t, wX6 g o1 ad1 s1, wX2 g o2 ad2 s2]) rfl dX1_hearWay_39 (fun z13 H locs hf hG => ?_)
    refine lv_iinc (v := (t1.1 + 1)) (lv' := [(4, .int (t1.1 + 1)), (0, .ref o0), (1, .ref o1), (2, .int a2), (3, .ref o2)]) hx hb dX1_hearWay_40 hl (k := 4) rfl rfl (by decide) rfl (fun ls hl => ?_)
    refine lv_goto (tgt := 3) hx hb dX1_hearWay_43 (by decide) ?_
    exact hK2 _ hf _ _ _ hG (lv_sub hl [1, 2, 3, 4, 0] rfl)
def rmX1_hearSheet : Room := { frames := 1, cells := 0, slots := 0, locals := 40 }
set_option maxHeartbeats 4000000 in
set_option maxRecDepth 100000 in
theorem c_X1_hearSheet (g : GT) (l : Launch) (o0 : Nat) (ad0 : Nat → Nat) (o1 : Nat) (ad1 : Nat → Nat) (n : Nat) (s0 : MS) (s1 : MS) (q : MS) (hf : f_X1_hearSheet n s0 s1 = some q) : CV g l yX1_hearSheet cX1_hearSheet 2 none rmX1_hearSheet [.ref o0, .ref o1] [wX1 g o0 ad0 s0, wX3 g o1 ad1 s1] [wX1 g o0 ad0 q, wX3 g o1 ad1 s1] := by
  refine CV_intro RX1 rfl (by decide +kernel) (Nat.le_of_ble_eq_true rfl) ?_
  intro p e s m args below meth c A ls Q hQ X hl hG
  have hl : lv_has ls 2 [(0, .ref o0), (1, .ref o1)] := hl
  have hx := X.1
  have hb := X.2.1
  have hown := X.2.2.2.1
  unfold f_X1_hearSheet at hf
  refine lv_aload_n hx hb dX1_hearSheet_0 rfl (lv_at hl 1 rfl) ?_
  refine G_1_77 X hG 1 rfl dX1_hearSheet_1 ?_
  refine lv_iconst (v := 0) hx hb dX1_hearSheet_4 (by decide) ?_
  refine lv_aload_n hx hb dX1_hearSheet_5 rfl (lv_at hl 0 rfl) ?_
  refine G_1_9 X hG 0 rfl dX1_hearSheet_6 ?_
  refine lv_iconst (v := 0) hx hb dX1_hearSheet_9 (by decide) ?_
  refine lv_aload_n hx hb dX1_hearSheet_10 rfl (lv_at hl 1 rfl) ?_
  refine G_1_82 X hG 1 rfl dX1_hearSheet_11 ?_
  refine r_copy (idx := 85) X hG hl.1 (TW_at 747 (by decide +kernel) (by decide +kernel)) (TW_at 749 (by decide +kernel) (by decide +kernel)) (TW_at 748 (by decide +kernel) (by decide +kernel)) (TW_at 74 (by decide +kernel) (by decide +kernel)) 1 1 0 1 rfl rfl rfl rfl hf (fun t => [wX1 g o0 ad0 t, wX3 g o1 ad1 s1]) rfl (Nat.le_of_ble_eq_true rfl) (Nat.le_of_ble_eq_true rfl) dX1_hearSheet_14 (fun z1 H locs hf hG => ?_)
  have hq9 := Option.some.inj hf
  subst hq9
  subst hQ
  exact r_vret X hG dX1_hearSheet_17
def rmX1_begin : Room := { frames := 1, cells := 0, slots := 0, locals := 30 }
set_option maxHeartbeats 4000000 in
set_option maxRecDepth 100000 in
theorem c_X1_begin (g : GT) (l : Launch) (o0 : Nat) (ad0 : Nat → Nat) (o1 : Nat) (ad1 : Nat → Nat) (n : Nat) (s0 : MS) (s1 : MS) (q : MS) (hf : f_X1_begin n s0 s1 = some q) : CV g l yX1_begin cX1_begin 3 none rmX1_begin [.ref o0, .ref o1] [wX1 g o0 ad0 s0, wX2 g o1 ad1 s1] [wX1 g o0 ad0 q, wX2 g o1 ad1 s1] := by
  refine CV_intro RX1 rfl (by decide +kernel) (Nat.le_of_ble_eq_true rfl) ?_
  intro p e s m args below meth c A ls Q hQ X hl hG
  have hl : lv_has ls 3 [(0, .ref o0), (1, .ref o1)] := hl
  have hx := X.1
  have hb := X.2.1
  have hown := X.2.2.2.1
  unfold f_X1_begin at hf
  refine lv_iconst (v := 0) hx hb dX1_begin_0 (by decide) ?_
  refine lv_istore_n (lv' := [(2, .int 0), (0, .ref o0), (1, .ref o1)]) hx hb dX1_begin_1 rfl hl (by decide) rfl (fun ls hl => ?_)
  refine lp_go (P := fun (t1 : Int32 × MS) => ∀ (H : Heap) (locs : List Loc) (ls : Array Slot), GM g A s.heap H locs [wX1 g o0 ad0 t1.2, wX2 g o1 ad1 s1] → lv_has ls 3 [(0, .ref o0), (1, .ref o1), (2, .int t1.1)] → W p l e rmX1_begin s m args below meth c H locs 0 0 Q (F0 m 2 ls [])) hf (fun K2 hK2 t1 hf H locs ls hG hl => ?_) _ _ _ hG (lv_sub hl [1, 2, 0] rfl)
  refine lv_iload_n hx hb dX1_begin_2 rfl (lv_at hl 2 rfl) ?_
  refine lv_aload_n hx hb dX1_begin_3 rfl (lv_at hl 1 rfl) ?_
  refine G_1_68 X hG 1 rfl dX1_begin_4 ?_
  refine lv_icmp_ge (tgt := 52) hx hb dX1_begin_7 (by decide) (fun hc3 => ?_) (fun hc3 => ?_)
  · replace hf := ite_t hf hc3
    refine lv_aload_n hx hb dX1_begin_52 rfl (lv_at hl 0 rfl) ?_
    refine G_1_45 X hG 0 rfl dX1_begin_53 ?_
    refine lv_iconst (v := 0) hx hb dX1_begin_56 (by decide) ?_
    refine r_fill (idx := 112) X hG hl.1 (TW_at 597 (by decide +kernel) (by decide +kernel)) 0 7 rfl rfl hf (fun t => [wX1 g o0 ad0 t, wX2 g o1 ad1 s1]) rfl (by decide) (Nat.le_of_ble_eq_true rfl) (Nat.le_of_ble_eq_true rfl) (Nat.le_of_ble_eq_true rfl) ⟨Nat.zero_le _, Nat.zero_le _⟩ dX1_begin_57 (fun z4 H locs hf hG => ?_)
    refine lv_aload_n hx hb dX1_begin_60 rfl (lv_at hl 0 rfl) ?_
    refine lv_iconst (v := 0) hx hb dX1_begin_61 (by decide) ?_
    refine P_1_41 X hG 0 rfl hf (fun t => [wX1 g o0 ad0 t, wX2 g o1 ad1 s1]) (fun _ => rfl) dX1_begin_62 (fun z5 H locs hf hG => ?_)
    refine lv_aload_n hx hb dX1_begin_65 rfl (lv_at hl 0 rfl) ?_
    refine lv_iconst (v := 0) hx hb dX1_begin_66 (by decide) ?_
    refine P_1_48 X hG 0 rfl hf (fun t => [wX1 g o0 ad0 t, wX2 g o1 ad1 s1]) (fun _ => rfl) dX1_begin_67 (fun z6 H locs hf hG => ?_)
    refine lv_aload_n hx hb dX1_begin_70 rfl (lv_at hl 0 rfl) ?_
    refine lv_iconst (v := 0) hx hb dX1_begin_71 (by decide) ?_
    refine P_1_51 X hG 0 rfl hf (fun t => [wX1 g o0 ad0 t, wX2 g o1 ad1 s1]) (fun _ => rfl) dX1_begin_72 (fun z7 H locs hf hG => ?_)
    have hq9 := Option.some.inj hf
    subst hq9
    subst hQ
    exact r_vret X hG dX1_begin_75
  · replace hf := ite_f hf hc3
    refine lv_aload_n hx hb dX1_begin_10 rfl (lv_at hl 0 rfl) ?_
    refine G_1_24 X hG 0 rfl dX1_begin_11 ?_
    refine lv_iload_n hx hb dX1_begin_14 rfl (lv_at hl 2 rfl) ?_
    refine lv_aload_n hx hb dX1_begin_15 rfl (lv_at hl 1 rfl) ?_
    refine G_1_111 X hG 1 rfl dX1_begin_16 ?_
    refine lv_iload_n hx hb dX1_begin_19 rfl (lv_at hl 2 rfl) ?_
    refine r_iald X hG 1 1 rfl rfl hf dX1_begin_20 (fun x8 hf => ?_)
    refine r_iast X hG 0 4 rfl rfl hf (fun t => [wX1 g o0 ad0 t, wX2 g o1 ad1 s1]) rfl dX1_begin_21 (fun z9 H locs hf hG => ?_)
    refine lv_aload_n hx hb dX1_begin_22 rfl (lv_at hl 0 rfl) ?_
    refine G_1_32 X hG 0 rfl dX1_begin_23 ?_
    refine lv_iload_n hx hb dX1_begin_26 rfl (lv_at hl 2 rfl) ?_
    refine lv_iconst (v := 0) hx hb dX1_begin_27 (by decide) ?_
    refine r_iast X hG 0 5 rfl rfl hf (fun t => [wX1 g o0 ad0 t, wX2 g o1 ad1 s1]) rfl dX1_begin_28 (fun z10 H locs hf hG => ?_)
    refine lv_aload_n hx hb dX1_begin_29 rfl (lv_at hl 0 rfl) ?_
    refine G_1_35 X hG 0 rfl dX1_begin_30 ?_
    refine lv_iload_n hx hb dX1_begin_33 rfl (lv_at hl 2 rfl) ?_
    refine lv_iconst (v := 0) hx hb dX1_begin_34 (by decide) ?_
    refine r_iast X hG 0 6 rfl rfl hf (fun t => [wX1 g o0 ad0 t, wX2 g o1 ad1 s1]) rfl dX1_begin_35 (fun z11 H locs hf hG => ?_)
    refine lv_aload_n hx hb dX1_begin_36 rfl (lv_at hl 0 rfl) ?_
    refine G_1_29 X hG 0 rfl dX1_begin_37 ?_
    refine lv_iload_n hx hb dX1_begin_40 rfl (lv_at hl 2 rfl) ?_
    refine r_aald2 X hG 0 8 rfl rfl hf dX1_begin_41 (fun hb12 hf => ?_)
    refine W.eq (g2 := F0 m 42 ls [.ref (ad0 (20 + Int32.toNatClampNeg t1.1))]) rfl ?_
    refine lv_iconst (v := 0) hx hb dX1_begin_42 (by decide) ?_
    refine r_fill (idx := 112) X hG hl.1 (TW_at 597 (by decide +kernel) (by decide +kernel)) 0 (9 + Int32.toNatClampNeg t1.1) rfl (wX1_row5 _ _ _ _ (ib_lt hb12)) hf (fun t => [wX1 g o0 ad0 t, wX2 g o1 ad1 s1]) (congrArg (fun b => [b, wX2 g o1 ad1 s1]) (wX1_setr5 _ _ _ _ (ib_lt hb12) _)) (by decide) (Nat.le_of_ble_eq_true rfl) (Nat.le_of_ble_eq_true rfl) (Nat.le_of_ble_eq_true rfl) ⟨Nat.zero_le _, Nat.zero_le _⟩ dX1_begin_43 (fun z13 H locs hf hG => ?_)
    refine lv_iinc (v := (t1.1 + 1)) (lv' := [(2, .int (t1.1 + 1)), (0, .ref o0), (1, .ref o1)]) hx hb dX1_begin_46 hl (k := 2) rfl rfl (by decide) rfl (fun ls hl => ?_)
    refine lv_goto (tgt := 2) hx hb dX1_begin_49 (by decide) ?_
    exact hK2 _ hf _ _ _ hG (lv_sub hl [1, 2, 0] rfl)
def rmX1_setNames : Room := { frames := 0, cells := 0, slots := 0, locals := 0 }
set_option maxHeartbeats 4000000 in
set_option maxRecDepth 100000 in
theorem c_X1_setNames (g : GT) (l : Launch) (o0 : Nat) (ad0 : Nat → Nat) (o2 : Nat) (ad2 : Nat → Nat) (n : Nat) (a2 : Int32) (a3 : Int32) (a4 : Int32) (s0 : MS) (s1 : MS) (s2 : MS) (q : MS) (hf : f_X1_setNames n a2 a3 a4 s0 s1 s2 = some q) : CV g l yX1_setNames cX1_setNames 5 none rmX1_setNames [.ref o0, .ref o2, .int a2, .int a3, .int a4] [wX1 g o0 ad0 s0, wF g (ad0 3) 6 s1, wX2 g o2 ad2 s2] [wX1 g o0 ad0 s0, wF g (ad0 3) 6 q, wX2 g o2 ad2 s2] := by
  refine CV_intro RX1 rfl (by decide +kernel) (Nat.le_of_ble_eq_true rfl) ?_
  intro p e s m args below meth c A ls Q hQ X hl hG
  have hl : lv_has ls 5 [(0, .ref o0), (1, .ref o2), (2, .int a2), (3, .int a3), (4, .int a4)] := hl
  have hx := X.1
  have hb := X.2.1
  have hown := X.2.2.2.1
  unfold f_X1_setNames at hf
  refine lv_aload_n hx hb dX1_setNames_0 rfl (lv_at hl 0 rfl) ?_
  refine G_1_21 X hG 0 rfl dX1_setNames_1 ?_
  refine lv_iconst (v := 0) hx hb dX1_setNames_4 (by decide) ?_
  refine lv_aload_n hx hb dX1_setNames_5 rfl (lv_at hl 0 rfl) ?_
  refine G_1_24 X hG 0 rfl dX1_setNames_6 ?_
  refine lv_iload_n hx hb dX1_setNames_9 rfl (lv_at hl 2 rfl) ?_
  refine r_iald X hG 0 4 rfl rfl hf dX1_setNames_10 (fun x1 hf => ?_)
  refine r_iast X hG 1 0 rfl rfl hf (fun t => [wX1 g o0 ad0 s0, wF g (ad0 3) 6 t, wX2 g o2 ad2 s2]) rfl dX1_setNames_11 (fun z2 H locs hf hG => ?_)
  refine lv_aload_n hx hb dX1_setNames_12 rfl (lv_at hl 0 rfl) ?_
  refine G_1_21 X hG 0 rfl dX1_setNames_13 ?_
  refine lv_iconst (v := 1) hx hb dX1_setNames_16 (by decide) ?_
  refine lv_iload hx hb dX1_setNames_17 (lv_at hl 4 rfl) ?_
  refine r_iast X hG 1 0 rfl rfl hf (fun t => [wX1 g o0 ad0 s0, wF g (ad0 3) 6 t, wX2 g o2 ad2 s2]) rfl dX1_setNames_19 (fun z3 H locs hf hG => ?_)
  refine lv_aload_n hx hb dX1_setNames_20 rfl (lv_at hl 0 rfl) ?_
  refine G_1_21 X hG 0 rfl dX1_setNames_21 ?_
  refine lv_iconst (v := 2) hx hb dX1_setNames_24 (by decide) ?_
  refine lv_aload_n hx hb dX1_setNames_25 rfl (lv_at hl 1 rfl) ?_
  refine G_1_54 X hG 2 rfl dX1_setNames_26 ?_
  refine lv_iload_n hx hb dX1_setNames_29 rfl (lv_at hl 3 rfl) ?_
  refine lv_isub hx hb dX1_setNames_30 ?_
  refine r_iast X hG 1 0 rfl rfl hf (fun t => [wX1 g o0 ad0 s0, wF g (ad0 3) 6 t, wX2 g o2 ad2 s2]) rfl dX1_setNames_31 (fun z4 H locs hf hG => ?_)
  refine lv_aload_n hx hb dX1_setNames_32 rfl (lv_at hl 0 rfl) ?_
  refine G_1_21 X hG 0 rfl dX1_setNames_33 ?_
  refine lv_iconst (v := 3) hx hb dX1_setNames_36 (by decide) ?_
  refine lv_aload_n hx hb dX1_setNames_37 rfl (lv_at hl 0 rfl) ?_
  refine G_1_15 X hG 0 rfl dX1_setNames_38 ?_
  refine lv_iload_n hx hb dX1_setNames_41 rfl (lv_at hl 3 rfl) ?_
  refine r_iald X hG 0 2 rfl rfl hf dX1_setNames_42 (fun x5 hf => ?_)
  refine r_iast X hG 1 0 rfl rfl hf (fun t => [wX1 g o0 ad0 s0, wF g (ad0 3) 6 t, wX2 g o2 ad2 s2]) rfl dX1_setNames_43 (fun z6 H locs hf hG => ?_)
  refine lv_aload_n hx hb dX1_setNames_44 rfl (lv_at hl 0 rfl) ?_
  refine G_1_21 X hG 0 rfl dX1_setNames_45 ?_
  refine lv_iconst (v := 4) hx hb dX1_setNames_48 (by decide) ?_
  refine lv_aload_n hx hb dX1_setNames_49 rfl (lv_at hl 1 rfl) ?_
  refine G_1_144 X hG 2 rfl dX1_setNames_50 ?_
  refine lv_iload_n hx hb dX1_setNames_53 rfl (lv_at hl 2 rfl) ?_
  refine r_iald X hG 2 4 rfl rfl hf dX1_setNames_54 (fun x7 hf => ?_)
  refine lv_aload_n hx hb dX1_setNames_55 rfl (lv_at hl 0 rfl) ?_
  refine G_1_9 X hG 0 rfl dX1_setNames_56 ?_
  refine lv_iload_n hx hb dX1_setNames_59 rfl (lv_at hl 3 rfl) ?_
  refine r_iald X hG 0 1 rfl rfl hf dX1_setNames_60 (fun x8 hf => ?_)
  refine lv_imul hx hb dX1_setNames_61 ?_
  refine lv_bipush (v := 10) hx hb dX1_setNames_62 (by decide) ?_
  refine r_idiv X hf dX1_setNames_64 (fun hf => ?_)
  refine r_iast X hG 1 0 rfl rfl hf (fun t => [wX1 g o0 ad0 s0, wF g (ad0 3) 6 t, wX2 g o2 ad2 s2]) rfl dX1_setNames_65 (fun z9 H locs hf hG => ?_)
  refine lv_aload_n hx hb dX1_setNames_66 rfl (lv_at hl 0 rfl) ?_
  refine G_1_21 X hG 0 rfl dX1_setNames_67 ?_
  refine lv_iconst (v := 5) hx hb dX1_setNames_70 (by decide) ?_
  refine lv_aload_n hx hb dX1_setNames_71 rfl (lv_at hl 1 rfl) ?_
  refine G_1_147 X hG 2 rfl dX1_setNames_72 ?_
  refine lv_iload_n hx hb dX1_setNames_75 rfl (lv_at hl 3 rfl) ?_
  refine r_iald X hG 2 5 rfl rfl hf dX1_setNames_76 (fun x10 hf => ?_)
  refine r_iast X hG 1 0 rfl rfl hf (fun t => [wX1 g o0 ad0 s0, wF g (ad0 3) 6 t, wX2 g o2 ad2 s2]) rfl dX1_setNames_77 (fun z11 H locs hf hG => ?_)
  have hq9 := Option.some.inj hf
  subst hq9
  subst hQ
  exact r_vret X hG dX1_setNames_78
def rmX1_goingOf : Room := { frames := 2, cells := 0, slots := 0, locals := 52 }
set_option maxHeartbeats 4000000 in
set_option maxRecDepth 100000 in
theorem c_X1_goingOf (g : GT) (l : Launch) (o0 : Nat) (ad0 : Nat → Nat) (o2 : Nat) (ad2 : Nat → Nat) (o3 : Nat) (ad3 : Nat → Nat) (n : Nat) (a3 : Int32) (a4 : Int32) (a5 : Int32) (s0 : MS) (s1 : MS) (s2 : MS) (s3 : MS) (q : Int32 × MS × MS) (hf : f_X1_goingOf n a3 a4 a5 s0 s1 s2 s3 = some q) : CI g l yX1_goingOf cX1_goingOf 8 (some .int) rmX1_goingOf [.ref o0, .ref o2, .ref o3, .int a3, .int a4, .int a5] [wX1 g o0 ad0 s0, wF g (ad0 3) 6 s1, wX2 g o2 ad2 s2, wX5 g o3 ad3 s3] q.1 [wX1 g o0 ad0 s0, wF g (ad0 3) 6 q.2.1, wX2 g o2 ad2 s2, wX5 g o3 ad3 q.2.2] := by
  refine CI_intro RX1 rfl (by decide +kernel) (Nat.le_of_ble_eq_true rfl) ?_
  intro p e s m args below meth c A ls Q hQ X hl hG
  have hl : lv_has ls 8 [(0, .ref o0), (1, .ref o2), (2, .ref o3), (3, .int a3), (4, .int a4), (5, .int a5)] := hl
  have hx := X.1
  have hb := X.2.1
  have hown := X.2.2.2.1
  unfold f_X1_goingOf at hf
  refine lv_aload_n hx hb dX1_goingOf_0 rfl (lv_at hl 0 rfl) ?_
  refine lv_aload_n hx hb dX1_goingOf_1 rfl (lv_at hl 1 rfl) ?_
  refine lv_iload_n hx hb dX1_goingOf_2 rfl (lv_at hl 3 rfl) ?_
  refine lv_iload hx hb dX1_goingOf_3 (lv_at hl 4 rfl) ?_
  refine lv_iload hx hb dX1_goingOf_5 (lv_at hl 5 rfl) ?_
  obtain ⟨q1, hq1, hf⟩ := cl_inv hf
  refine r_callVv (bc := [wX1 g o0 ad0 s0, wF g (ad0 3) 6 s1, wX2 g o2 ad2 s2]) (br := [wX5 g o3 ad3 s3]) (bs' := [wX1 g o0 ad0 s0, wF g (ad0 3) 6 q1, wX2 g o2 ad2 s2, wX5 g o3 ad3 s3]) (As := [.ref o2, .int a3, .int a4, .int a5]) (rest := []) X hG hl.1 (c_X1_setNames g l o0 ad0 o2 ad2 n a3 a4 a5 s0 s1 s2 q1 hq1) (List.Perm.refl _) (List.Perm.refl _) lk_X1_setNames lv_X1_setNames ml_1_122 (j := 0) (k := 0) rfl rfl rfl rfl rfl ⟨Nat.le_of_ble_eq_true rfl, Nat.le_of_ble_eq_true rfl⟩ rfl rfl (Nat.le_of_ble_eq_true rfl) ⟨Nat.zero_le _, Nat.zero_le _⟩ dX1_goingOf_7 (fun H locs hG => ?_)
  refine lv_aload_n hx hb dX1_goingOf_10 rfl (lv_at hl 2 rfl) ?_
  refine lv_iconst (v := 0) hx hb dX1_goingOf_11 (by decide) ?_
  refine lv_aload_n hx hb dX1_goingOf_12 rfl (lv_at hl 0 rfl) ?_
  refine G_1_21 X hG 0 rfl dX1_goingOf_13 ?_
  obtain ⟨q2, hq2, hf⟩ := cl_inv hf
  refine r_callVi (bc := [wX5 g o3 ad3 s3, wF g (ad0 3) 6 q1]) (br := [wX1 g o0 ad0 s0, wX2 g o2 ad2 s2]) (bs' := [wX1 g o0 ad0 s0, wF g (ad0 3) 6 q1, wX2 g o2 ad2 s2, wX5 g o3 ad3 q2.2]) (As := [.int 0, .ref (ad0 3)]) (rest := []) X hG hl.1 (c_X5_value g l o3 ad3 (ad0 3) n 0 s3 q1 q2 hq2) ((blk_perm2 [3, 1, 0, 2] 4 rfl rfl (by decide)).flatten) ((blk_perm2 [2, 1, 3, 0] 4 rfl rfl (by decide)).flatten) lk_X5_value lv_X5_value ml_1_126 (j := 3) (k := 0) rfl rfl rfl rfl rfl ⟨Nat.le_of_ble_eq_true rfl, Nat.le_of_ble_eq_true rfl⟩ rfl rfl (Nat.le_of_ble_eq_true rfl) ⟨Nat.zero_le _, Nat.zero_le _⟩ dX1_goingOf_16 (fun H locs hG => ?_)
  refine lv_bipush (v := (-99)) hx hb dX1_goingOf_19 (by decide) ?_
  refine lv_sipush (v := 400) hx hb dX1_goingOf_21 (by decide) ?_
  obtain ⟨q3, hq3, hf⟩ := cl_inv hf
  refine r_callNi (bc := []) (br := [wX1 g o0 ad0 s0, wF g (ad0 3) 6 q1, wX2 g o2 ad2 s2, wX5 g o3 ad3 q2.2]) (bs' := [wX1 g o0 ad0 s0, wF g (ad0 3) 6 q1, wX2 g o2 ad2 s2, wX5 g o3 ad3 q2.2]) (As := [.int q2.1, .int (-99), .int 400]) (rest := []) X hG hl.1 (c_X7_bounded g l n q2.1 (-99) 400 q3 hq3) (List.Perm.refl _) (List.Perm.refl _) lk_X7_bounded ls_X7_bounded mn_1_132 rfl rfl ⟨Nat.le_of_ble_eq_true rfl, Nat.le_of_ble_eq_true rfl⟩ rfl rfl (Nat.le_of_ble_eq_true rfl) ⟨Nat.zero_le _, Nat.zero_le _⟩ dX1_goingOf_24 (fun H locs hG => ?_)
  refine lv_istore (lv' := [(6, .int q3), (0, .ref o0), (1, .ref o2), (2, .ref o3), (3, .int a3), (4, .int a4), (5, .int a5)]) hx hb dX1_goingOf_27 hl (by decide) rfl (fun ls hl => ?_)
  refine lv_iconst (v := 1) hx hb dX1_goingOf_29 (by decide) ?_
  refine lv_aload_n hx hb dX1_goingOf_30 rfl (lv_at hl 2 rfl) ?_
  refine G_1_136 X hG 2 rfl dX1_goingOf_31 ?_
  refine lv_iload_n hx hb dX1_goingOf_34 rfl (lv_at hl 4 rfl) ?_
  refine r_iald X hG 2 3 rfl rfl hf dX1_goingOf_35 (fun x4 hf => ?_)
  refine r_mmax (idx := 139) X hl.1 (TW_at 626 (by decide +kernel) (by decide +kernel)) (TW_at 624 (by decide +kernel) (by decide +kernel)) (TW_at 73 (by decide +kernel) (by decide +kernel)) (TW_at 625 (by decide +kernel) (by decide +kernel)) (Nat.le_of_ble_eq_true rfl) (Nat.le_of_ble_eq_true rfl) ⟨Nat.zero_le _, Nat.zero_le _⟩ dX1_goingOf_36 ?_
  refine r_bni hf (fun x5 hf => ?_)
  refine lv_istore (lv' := [(7, .int x5), (6, .int q3), (0, .ref o0), (1, .ref o2), (2, .ref o3), (3, .int a3), (4, .int a4), (5, .int a5)]) hx hb dX1_goingOf_39 hl (by decide) rfl (fun ls hl => ?_)
  refine lv_aload_n hx hb dX1_goingOf_41 rfl (lv_at hl 2 rfl) ?_
  refine G_1_24 X hG 0 rfl dX1_goingOf_42 ?_
  refine lv_iload_n hx hb dX1_goingOf_45 rfl (lv_at hl 5 rfl) ?_
  refine r_iald X hG 0 4 rfl rfl hf dX1_goingOf_46 (fun x6 hf => ?_)
  refine lv_iload hx hb dX1_goingOf_47 (lv_at hl 0 rfl) ?_
  refine r_idiv X hf dX1_goingOf_49 (fun hf => ?_)
  refine lv_iload hx hb dX1_goingOf_50 (lv_at hl 1 rfl) ?_
  refine lv_iadd hx hb dX1_goingOf_52 ?_
  refine lv_iconst (v := 0) hx hb dX1_goingOf_53 (by decide) ?_
  refine lv_aload_n hx hb dX1_goingOf_54 rfl (lv_at hl 2 rfl) ?_
  refine G_1_24 X hG 0 rfl dX1_goingOf_55 ?_
  refine lv_iload_n hx hb dX1_goingOf_58 rfl (lv_at hl 5 rfl) ?_
  refine r_iald X hG 0 4 rfl rfl hf dX1_goingOf_59 (fun x7 hf => ?_)
  obtain ⟨q8, hq8, hf⟩ := cl_inv hf
  refine r_callNi (bc := []) (br := [wX1 g o0 ad0 s0, wF g (ad0 3) 6 q1, wX2 g o2 ad2 s2, wX5 g o3 ad3 q2.2]) (bs' := [wX1 g o0 ad0 s0, wF g (ad0 3) 6 q1, wX2 g o2 ad2 s2, wX5 g o3 ad3 q2.2]) (As := [.int ((x6 / x5) + q3), .int 0, .int x7]) (rest := []) X hG hl.1 (c_X7_bounded g l n ((x6 / x5) + q3) 0 x7 q8 hq8) (List.Perm.refl _) (List.Perm.refl _) lk_X7_bounded ls_X7_bounded mn_1_132 rfl rfl ⟨Nat.le_of_ble_eq_true rfl, Nat.le_of_ble_eq_true rfl⟩ rfl rfl (Nat.le_of_ble_eq_true rfl) ⟨Nat.zero_le _, Nat.zero_le _⟩ dX1_goingOf_60 (fun H locs hG => ?_)
  have hq9 := Option.some.inj hf
  subst hq9
  subst hQ
  exact r_iret X hG dX1_goingOf_63
def rmX1_sendPeople : Room := { frames := 3, cells := 0, slots := 0, locals := 79 }
set_option maxHeartbeats 4000000 in
set_option maxRecDepth 100000 in
theorem c_X1_sendPeople (g : GT) (l : Launch) (o0 : Nat) (ad0 : Nat → Nat) (o2 : Nat) (ad2 : Nat → Nat) (o3 : Nat) (ad3 : Nat → Nat) (n : Nat) (a3 : Int32) (s0 : MS) (s1 : MS) (s2 : MS) (s3 : MS) (q : MS × MS × MS) (hf : f_X1_sendPeople n a3 s0 s1 s2 s3 = some q) : CV g l yX1_sendPeople cX1_sendPeople 8 none rmX1_sendPeople [.ref o0, .ref o2, .ref o3, .int a3] [wX1 g o0 ad0 s0, wF g (ad0 3) 6 s1, wX2 g o2 ad2 s2, wX5 g o3 ad3 s3] [wX1 g o0 ad0 q.1, wF g (ad0 3) 6 q.2.1, wX2 g o2 ad2 s2, wX5 g o3 ad3 q.2.2] := by
  refine CV_intro RX1 rfl (by decide +kernel) (Nat.le_of_ble_eq_true rfl) ?_
  intro p e s m args below meth c A ls Q hQ X hl hG
  have hl : lv_has ls 8 [(0, .ref o0), (1, .ref o2), (2, .ref o3), (3, .int a3)] := hl
  have hx := X.1
  have hb := X.2.1
  have hown := X.2.2.2.1
  unfold f_X1_sendPeople at hf
  refine lv_aload_n hx hb dX1_sendPeople_0 rfl (lv_at hl 0 rfl) ?_
  refine G_1_41 X hG 0 rfl dX1_sendPeople_1 ?_
  refine lv_istore (lv' := [(4, .int (s0.1 9)), (0, .ref o0), (1, .ref o2), (2, .ref o3), (3, .int a3)]) hx hb dX1_sendPeople_4 hl (by decide) rfl (fun ls hl => ?_)
  refine lv_iconst (v := 0) hx hb dX1_sendPeople_6 (by decide) ?_
  refine lv_istore (lv' := [(5, .int 0), (4, .int (s0.1 9)), (0, .ref o0), (1, .ref o2), (2, .ref o3), (3, .int a3)]) hx hb dX1_sendPeople_7 hl (by decide) rfl (fun ls hl => ?_)
  refine lp_go (P := fun (t1 : Int32 × MS × MS × MS) => ∀ (H : Heap) (locs : List Loc) (ls : Array Slot), GM g A s.heap H locs [wX1 g o0 ad0 t1.2.1, wF g (ad0 3) 6 t1.2.2.1, wX2 g o2 ad2 s2, wX5 g o3 ad3 t1.2.2.2] → lv_has ls 8 [(0, .ref o0), (1, .ref o2), (2, .ref o3), (3, .int a3), (4, .int (s0.1 9)), (5, .int t1.1)] → W p l e rmX1_sendPeople s m args below meth c H locs 0 0 Q (F0 m 9 ls [])) hf (fun K2 hK2 t1 hf H locs ls hG hl => ?_) _ _ _ hG (lv_sub hl [2, 3, 4, 5, 1, 0] rfl)
  refine lv_iload hx hb dX1_sendPeople_9 (lv_at hl 5 rfl) ?_
  refine lv_aload_n hx hb dX1_sendPeople_11 rfl (lv_at hl 1 rfl) ?_
  refine G_1_68 X hG 2 rfl dX1_sendPeople_12 ?_
  refine lv_icmp_ge (tgt := 111) hx hb dX1_sendPeople_15 (by decide) (fun hc3 => ?_) (fun hc3 => ?_)
  · replace hf := ite_t hf hc3
    have hq9 := Option.some.inj hf
    subst hq9
    subst hQ
    exact r_vret X hG dX1_sendPeople_111
  · replace hf := ite_f hf hc3
    refine lv_aload_n hx hb dX1_sendPeople_18 rfl (lv_at hl 0 rfl) ?_
    refine G_1_24 X hG 0 rfl dX1_sendPeople_19 ?_
    refine lv_iload hx hb dX1_sendPeople_22 (lv_at hl 5 rfl) ?_
    refine r_iald X hG 0 4 rfl rfl hf dX1_sendPeople_24 (fun x4 hf => ?_)
    refine jn_use (P := fun (t5 : Int32 × MS × MS × MS) => ∀ (H : Heap) (locs : List Loc) (ls : Array Slot), GM g A s.heap H locs [wX1 g o0 ad0 t5.2.1, wF g (ad0 3) 6 t5.2.2.1, wX2 g o2 ad2 s2, wX5 g o3 ad3 t5.2.2.2] → lv_has ls 8 [(0, .ref o0), (1, .ref o2), (2, .ref o3), (3, .int a3), (4, .int (s0.1 9)), (5, .int t1.1)] → W p l e rmX1_sendPeople s m args below meth c H locs 0 0 Q (F0 m 43 ls [.int t5.1])) hf (fun t5 hf H locs ls hG hl => ?_) (fun K6 hK6 hf => ?_)
    · refine lv_istore (lv' := [(6, .int t5.1), (0, .ref o0), (1, .ref o2), (2, .ref o3), (3, .int a3), (4, .int (s0.1 9)), (5, .int t1.1)]) hx hb dX1_sendPeople_43 hl (by decide) rfl (fun ls hl => ?_)
      refine lv_iload_n hx hb dX1_sendPeople_45 rfl (lv_at hl 4 rfl) ?_
      refine lv_aload_n hx hb dX1_sendPeople_46 rfl (lv_at hl 2 rfl) ?_
      refine G_1_71 X hG 2 rfl dX1_sendPeople_47 ?_
      refine lv_iload hx hb dX1_sendPeople_50 (lv_at hl 6 rfl) ?_
      refine r_iald X hG 2 2 rfl rfl hf dX1_sendPeople_52 (fun x7 hf => ?_)
      refine lv_iadd hx hb dX1_sendPeople_53 ?_
      refine r_bni hf (fun x8 hf => ?_)
      refine lv_istore (lv' := [(7, .int x8), (6, .int t5.1), (0, .ref o0), (1, .ref o2), (2, .ref o3), (3, .int a3), (4, .int (s0.1 9)), (5, .int t1.1)]) hx hb dX1_sendPeople_54 hl (by decide) rfl (fun ls hl => ?_)
      refine lv_aload_n hx hb dX1_sendPeople_56 rfl (lv_at hl 2 rfl) ?_
      refine G_1_24 X hG 0 rfl dX1_sendPeople_57 ?_
      refine lv_iload hx hb dX1_sendPeople_60 (lv_at hl 7 rfl) ?_
      refine lv_dup2_11 hx hb dX1_sendPeople_62 rfl rfl ?_
      refine r_iald X hG 0 4 rfl rfl hf dX1_sendPeople_63 (fun x9 hf => ?_)
      refine lv_iload hx hb dX1_sendPeople_64 (lv_at hl 1 rfl) ?_
      refine lv_isub hx hb dX1_sendPeople_66 ?_
      refine r_iast X hG 0 4 rfl rfl hf (fun t => [wX1 g o0 ad0 t, wF g (ad0 3) 6 t5.2.2.1, wX2 g o2 ad2 s2, wX5 g o3 ad3 t5.2.2.2]) rfl dX1_sendPeople_67 (fun z10 H locs hf hG => ?_)
      refine lv_iload hx hb dX1_sendPeople_68 (lv_at hl 0 rfl) ?_
      refine lv_bipush (v := 120) hx hb dX1_sendPeople_70 (by decide) ?_
      refine jn_use (P := fun (t11 : MS × MS × MS) => ∀ (H : Heap) (locs : List Loc) (ls : Array Slot), GM g A s.heap H locs [wX1 g o0 ad0 t11.1, wF g (ad0 3) 6 t11.2.1, wX2 g o2 ad2 s2, wX5 g o3 ad3 t11.2.2] → lv_has ls 8 [(0, .ref o0), (1, .ref o2), (2, .ref o3), (3, .int a3), (4, .int (s0.1 9)), (5, .int t1.1)] → W p l e rmX1_sendPeople s m args below meth c H locs 0 0 Q (F0 m 87 ls [])) hf (fun t11 hf H locs ls hG hl => ?_) (fun K12 hK12 hf => ?_)
      · refine lv_aload_n hx hb dX1_sendPeople_87 rfl (lv_at hl 0 rfl) ?_
        refine lv_dup hx hb dX1_sendPeople_88 rfl ?_
        refine G_1_41 X hG 0 rfl dX1_sendPeople_89 ?_
        refine lv_aload_n hx hb dX1_sendPeople_92 rfl (lv_at hl 0 rfl) ?_
        refine G_1_29 X hG 0 rfl dX1_sendPeople_93 ?_
        refine lv_iload hx hb dX1_sendPeople_96 (lv_at hl 5 rfl) ?_
        refine r_aald2 X hG 0 8 rfl rfl hf dX1_sendPeople_98 (fun hb13 hf => ?_)
        refine W.eq (g2 := F0 m 99 ls [.ref (ad0 (20 + Int32.toNatClampNeg t1.1)), .int (t11.1.1 9), .ref o0]) rfl ?_
        refine lv_iload_n hx hb dX1_sendPeople_99 rfl (lv_at hl 3 rfl) ?_
        refine r_iald X hG 0 (9 + Int32.toNatClampNeg t1.1) rfl (wX1_row5 _ _ _ _ (ib_lt hb13)) hf dX1_sendPeople_100 (fun x14 hf => ?_)
        refine lv_iadd hx hb dX1_sendPeople_101 ?_
        refine P_1_41 X hG 0 rfl hf (fun t => [wX1 g o0 ad0 t, wF g (ad0 3) 6 t11.2.1, wX2 g o2 ad2 s2, wX5 g o3 ad3 t11.2.2]) (fun _ => rfl) dX1_sendPeople_102 (fun z15 H locs hf hG => ?_)
        refine lv_iinc (v := (t1.1 + 1)) (lv' := [(5, .int (t1.1 + 1)), (0, .ref o0), (1, .ref o2), (2, .ref o3), (3, .int a3), (4, .int (s0.1 9))]) hx hb dX1_sendPeople_105 hl (k := 5) rfl rfl (by decide) rfl (fun ls hl => ?_)
        refine lv_goto (tgt := 9) hx hb dX1_sendPeople_108 (by decide) ?_
        exact hK2 _ hf _ _ _ hG (lv_sub hl [1, 2, 3, 4, 5, 0] rfl)
      refine lv_icmp_ge (tgt := 87) hx hb dX1_sendPeople_72 (by decide) (fun hc16 => ?_) (fun hc16 => ?_)
      · replace hf := ite_t hf hc16
        exact hK12 _ hf _ _ _ hG (lv_sub hl [2, 3, 4, 5, 6, 7] rfl)
      · replace hf := ite_f hf hc16
        refine lv_aload_n hx hb dX1_sendPeople_75 rfl (lv_at hl 2 rfl) ?_
        refine G_1_29 X hG 0 rfl dX1_sendPeople_76 ?_
        refine lv_iload hx hb dX1_sendPeople_79 (lv_at hl 7 rfl) ?_
        refine r_aald2 X hG 0 8 rfl rfl hf dX1_sendPeople_81 (fun hb17 hf => ?_)
        refine W.eq (g2 := F0 m 82 ls [.ref (ad0 (20 + Int32.toNatClampNeg t1.1))]) rfl ?_
        refine lv_iload hx hb dX1_sendPeople_82 (lv_at hl 0 rfl) ?_
        refine lv_iload hx hb dX1_sendPeople_84 (lv_at hl 1 rfl) ?_
        refine r_iast X hG 0 (9 + Int32.toNatClampNeg t1.1) rfl (wX1_row5 _ _ _ _ (ib_lt hb17)) hf (fun t => [wX1 g o0 ad0 t, wF g (ad0 3) 6 t5.2.2.1, wX2 g o2 ad2 s2, wX5 g o3 ad3 t5.2.2.2]) (congrArg (fun b => [b, wF g (ad0 3) 6 t5.2.2.1, wX2 g o2 ad2 s2, wX5 g o3 ad3 t5.2.2.2]) (wX1_set5 _ _ _ _ (ib_lt hb17) _)) dX1_sendPeople_86 (fun z18 H locs hf hG => ?_)
        exact hK12 _ hf _ _ _ hG (lv_sub hl [2, 3, 4, 5, 6, 7] rfl)
    refine lv_if_ne (tgt := 32) hx hb dX1_sendPeople_25 (by decide) (fun hc19 => ?_) (fun hc19 => ?_)
    · replace hf := ite_f hf hc19
      refine lv_aload_n hx hb dX1_sendPeople_32 rfl (lv_at hl 0 rfl) ?_
      refine lv_aload_n hx hb dX1_sendPeople_33 rfl (lv_at hl 1 rfl) ?_
      refine lv_aload_n hx hb dX1_sendPeople_34 rfl (lv_at hl 2 rfl) ?_
      refine lv_iload hx hb dX1_sendPeople_35 (lv_at hl 5 rfl) ?_
      refine lv_iload_n hx hb dX1_sendPeople_37 rfl (lv_at hl 3 rfl) ?_
      refine lv_iload hx hb dX1_sendPeople_38 (lv_at hl 4 rfl) ?_
      obtain ⟨q20, hq20, hf⟩ := cl_inv hf
      refine r_callVi (bc := [wX1 g o0 ad0 t1.2.1, wF g (ad0 3) 6 t1.2.2.1, wX2 g o2 ad2 s2, wX5 g o3 ad3 t1.2.2.2]) (br := []) (bs' := [wX1 g o0 ad0 t1.2.1, wF g (ad0 3) 6 q20.2.1, wX2 g o2 ad2 s2, wX5 g o3 ad3 q20.2.2]) (As := [.ref o2, .ref o3, .int t1.1, .int a3, .int (s0.1 9)]) (rest := []) X hG hl.1 (c_X1_goingOf g l o0 ad0 o2 ad2 o3 ad3 n t1.1 a3 (s0.1 9) t1.2.1 t1.2.2.1 s2 t1.2.2.2 q20 hq20) (List.Perm.refl _) (List.Perm.refl _) lk_X1_goingOf lv_X1_goingOf ml_1_118 (j := 0) (k := 0) rfl rfl rfl rfl rfl ⟨Nat.le_of_ble_eq_true rfl, Nat.le_of_ble_eq_true rfl⟩ rfl rfl (Nat.le_of_ble_eq_true rfl) ⟨Nat.zero_le _, Nat.zero_le _⟩ dX1_sendPeople_40 (fun H locs hG => ?_)
      exact hK6 _ hf _ _ _ hG (lv_sub hl [0, 1, 2, 3, 4, 5] rfl)
    · replace hf := ite_t hf hc19
      refine lv_iconst (v := 0) hx hb dX1_sendPeople_28 (by decide) ?_
      refine lv_goto (tgt := 43) hx hb dX1_sendPeople_29 (by decide) ?_
      exact hK6 _ hf _ _ _ hG (lv_sub hl [0, 1, 2, 3, 4, 5] rfl)
def rmX1_isAhead : Room := { frames := 0, cells := 0, slots := 0, locals := 0 }
set_option maxHeartbeats 4000000 in
set_option maxRecDepth 100000 in
theorem c_X1_isAhead (g : GT) (l : Launch) (o0 : Nat) (ad0 : Nat → Nat) (n : Nat) (a1 : Int32) (a2 : Int32) (s0 : MS) (q : Int32) (hf : f_X1_isAhead n a1 a2 s0 = some q) : CI g l yX1_isAhead cX1_isAhead 3 (some .boolean) rmX1_isAhead [.ref o0, .int a1, .int a2] [wX1 g o0 ad0 s0] q [wX1 g o0 ad0 s0] := by
  refine CI_intro RX1 rfl (by decide +kernel) (Nat.le_of_ble_eq_true rfl) ?_
  intro p e s m args below meth c A ls Q hQ X hl hG
  have hl : lv_has ls 3 [(0, .ref o0), (1, .int a1), (2, .int a2)] := hl
  have hx := X.1
  have hb := X.2.1
  have hown := X.2.2.2.1
  unfold f_X1_isAhead at hf
  refine lv_aload_n hx hb dX1_isAhead_0 rfl (lv_at hl 0 rfl) ?_
  refine G_1_18 X hG 0 rfl dX1_isAhead_1 ?_
  refine lv_iload_n hx hb dX1_isAhead_4 rfl (lv_at hl 1 rfl) ?_
  refine r_iald X hG 0 3 rfl rfl hf dX1_isAhead_5 (fun x1 hf => ?_)
  refine lv_aload_n hx hb dX1_isAhead_6 rfl (lv_at hl 0 rfl) ?_
  refine G_1_18 X hG 0 rfl dX1_isAhead_7 ?_
  refine lv_iload_n hx hb dX1_isAhead_10 rfl (lv_at hl 2 rfl) ?_
  refine r_iald X hG 0 3 rfl rfl hf dX1_isAhead_11 (fun x2 hf => ?_)
  refine lv_icmp_eq (tgt := 36) hx hb dX1_isAhead_12 (by decide) (fun hc3 => ?_) (fun hc3 => ?_)
  · replace hf := ite_t hf hc3
    refine lv_aload_n hx hb dX1_isAhead_36 rfl (lv_at hl 0 rfl) ?_
    refine G_1_32 X hG 0 rfl dX1_isAhead_37 ?_
    refine lv_iload_n hx hb dX1_isAhead_40 rfl (lv_at hl 1 rfl) ?_
    refine r_iald X hG 0 5 rfl rfl hf dX1_isAhead_41 (fun x4 hf => ?_)
    refine lv_aload_n hx hb dX1_isAhead_42 rfl (lv_at hl 0 rfl) ?_
    refine G_1_32 X hG 0 rfl dX1_isAhead_43 ?_
    refine lv_iload_n hx hb dX1_isAhead_46 rfl (lv_at hl 2 rfl) ?_
    refine r_iald X hG 0 5 rfl rfl hf dX1_isAhead_47 (fun x5 hf => ?_)
    refine lv_icmp_ge (tgt := 55) hx hb dX1_isAhead_48 (by decide) (fun hc6 => ?_) (fun hc6 => ?_)
    · replace hf := ite_t hf hc6
      refine lv_iconst (v := 0) hx hb dX1_isAhead_55 (by decide) ?_
      obtain ⟨hz, hf⟩ := ck_inv hf
      have hq9 := Option.some.inj hf
      subst hq9
      subst hQ
      exact r_zret X hG (of_decide_eq_true hz) dX1_isAhead_56
    · replace hf := ite_f hf hc6
      refine lv_iconst (v := 1) hx hb dX1_isAhead_51 (by decide) ?_
      refine lv_goto (tgt := 56) hx hb dX1_isAhead_52 (by decide) ?_
      obtain ⟨hz, hf⟩ := ck_inv hf
      have hq9 := Option.some.inj hf
      subst hq9
      subst hQ
      exact r_zret X hG (of_decide_eq_true hz) dX1_isAhead_56
  · replace hf := ite_f hf hc3
    refine lv_aload_n hx hb dX1_isAhead_15 rfl (lv_at hl 0 rfl) ?_
    refine G_1_18 X hG 0 rfl dX1_isAhead_16 ?_
    refine lv_iload_n hx hb dX1_isAhead_19 rfl (lv_at hl 1 rfl) ?_
    refine r_iald X hG 0 3 rfl rfl hf dX1_isAhead_20 (fun x7 hf => ?_)
    refine lv_aload_n hx hb dX1_isAhead_21 rfl (lv_at hl 0 rfl) ?_
    refine G_1_18 X hG 0 rfl dX1_isAhead_22 ?_
    refine lv_iload_n hx hb dX1_isAhead_25 rfl (lv_at hl 2 rfl) ?_
    refine r_iald X hG 0 3 rfl rfl hf dX1_isAhead_26 (fun x8 hf => ?_)
    refine lv_icmp_ge (tgt := 34) hx hb dX1_isAhead_27 (by decide) (fun hc9 => ?_) (fun hc9 => ?_)
    · replace hf := ite_t hf hc9
      refine lv_iconst (v := 0) hx hb dX1_isAhead_34 (by decide) ?_
      obtain ⟨hz, hf⟩ := ck_inv hf
      have hq9 := Option.some.inj hf
      subst hq9
      subst hQ
      exact r_zret X hG (of_decide_eq_true hz) dX1_isAhead_35
    · replace hf := ite_f hf hc9
      refine lv_iconst (v := 1) hx hb dX1_isAhead_30 (by decide) ?_
      refine lv_goto (tgt := 35) hx hb dX1_isAhead_31 (by decide) ?_
      obtain ⟨hz, hf⟩ := ck_inv hf
      have hq9 := Option.some.inj hf
      subst hq9
      subst hQ
      exact r_zret X hG (of_decide_eq_true hz) dX1_isAhead_35
def rmX1_firstOnes : Room := { frames := 1, cells := 0, slots := 0, locals := 22 }
set_option maxHeartbeats 4000000 in
set_option maxRecDepth 100000 in
theorem c_X1_firstOnes (g : GT) (l : Launch) (o0 : Nat) (ad0 : Nat → Nat) (n : Nat) (a1 : Int32) (a2 : Int32) (s0 : MS) (q : Int32 × MS) (hf : f_X1_firstOnes n a1 a2 s0 = some q) : CI g l yX1_firstOnes cX1_firstOnes 5 (some .int) rmX1_firstOnes [.ref o0, .int a1, .int a2] [wX1 g o0 ad0 s0] q.1 [wX1 g o0 ad0 q.2] := by
  refine CI_intro RX1 rfl (by decide +kernel) (Nat.le_of_ble_eq_true rfl) ?_
  intro p e s m args below meth c A ls Q hQ X hl hG
  have hl : lv_has ls 5 [(0, .ref o0), (1, .int a1), (2, .int a2)] := hl
  have hx := X.1
  have hb := X.2.1
  have hown := X.2.2.2.1
  unfold f_X1_firstOnes at hf
  refine lv_iconst (v := (-1)) hx hb dX1_firstOnes_0 (by decide) ?_
  refine lv_istore_n (lv' := [(3, .int (-1)), (0, .ref o0), (1, .int a1), (2, .int a2)]) hx hb dX1_firstOnes_1 rfl hl (by decide) rfl (fun ls hl => ?_)
  refine lv_iconst (v := 0) hx hb dX1_firstOnes_2 (by decide) ?_
  refine lv_istore (lv' := [(4, .int 0), (3, .int (-1)), (0, .ref o0), (1, .int a1), (2, .int a2)]) hx hb dX1_firstOnes_3 hl (by decide) rfl (fun ls hl => ?_)
  refine lp_go (P := fun (t1 : Int32 × Int32 × MS) => ∀ (H : Heap) (locs : List Loc) (ls : Array Slot), GM g A s.heap H locs [wX1 g o0 ad0 t1.2.2] → lv_has ls 5 [(0, .ref o0), (1, .int a1), (2, .int a2), (3, .int t1.1), (4, .int t1.2.1)] → W p l e rmX1_firstOnes s m args below meth c H locs 0 0 Q (F0 m 5 ls [])) hf (fun K2 hK2 t1 hf H locs ls hG hl => ?_) _ _ _ hG (lv_sub hl [2, 3, 4, 1, 0] rfl)
  refine lv_iload hx hb dX1_firstOnes_5 (lv_at hl 4 rfl) ?_
  refine lv_iload_n hx hb dX1_firstOnes_7 rfl (lv_at hl 1 rfl) ?_
  refine lv_icmp_ge (tgt := 89) hx hb dX1_firstOnes_8 (by decide) (fun hc3 => ?_) (fun hc3 => ?_)
  · replace hf := ite_t hf hc3
    refine lv_iload_n hx hb dX1_firstOnes_89 rfl (lv_at hl 3 rfl) ?_
    have hq9 := Option.some.inj hf
    subst hq9
    subst hQ
    exact r_iret X hG dX1_firstOnes_90
  · replace hf := ite_f hf hc3
    refine lp_go (P := fun (t4 : MS) => ∀ (H : Heap) (locs : List Loc) (ls : Array Slot), GM g A s.heap H locs [wX1 g o0 ad0 t4] → lv_has ls 5 [(0, .ref o0), (1, .int a1), (2, .int a2), (3, .int t1.1), (4, .int t1.2.1)] → W p l e rmX1_firstOnes s m args below meth c H locs 0 0 Q (F0 m 11 ls [])) hf (fun K5 hK5 t4 hf H locs ls hG hl => ?_) _ _ _ hG (lv_sub hl [0, 1, 2, 3, 4] rfl)
    refine lv_aload_n hx hb dX1_firstOnes_11 rfl (lv_at hl 0 rfl) ?_
    refine G_1_32 X hG 0 rfl dX1_firstOnes_12 ?_
    refine lv_iload hx hb dX1_firstOnes_15 (lv_at hl 4 rfl) ?_
    refine r_iald X hG 0 5 rfl rfl hf dX1_firstOnes_17 (fun x6 hf => ?_)
    refine lv_iload_n hx hb dX1_firstOnes_18 rfl (lv_at hl 2 rfl) ?_
    refine jn_use (P := fun (t7 : Unit) => ∀ (H : Heap) (locs : List Loc) (ls : Array Slot), GM g A s.heap H locs [wX1 g o0 ad0 t4] → lv_has ls 5 [(0, .ref o0), (1, .int a1), (2, .int a2), (3, .int t1.1), (4, .int t1.2.1)] → W p l e rmX1_firstOnes s m args below meth c H locs 0 0 Q (F0 m 54 ls [])) hf (fun t7 hf H locs ls hG hl => ?_) (fun K8 hK8 hf => ?_)
    · refine lv_aload_n hx hb dX1_firstOnes_54 rfl (lv_at hl 0 rfl) ?_
      refine G_1_32 X hG 0 rfl dX1_firstOnes_55 ?_
      refine lv_iload hx hb dX1_firstOnes_58 (lv_at hl 4 rfl) ?_
      refine r_iald X hG 0 5 rfl rfl hf dX1_firstOnes_60 (fun x9 hf => ?_)
      refine lv_iload_n hx hb dX1_firstOnes_61 rfl (lv_at hl 2 rfl) ?_
      refine jn_use (P := fun (t10 : Int32) => ∀ (H : Heap) (locs : List Loc) (ls : Array Slot), GM g A s.heap H locs [wX1 g o0 ad0 t4] → lv_has ls 5 [(0, .ref o0), (1, .int a1), (2, .int a2), (3, .int t10), (4, .int t1.2.1)] → W p l e rmX1_firstOnes s m args below meth c H locs 0 0 Q (F0 m 83 ls [])) hf (fun t10 hf H locs ls hG hl => ?_) (fun K11 hK11 hf => ?_)
      · refine lv_iinc (v := (t1.2.1 + 1)) (lv' := [(4, .int (t1.2.1 + 1)), (0, .ref o0), (1, .int a1), (2, .int a2), (3, .int t10)]) hx hb dX1_firstOnes_83 hl (k := 4) rfl rfl (by decide) rfl (fun ls hl => ?_)
        refine lv_goto (tgt := 5) hx hb dX1_firstOnes_86 (by decide) ?_
        exact hK2 _ hf _ _ _ hG (lv_sub hl [1, 2, 3, 4, 0] rfl)
      refine lv_icmp_gt (tgt := 83) hx hb dX1_firstOnes_62 (by decide) (fun hc12 => ?_) (fun hc12 => ?_)
      · replace hf := ite_t hf hc12
        exact hK11 _ hf _ _ _ hG (lv_sub hl [0, 1, 2, 3, 4] rfl)
      · replace hf := ite_f hf hc12
        refine lv_iload_n hx hb dX1_firstOnes_65 rfl (lv_at hl 3 rfl) ?_
        refine lv_iconst (v := (-1)) hx hb dX1_firstOnes_66 (by decide) ?_
        refine jn_use (P := fun (t13 : Unit) => ∀ (H : Heap) (locs : List Loc) (ls : Array Slot), GM g A s.heap H locs [wX1 g o0 ad0 t4] → lv_has ls 5 [(0, .ref o0), (1, .int a1), (2, .int a2), (4, .int t1.2.1)] → W p l e rmX1_firstOnes s m args below meth c H locs 0 0 Q (F0 m 80 ls [])) hf (fun t13 hf H locs ls hG hl => ?_) (fun K14 hK14 hf => ?_)
        · refine lv_iload hx hb dX1_firstOnes_80 (lv_at hl 3 rfl) ?_
          refine lv_istore_n (lv' := [(3, .int t1.2.1), (0, .ref o0), (1, .int a1), (2, .int a2), (4, .int t1.2.1)]) hx hb dX1_firstOnes_82 rfl hl (by decide) rfl (fun ls hl => ?_)
          exact hK11 _ hf _ _ _ hG (lv_sub hl [1, 2, 3, 0, 4] rfl)
        refine lv_icmp_eq (tgt := 80) hx hb dX1_firstOnes_67 (by decide) (fun hc15 => ?_) (fun hc15 => ?_)
        · replace hf := ite_t hf hc15
          exact hK14 _ hf _ _ _ hG (lv_sub hl [0, 1, 2, 4] rfl)
        · replace hf := ite_f hf hc15
          refine lv_aload_n hx hb dX1_firstOnes_70 rfl (lv_at hl 0 rfl) ?_
          refine lv_iload hx hb dX1_firstOnes_71 (lv_at hl 4 rfl) ?_
          refine lv_iload_n hx hb dX1_firstOnes_73 rfl (lv_at hl 3 rfl) ?_
          obtain ⟨q16, hq16, hf⟩ := cl_inv hf
          refine r_callVi (bc := [wX1 g o0 ad0 t4]) (br := []) (bs' := [wX1 g o0 ad0 t4]) (As := [.int t1.2.1, .int t1.1]) (rest := []) X hG hl.1 (c_X1_isAhead g l o0 ad0 n t1.2.1 t1.1 t4 q16 hq16) (List.Perm.refl _) (List.Perm.refl _) lk_X1_isAhead lv_X1_isAhead ml_1_165 (j := 0) (k := 0) rfl rfl rfl rfl rfl ⟨Nat.le_of_ble_eq_true rfl, Nat.le_of_ble_eq_true rfl⟩ rfl rfl (Nat.le_of_ble_eq_true rfl) ⟨Nat.zero_le _, Nat.zero_le _⟩ dX1_firstOnes_74 (fun H locs hG => ?_)
          refine lv_if_eq (tgt := 83) hx hb dX1_firstOnes_77 (by decide) (fun hc17 => ?_) (fun hc17 => ?_)
          · replace hf := ite_t hf hc17
            exact hK11 _ hf _ _ _ hG (lv_sub hl [0, 1, 2, 3, 4] rfl)
          · replace hf := ite_f hf hc17
            exact hK14 _ hf _ _ _ hG (lv_sub hl [0, 1, 2, 4] rfl)
    refine lv_icmp_gt (tgt := 54) hx hb dX1_firstOnes_19 (by decide) (fun hc18 => ?_) (fun hc18 => ?_)
    · replace hf := ite_t hf hc18
      exact hK8 _ hf _ _ _ hG (lv_sub hl [0, 1, 2, 3, 4] rfl)
    · replace hf := ite_f hf hc18
      refine lv_aload_n hx hb dX1_firstOnes_22 rfl (lv_at hl 0 rfl) ?_
      refine G_1_29 X hG 0 rfl dX1_firstOnes_23 ?_
      refine lv_iload hx hb dX1_firstOnes_26 (lv_at hl 4 rfl) ?_
      refine r_aald2 X hG 0 8 rfl rfl hf dX1_firstOnes_28 (fun hb19 hf => ?_)
      refine W.eq (g2 := F0 m 29 ls [.ref (ad0 (20 + Int32.toNatClampNeg t1.2.1))]) rfl ?_
      refine lv_aload_n hx hb dX1_firstOnes_29 rfl (lv_at hl 0 rfl) ?_
      refine G_1_32 X hG 0 rfl dX1_firstOnes_30 ?_
      refine lv_iload hx hb dX1_firstOnes_33 (lv_at hl 4 rfl) ?_
      refine r_iald X hG 0 5 rfl rfl hf dX1_firstOnes_35 (fun x20 hf => ?_)
      refine r_iald X hG 0 (9 + Int32.toNatClampNeg t1.2.1) rfl (wX1_row5 _ _ _ _ (ib_lt hb19)) hf dX1_firstOnes_36 (fun x21 hf => ?_)
      refine lv_if_ne (tgt := 54) hx hb dX1_firstOnes_37 (by decide) (fun hc22 => ?_) (fun hc22 => ?_)
      · replace hf := ite_f hf hc22
        exact hK8 _ hf _ _ _ hG (lv_sub hl [0, 1, 2, 3, 4] rfl)
      · replace hf := ite_t hf hc22
        refine lv_aload_n hx hb dX1_firstOnes_40 rfl (lv_at hl 0 rfl) ?_
        refine G_1_32 X hG 0 rfl dX1_firstOnes_41 ?_
        refine lv_iload hx hb dX1_firstOnes_44 (lv_at hl 4 rfl) ?_
        refine lv_dup2_11 hx hb dX1_firstOnes_46 rfl rfl ?_
        refine r_iald X hG 0 5 rfl rfl hf dX1_firstOnes_47 (fun x23 hf => ?_)
        refine lv_iconst (v := 1) hx hb dX1_firstOnes_48 (by decide) ?_
        refine lv_iadd hx hb dX1_firstOnes_49 ?_
        refine r_iast X hG 0 5 rfl rfl hf (fun t => [wX1 g o0 ad0 t]) rfl dX1_firstOnes_50 (fun z24 H locs hf hG => ?_)
        refine lv_goto (tgt := 11) hx hb dX1_firstOnes_51 (by decide) ?_
        exact hK5 _ hf _ _ _ hG (lv_sub hl [0, 1, 2, 3, 4] rfl)
def rmX1_board : Room := { frames := 2, cells := 0, slots := 0, locals := 46 }
set_option maxHeartbeats 4000000 in
set_option maxRecDepth 100000 in
theorem c_X1_board (g : GT) (l : Launch) (o0 : Nat) (ad0 : Nat → Nat) (n : Nat) (a1 : Int32) (a2 : Int32) (a3 : Int32) (a4 : Int32) (s0 : MS) (q : MS) (hf : f_X1_board n a1 a2 a3 a4 s0 = some q) : CV g l yX1_board cX1_board 9 none rmX1_board [.ref o0, .int a1, .int a2, .int a3, .int a4] [wX1 g o0 ad0 s0] [wX1 g o0 ad0 q] := by
  refine CV_intro RX1 rfl (by decide +kernel) (Nat.le_of_ble_eq_true rfl) ?_
  intro p e s m args below meth c A ls Q hQ X hl hG
  have hl : lv_has ls 9 [(0, .ref o0), (1, .int a1), (2, .int a2), (3, .int a3), (4, .int a4)] := hl
  have hx := X.1
  have hb := X.2.1
  have hown := X.2.2.2.1
  unfold f_X1_board at hf
  refine lv_iload_n hx hb dX1_board_0 rfl (lv_at hl 2 rfl) ?_
  refine lv_istore (lv' := [(5, .int a2), (0, .ref o0), (1, .int a1), (2, .int a2), (3, .int a3), (4, .int a4)]) hx hb dX1_board_1 hl (by decide) rfl (fun ls hl => ?_)
  refine lv_iconst (v := 0) hx hb dX1_board_3 (by decide) ?_
  refine lv_istore (lv' := [(6, .int 0), (5, .int a2), (0, .ref o0), (1, .int a1), (2, .int a2), (3, .int a3), (4, .int a4)]) hx hb dX1_board_4 hl (by decide) rfl (fun ls hl => ?_)
  refine lp_go (P := fun (t1 : Int32 × Int32 × MS) => ∀ (H : Heap) (locs : List Loc) (ls : Array Slot), GM g A s.heap H locs [wX1 g o0 ad0 t1.2.2] → lv_has ls 9 [(0, .ref o0), (1, .int a1), (3, .int a3), (4, .int a4), (5, .int t1.1), (6, .int t1.2.1)] → W p l e rmX1_board s m args below meth c H locs 0 0 Q (F0 m 6 ls [])) hf (fun K2 hK2 t1 hf H locs ls hG hl => ?_) _ _ _ hG (lv_sub hl [2, 3, 5, 6, 1, 0] rfl)
  refine lv_iload hx hb dX1_board_6 (lv_at hl 5 rfl) ?_
  refine lv_bipush (v := 60) hx hb dX1_board_8 (by decide) ?_
  refine lv_icmp_ge (tgt := 123) hx hb dX1_board_10 (by decide) (fun hc3 => ?_) (fun hc3 => ?_)
  · replace hf := ite_t hf hc3
    have hq9 := Option.some.inj hf
    subst hq9
    subst hQ
    exact r_vret X hG dX1_board_123
  · replace hf := ite_f hf hc3
    refine lv_iload hx hb dX1_board_13 (lv_at hl 4 rfl) ?_
    refine lv_if_le (tgt := 123) hx hb dX1_board_15 (by decide) (fun hc4 => ?_) (fun hc4 => ?_)
    · replace hf := ite_t hf hc4
      have hq9 := Option.some.inj hf
      subst hq9
      subst hQ
      exact r_vret X hG dX1_board_123
    · replace hf := ite_f hf hc4
      refine lv_aload_n hx hb dX1_board_18 rfl (lv_at hl 0 rfl) ?_
      refine lv_iload_n hx hb dX1_board_19 rfl (lv_at hl 2 rfl) ?_
      refine lv_iload hx hb dX1_board_20 (lv_at hl 3 rfl) ?_
      obtain ⟨q5, hq5, hf⟩ := cl_inv hf
      refine r_callVi (bc := [wX1 g o0 ad0 t1.2.2]) (br := []) (bs' := [wX1 g o0 ad0 q5.2]) (As := [.int a3, .int a4]) (rest := []) X hG hl.1 (c_X1_firstOnes g l o0 ad0 n a3 a4 t1.2.2 q5 hq5) (List.Perm.refl _) (List.Perm.refl _) lk_X1_firstOnes lv_X1_firstOnes ml_1_162 (j := 0) (k := 0) rfl rfl rfl rfl rfl ⟨Nat.le_of_ble_eq_true rfl, Nat.le_of_ble_eq_true rfl⟩ rfl rfl (Nat.le_of_ble_eq_true rfl) ⟨Nat.zero_le _, Nat.zero_le _⟩ dX1_board_22 (fun H locs hG => ?_)
      refine lv_istore (lv' := [(7, .int q5.1), (0, .ref o0), (1, .int a1), (3, .int a3), (4, .int a4), (5, .int t1.1), (6, .int t1.2.1)]) hx hb dX1_board_25 hl (by decide) rfl (fun ls hl => ?_)
      refine lv_iload hx hb dX1_board_27 (lv_at hl 0 rfl) ?_
      refine lv_iconst (v := (-1)) hx hb dX1_board_29 (by decide) ?_
      refine lv_icmp_ne (tgt := 34) hx hb dX1_board_30 (by decide) (fun hc6 => ?_) (fun hc6 => ?_)
      · replace hf := ite_f hf hc6
        refine lv_iload hx hb dX1_board_34 (lv_at hl 5 rfl) ?_
        refine lv_aload_n hx hb dX1_board_36 rfl (lv_at hl 1 rfl) ?_
        refine G_1_29 X hG 0 rfl dX1_board_37 ?_
        refine lv_iload hx hb dX1_board_40 (lv_at hl 0 rfl) ?_
        refine r_aald2 X hG 0 8 rfl rfl hf dX1_board_42 (fun hb7 hf => ?_)
        refine W.eq (g2 := F0 m 43 ls [.ref (ad0 (20 + Int32.toNatClampNeg q5.1)), .int t1.1]) rfl ?_
        refine lv_aload_n hx hb dX1_board_43 rfl (lv_at hl 1 rfl) ?_
        refine G_1_32 X hG 0 rfl dX1_board_44 ?_
        refine lv_iload hx hb dX1_board_47 (lv_at hl 0 rfl) ?_
        refine r_iald X hG 0 5 rfl rfl hf dX1_board_49 (fun x8 hf => ?_)
        refine r_iald X hG 0 (9 + Int32.toNatClampNeg q5.1) rfl (wX1_row5 _ _ _ _ (ib_lt hb7)) hf dX1_board_50 (fun x9 hf => ?_)
        refine r_mmin (idx := 155) X hl.1 (TW_at 640 (by decide +kernel) (by decide +kernel)) (TW_at 621 (by decide +kernel) (by decide +kernel)) (TW_at 73 (by decide +kernel) (by decide +kernel)) (TW_at 622 (by decide +kernel) (by decide +kernel)) (Nat.le_of_ble_eq_true rfl) (Nat.le_of_ble_eq_true rfl) ⟨Nat.zero_le _, Nat.zero_le _⟩ dX1_board_51 ?_
        refine r_bni hf (fun x10 hf => ?_)
        refine lv_istore (lv' := [(8, .int x10), (7, .int q5.1), (0, .ref o0), (1, .int a1), (3, .int a3), (4, .int a4), (5, .int t1.1), (6, .int t1.2.1)]) hx hb dX1_board_54 hl (by decide) rfl (fun ls hl => ?_)
        refine lv_aload_n hx hb dX1_board_56 rfl (lv_at hl 2 rfl) ?_
        refine G_1_29 X hG 0 rfl dX1_board_57 ?_
        refine lv_iload hx hb dX1_board_60 (lv_at hl 1 rfl) ?_
        refine r_aald2 X hG 0 8 rfl rfl hf dX1_board_62 (fun hb11 hf => ?_)
        refine W.eq (g2 := F0 m 63 ls [.ref (ad0 (20 + Int32.toNatClampNeg q5.1))]) rfl ?_
        refine lv_aload_n hx hb dX1_board_63 rfl (lv_at hl 2 rfl) ?_
        refine G_1_32 X hG 0 rfl dX1_board_64 ?_
        refine lv_iload hx hb dX1_board_67 (lv_at hl 1 rfl) ?_
        refine r_iald X hG 0 5 rfl rfl hf dX1_board_69 (fun x12 hf => ?_)
        refine lv_dup2_11 hx hb dX1_board_70 rfl rfl ?_
        refine r_iald X hG 0 (9 + Int32.toNatClampNeg q5.1) rfl (wX1_row5 _ _ _ _ (ib_lt hb11)) hf dX1_board_71 (fun x13 hf => ?_)
        refine lv_iload hx hb dX1_board_72 (lv_at hl 0 rfl) ?_
        refine lv_isub hx hb dX1_board_74 ?_
        refine r_iast X hG 0 (9 + Int32.toNatClampNeg q5.1) rfl (wX1_row5 _ _ _ _ (ib_lt hb11)) hf (fun t => [wX1 g o0 ad0 t]) (congrArg (fun b => [b]) (wX1_set5 _ _ _ _ (ib_lt hb11) _)) dX1_board_75 (fun z14 H locs hf hG => ?_)
        refine lv_aload_n hx hb dX1_board_76 rfl (lv_at hl 2 rfl) ?_
        refine G_1_35 X hG 0 rfl dX1_board_77 ?_
        refine lv_iload hx hb dX1_board_80 (lv_at hl 1 rfl) ?_
        refine lv_dup2_11 hx hb dX1_board_82 rfl rfl ?_
        refine r_iald X hG 0 6 rfl rfl hf dX1_board_83 (fun x15 hf => ?_)
        refine lv_iload hx hb dX1_board_84 (lv_at hl 0 rfl) ?_
        refine lv_iadd hx hb dX1_board_86 ?_
        refine r_iast X hG 0 6 rfl rfl hf (fun t => [wX1 g o0 ad0 t]) rfl dX1_board_87 (fun z16 H locs hf hG => ?_)
        refine lv_aload_n hx hb dX1_board_88 rfl (lv_at hl 2 rfl) ?_
        refine G_1_45 X hG 0 rfl dX1_board_89 ?_
        refine lv_iload_n hx hb dX1_board_92 rfl (lv_at hl 3 rfl) ?_
        refine lv_dup2_11 hx hb dX1_board_93 rfl rfl ?_
        refine r_iald X hG 0 7 rfl rfl hf dX1_board_94 (fun x17 hf => ?_)
        refine lv_iload hx hb dX1_board_95 (lv_at hl 0 rfl) ?_
        refine lv_iadd hx hb dX1_board_97 ?_
        refine r_iast X hG 0 7 rfl rfl hf (fun t => [wX1 g o0 ad0 t]) rfl dX1_board_98 (fun z18 H locs hf hG => ?_)
        refine lv_aload_n hx hb dX1_board_99 rfl (lv_at hl 2 rfl) ?_
        refine lv_dup hx hb dX1_board_100 rfl ?_
        refine G_1_41 X hG 0 rfl dX1_board_101 ?_
        refine lv_iload hx hb dX1_board_104 (lv_at hl 0 rfl) ?_
        refine lv_isub hx hb dX1_board_106 ?_
        refine P_1_41 X hG 0 rfl hf (fun t => [wX1 g o0 ad0 t]) (fun _ => rfl) dX1_board_107 (fun z19 H locs hf hG => ?_)
        refine lv_iload hx hb dX1_board_110 (lv_at hl 6 rfl) ?_
        refine lv_iload hx hb dX1_board_112 (lv_at hl 0 rfl) ?_
        refine lv_isub hx hb dX1_board_114 ?_
        refine r_bni hf (fun x20 hf => ?_)
        refine lv_istore (lv' := [(5, .int x20), (8, .int x10), (7, .int q5.1), (0, .ref o0), (1, .int a1), (3, .int a3), (4, .int a4), (6, .int t1.2.1)]) hx hb dX1_board_115 hl (by decide) rfl (fun ls hl => ?_)
        refine lv_iinc (v := (t1.2.1 + 1)) (lv' := [(6, .int (t1.2.1 + 1)), (5, .int x20), (8, .int x10), (7, .int q5.1), (0, .ref o0), (1, .int a1), (3, .int a3), (4, .int a4)]) hx hb dX1_board_117 hl (k := 7) rfl rfl (by decide) rfl (fun ls hl => ?_)
        refine lv_goto (tgt := 6) hx hb dX1_board_120 (by decide) ?_
        exact hK2 _ hf _ _ _ hG (lv_sub hl [4, 5, 6, 7, 1, 0] rfl)
      · replace hf := ite_t hf hc6
        have hq9 := Option.some.inj hf
        subst hq9
        subst hQ
        exact r_vret X hG dX1_board_33
def rmX1_sendCars : Room := { frames := 3, cells := 0, slots := 0, locals := 74 }
set_option maxHeartbeats 4000000 in
set_option maxRecDepth 100000 in
theorem c_X1_sendCars (g : GT) (l : Launch) (o0 : Nat) (ad0 : Nat → Nat) (o2 : Nat) (ad2 : Nat → Nat) (o3 : Nat) (ad3 : Nat → Nat) (o4 : Nat) (ad4 : Nat → Nat) (n : Nat) (a3 : Int32) (a5 : Int32) (s0 : MS) (s1 : MS) (s2 : MS) (s3 : MS) (s4 : MS) (q : MS × MS × MS) (hf : f_X1_sendCars n a3 a5 s0 s1 s2 s3 s4 = some q) : CV g l yX1_sendCars cX1_sendCars 9 none rmX1_sendCars [.ref o0, .ref o2, .ref o3, .int a3, .ref o4, .int a5] [wX1 g o0 ad0 s0, wF g (ad0 3) 6 s1, wX2 g o2 ad2 s2, wX0 g o3 ad3 s3, wX5 g o4 ad4 s4] [wX1 g o0 ad0 q.1, wF g (ad0 3) 6 q.2.1, wX2 g o2 ad2 s2, wX0 g o3 ad3 s3, wX5 g o4 ad4 q.2.2] := by
  refine CV_intro RX1 rfl (by decide +kernel) (Nat.le_of_ble_eq_true rfl) ?_
  intro p e s m args below meth c A ls Q hQ X hl hG
  have hl : lv_has ls 9 [(0, .ref o0), (1, .ref o2), (2, .ref o3), (3, .int a3), (4, .ref o4), (5, .int a5)] := hl
  have hx := X.1
  have hb := X.2.1
  have hown := X.2.2.2.1
  unfold f_X1_sendCars at hf
  refine lv_iconst (v := 0) hx hb dX1_sendCars_0 (by decide) ?_
  refine lv_istore (lv' := [(6, .int 0), (0, .ref o0), (1, .ref o2), (2, .ref o3), (3, .int a3), (4, .ref o4), (5, .int a5)]) hx hb dX1_sendCars_1 hl (by decide) rfl (fun ls hl => ?_)
  refine lp_go (P := fun (t1 : Int32 × MS × MS × MS) => ∀ (H : Heap) (locs : List Loc) (ls : Array Slot), GM g A s.heap H locs [wX1 g o0 ad0 t1.2.1, wF g (ad0 3) 6 t1.2.2.1, wX2 g o2 ad2 s2, wX0 g o3 ad3 s3, wX5 g o4 ad4 t1.2.2.2] → lv_has ls 9 [(0, .ref o0), (1, .ref o2), (2, .ref o3), (3, .int a3), (4, .ref o4), (5, .int a5), (6, .int t1.1)] → W p l e rmX1_sendCars s m args below meth c H locs 0 0 Q (F0 m 3 ls [])) hf (fun K2 hK2 t1 hf H locs ls hG hl => ?_) _ _ _ hG (lv_sub hl [1, 2, 3, 4, 5, 6, 0] rfl)
  refine lv_iload hx hb dX1_sendCars_3 (lv_at hl 6 rfl) ?_
  refine lv_iload_n hx hb dX1_sendCars_5 rfl (lv_at hl 3 rfl) ?_
  refine lv_icmp_ge (tgt := 94) hx hb dX1_sendCars_6 (by decide) (fun hc3 => ?_) (fun hc3 => ?_)
  · replace hf := ite_t hf hc3
    have hq9 := Option.some.inj hf
    subst hq9
    subst hQ
    exact r_vret X hG dX1_sendCars_94
  · replace hf := ite_f hf hc3
    refine lv_aload_n hx hb dX1_sendCars_9 rfl (lv_at hl 0 rfl) ?_
    refine G_1_41 X hG 0 rfl dX1_sendCars_10 ?_
    refine lv_if_le (tgt := 94) hx hb dX1_sendCars_13 (by decide) (fun hc4 => ?_) (fun hc4 => ?_)
    · replace hf := ite_t hf hc4
      have hq9 := Option.some.inj hf
      subst hq9
      subst hQ
      exact r_vret X hG dX1_sendCars_94
    · replace hf := ite_f hf hc4
      refine lv_aload_n hx hb dX1_sendCars_16 rfl (lv_at hl 2 rfl) ?_
      refine lv_iload hx hb dX1_sendCars_17 (lv_at hl 6 rfl) ?_
      refine lv_iload hx hb dX1_sendCars_19 (lv_at hl 5 rfl) ?_
      obtain ⟨q5, hq5, hf⟩ := cl_inv hf
      refine r_callVi (bc := [wX0 g o3 ad3 s3]) (br := [wX1 g o0 ad0 t1.2.1, wF g (ad0 3) 6 t1.2.2.1, wX2 g o2 ad2 s2, wX5 g o4 ad4 t1.2.2.2]) (bs' := [wX1 g o0 ad0 t1.2.1, wF g (ad0 3) 6 t1.2.2.1, wX2 g o2 ad2 s2, wX0 g o3 ad3 s3, wX5 g o4 ad4 t1.2.2.2]) (As := [.int t1.1, .int a5]) (rest := []) X hG hl.1 (c_X0_roomOf g l o3 ad3 n t1.1 a5 s3 q5 hq5) ((blk_perm2 [3, 0, 1, 2, 4] 5 rfl rfl (by decide)).flatten) ((blk_perm2 [1, 2, 3, 0, 4] 5 rfl rfl (by decide)).flatten) lk_X0_roomOf lv_X0_roomOf ml_1_150 (j := 3) (k := 0) rfl rfl rfl rfl rfl ⟨Nat.le_of_ble_eq_true rfl, Nat.le_of_ble_eq_true rfl⟩ rfl rfl (Nat.le_of_ble_eq_true rfl) ⟨Nat.zero_le _, Nat.zero_le _⟩ dX1_sendCars_21 (fun H locs hG => ?_)
      refine lv_istore (lv' := [(7, .int q5), (0, .ref o0), (1, .ref o2), (2, .ref o3), (3, .int a3), (4, .ref o4), (5, .int a5), (6, .int t1.1)]) hx hb dX1_sendCars_24 hl (by decide) rfl (fun ls hl => ?_)
      refine lv_iload hx hb dX1_sendCars_26 (lv_at hl 0 rfl) ?_
      refine jn_use (P := fun (t6 : MS × MS × MS) => ∀ (H : Heap) (locs : List Loc) (ls : Array Slot), GM g A s.heap H locs [wX1 g o0 ad0 t6.1, wF g (ad0 3) 6 t6.2.1, wX2 g o2 ad2 s2, wX0 g o3 ad3 s3, wX5 g o4 ad4 t6.2.2] → lv_has ls 9 [(0, .ref o0), (1, .ref o2), (2, .ref o3), (3, .int a3), (4, .ref o4), (5, .int a5), (6, .int t1.1)] → W p l e rmX1_sendCars s m args below meth c H locs 0 0 Q (F0 m 88 ls [])) hf (fun t6 hf H locs ls hG hl => ?_) (fun K7 hK7 hf => ?_)
      · refine lv_iinc (v := (t1.1 + 1)) (lv' := [(6, .int (t1.1 + 1)), (0, .ref o0), (1, .ref o2), (2, .ref o3), (3, .int a3), (4, .ref o4), (5, .int a5)]) hx hb dX1_sendCars_88 hl (k := 6) rfl rfl (by decide) rfl (fun ls hl => ?_)
        refine lv_goto (tgt := 3) hx hb dX1_sendCars_91 (by decide) ?_
        exact hK2 _ hf _ _ _ hG (lv_sub hl [1, 2, 3, 4, 5, 6, 0] rfl)
      refine lv_if_ne (tgt := 34) hx hb dX1_sendCars_28 (by decide) (fun hc8 => ?_) (fun hc8 => ?_)
      · replace hf := ite_f hf hc8
        refine lv_aload_n hx hb dX1_sendCars_34 rfl (lv_at hl 1 rfl) ?_
        refine lv_aload_n hx hb dX1_sendCars_35 rfl (lv_at hl 2 rfl) ?_
        refine lv_iconst (v := 0) hx hb dX1_sendCars_36 (by decide) ?_
        refine lv_iload hx hb dX1_sendCars_37 (lv_at hl 6 rfl) ?_
        refine lv_aload_n hx hb dX1_sendCars_39 rfl (lv_at hl 1 rfl) ?_
        refine G_1_41 X hG 0 rfl dX1_sendCars_40 ?_
        obtain ⟨q9, hq9, hf⟩ := cl_inv hf
        refine r_callVv (bc := [wX1 g o0 ad0 t1.2.1, wF g (ad0 3) 6 t1.2.2.1, wX2 g o2 ad2 s2]) (br := [wX0 g o3 ad3 s3, wX5 g o4 ad4 t1.2.2.2]) (bs' := [wX1 g o0 ad0 t1.2.1, wF g (ad0 3) 6 q9, wX2 g o2 ad2 s2, wX0 g o3 ad3 s3, wX5 g o4 ad4 t1.2.2.2]) (As := [.ref o2, .int 0, .int a5, .int (t1.2.1.1 9)]) (rest := []) X hG hl.1 (c_X1_setNames g l o0 ad0 o2 ad2 n 0 a5 (t1.2.1.1 9) t1.2.1 t1.2.2.1 s2 q9 hq9) (List.Perm.refl _) (List.Perm.refl _) lk_X1_setNames lv_X1_setNames ml_1_122 (j := 0) (k := 0) rfl rfl rfl rfl rfl ⟨Nat.le_of_ble_eq_true rfl, Nat.le_of_ble_eq_true rfl⟩ rfl rfl (Nat.le_of_ble_eq_true rfl) ⟨Nat.zero_le _, Nat.zero_le _⟩ dX1_sendCars_43 (fun H locs hG => ?_)
        refine lv_aload hx hb dX1_sendCars_46 (lv_at hl 5 rfl) ?_
        refine lv_iconst (v := 1) hx hb dX1_sendCars_48 (by decide) ?_
        refine lv_aload_n hx hb dX1_sendCars_49 rfl (lv_at hl 1 rfl) ?_
        refine G_1_21 X hG 0 rfl dX1_sendCars_50 ?_
        obtain ⟨q10, hq10, hf⟩ := cl_inv hf
        refine r_callVi (bc := [wX5 g o4 ad4 t1.2.2.2, wF g (ad0 3) 6 q9]) (br := [wX1 g o0 ad0 t1.2.1, wX2 g o2 ad2 s2, wX0 g o3 ad3 s3]) (bs' := [wX1 g o0 ad0 t1.2.1, wF g (ad0 3) 6 q9, wX2 g o2 ad2 s2, wX0 g o3 ad3 s3, wX5 g o4 ad4 q10.2]) (As := [.int 1, .ref (ad0 3)]) (rest := []) X hG hl.1 (c_X5_value g l o4 ad4 (ad0 3) n 1 t1.2.2.2 q9 q10 hq10) ((blk_perm2 [4, 1, 0, 2, 3] 5 rfl rfl (by decide)).flatten) ((blk_perm2 [2, 1, 3, 4, 0] 5 rfl rfl (by decide)).flatten) lk_X5_value lv_X5_value ml_1_126 (j := 4) (k := 0) rfl rfl rfl rfl rfl ⟨Nat.le_of_ble_eq_true rfl, Nat.le_of_ble_eq_true rfl⟩ rfl rfl (Nat.le_of_ble_eq_true rfl) ⟨Nat.zero_le _, Nat.zero_le _⟩ dX1_sendCars_53 (fun H locs hG => ?_)
        refine lv_iconst (v := 0) hx hb dX1_sendCars_56 (by decide) ?_
        refine lv_bipush (v := 60) hx hb dX1_sendCars_57 (by decide) ?_
        obtain ⟨q11, hq11, hf⟩ := cl_inv hf
        refine r_callNi (bc := []) (br := [wX1 g o0 ad0 t1.2.1, wF g (ad0 3) 6 q9, wX2 g o2 ad2 s2, wX0 g o3 ad3 s3, wX5 g o4 ad4 q10.2]) (bs' := [wX1 g o0 ad0 t1.2.1, wF g (ad0 3) 6 q9, wX2 g o2 ad2 s2, wX0 g o3 ad3 s3, wX5 g o4 ad4 q10.2]) (As := [.int q10.1, .int 0, .int 60]) (rest := []) X hG hl.1 (c_X7_bounded g l n q10.1 0 60 q11 hq11) (List.Perm.refl _) (List.Perm.refl _) lk_X7_bounded ls_X7_bounded mn_1_132 rfl rfl ⟨Nat.le_of_ble_eq_true rfl, Nat.le_of_ble_eq_true rfl⟩ rfl rfl (Nat.le_of_ble_eq_true rfl) ⟨Nat.zero_le _, Nat.zero_le _⟩ dX1_sendCars_59 (fun H locs hG => ?_)
        refine lv_istore (lv' := [(8, .int q11), (7, .int q5), (0, .ref o0), (1, .ref o2), (2, .ref o3), (3, .int a3), (4, .ref o4), (5, .int a5), (6, .int t1.1)]) hx hb dX1_sendCars_62 hl (by decide) rfl (fun ls hl => ?_)
        refine lv_aload_n hx hb dX1_sendCars_64 rfl (lv_at hl 2 rfl) ?_
        refine lv_iload hx hb dX1_sendCars_65 (lv_at hl 8 rfl) ?_
        refine lv_iload hx hb dX1_sendCars_67 (lv_at hl 1 rfl) ?_
        refine lv_iload hx hb dX1_sendCars_69 (lv_at hl 0 rfl) ?_
        refine lv_isub hx hb dX1_sendCars_71 ?_
        refine lv_aload_n hx hb dX1_sendCars_72 rfl (lv_at hl 2 rfl) ?_
        refine G_1_41 X hG 0 rfl dX1_sendCars_73 ?_
        refine r_mmin (idx := 155) X hl.1 (TW_at 640 (by decide +kernel) (by decide +kernel)) (TW_at 621 (by decide +kernel) (by decide +kernel)) (TW_at 73 (by decide +kernel) (by decide +kernel)) (TW_at 622 (by decide +kernel) (by decide +kernel)) (Nat.le_of_ble_eq_true rfl) (Nat.le_of_ble_eq_true rfl) ⟨Nat.zero_le _, Nat.zero_le _⟩ dX1_sendCars_76 ?_
        refine lv_aload_n hx hb dX1_sendCars_79 rfl (lv_at hl 3 rfl) ?_
        refine G_1_68 X hG 2 rfl dX1_sendCars_80 ?_
        refine lv_iload hx hb dX1_sendCars_83 (lv_at hl 7 rfl) ?_
        obtain ⟨q12, hq12, hf⟩ := cl_inv hf
        refine r_callVv (bc := [wX1 g o0 ad0 t1.2.1]) (br := [wF g (ad0 3) 6 q9, wX2 g o2 ad2 s2, wX0 g o3 ad3 s3, wX5 g o4 ad4 q10.2]) (bs' := [wX1 g o0 ad0 q12, wF g (ad0 3) 6 q9, wX2 g o2 ad2 s2, wX0 g o3 ad3 s3, wX5 g o4 ad4 q10.2]) (As := [.int t1.1, .int (mmin (q5 - q11) (t1.2.1.1 9)), .int (s2.1 0), .int a5]) (rest := []) X hG hl.1 (c_X1_board g l o0 ad0 n t1.1 (mmin (q5 - q11) (t1.2.1.1 9)) (s2.1 0) a5 t1.2.1 q12 hq12) (List.Perm.refl _) (List.Perm.refl _) lk_X1_board lv_X1_board ml_1_158 (j := 0) (k := 0) rfl rfl rfl rfl rfl ⟨Nat.le_of_ble_eq_true rfl, Nat.le_of_ble_eq_true rfl⟩ rfl rfl (Nat.le_of_ble_eq_true rfl) ⟨Nat.zero_le _, Nat.zero_le _⟩ dX1_sendCars_85 (fun H locs hG => ?_)
        exact hK7 _ hf _ _ _ hG (lv_sub hl [2, 3, 4, 5, 6, 7, 8] rfl)
      · replace hf := ite_t hf hc8
        refine lv_goto (tgt := 88) hx hb dX1_sendCars_31 (by decide) ?_
        exact hK7 _ hf _ _ _ hG (lv_sub hl [1, 2, 3, 4, 5, 6, 7] rfl)
def rmX1_endMinute : Room := { frames := 0, cells := 0, slots := 0, locals := 0 }
set_option maxHeartbeats 4000000 in
set_option maxRecDepth 100000 in
theorem c_X1_endMinute (g : GT) (l : Launch) (o0 : Nat) (ad0 : Nat → Nat) (o1 : Nat) (ad1 : Nat → Nat) (n : Nat) (a2 : Int32) (s0 : MS) (s1 : MS) (q : MS) (hf : f_X1_endMinute n a2 s0 s1 = some q) : CV g l yX1_endMinute cX1_endMinute 4 none rmX1_endMinute [.ref o0, .ref o1, .int a2] [wX1 g o0 ad0 s0, wX2 g o1 ad1 s1] [wX1 g o0 ad0 q, wX2 g o1 ad1 s1] := by
  refine CV_intro RX1 rfl (by decide +kernel) (Nat.le_of_ble_eq_true rfl) ?_
  intro p e s m args below meth c A ls Q hQ X hl hG
  have hl : lv_has ls 4 [(0, .ref o0), (1, .ref o1), (2, .int a2)] := hl
  have hx := X.1
  have hb := X.2.1
  have hown := X.2.2.2.1
  unfold f_X1_endMinute at hf
  refine lv_iconst (v := 0) hx hb dX1_endMinute_0 (by decide) ?_
  refine lv_istore_n (lv' := [(3, .int 0), (0, .ref o0), (1, .ref o1), (2, .int a2)]) hx hb dX1_endMinute_1 rfl hl (by decide) rfl (fun ls hl => ?_)
  refine lp_go (P := fun (t1 : Int32 × MS) => ∀ (H : Heap) (locs : List Loc) (ls : Array Slot), GM g A s.heap H locs [wX1 g o0 ad0 t1.2, wX2 g o1 ad1 s1] → lv_has ls 4 [(0, .ref o0), (1, .ref o1), (2, .int a2), (3, .int t1.1)] → W p l e rmX1_endMinute s m args below meth c H locs 0 0 Q (F0 m 2 ls [])) hf (fun K2 hK2 t1 hf H locs ls hG hl => ?_) _ _ _ hG (lv_sub hl [1, 2, 3, 0] rfl)
  refine lv_iload_n hx hb dX1_endMinute_2 rfl (lv_at hl 3 rfl) ?_
  refine lv_aload_n hx hb dX1_endMinute_3 rfl (lv_at hl 1 rfl) ?_
  refine G_1_68 X hG 1 rfl dX1_endMinute_4 ?_
  refine lv_icmp_ge (tgt := 30) hx hb dX1_endMinute_7 (by decide) (fun hc3 => ?_) (fun hc3 => ?_)
  · replace hf := ite_t hf hc3
    refine lv_aload_n hx hb dX1_endMinute_30 rfl (lv_at hl 0 rfl) ?_
    refine G_1_41 X hG 0 rfl dX1_endMinute_31 ?_
    refine lv_aload_n hx hb dX1_endMinute_34 rfl (lv_at hl 0 rfl) ?_
    refine G_1_48 X hG 0 rfl dX1_endMinute_35 ?_
    refine lv_icmp_le (tgt := 54) hx hb dX1_endMinute_38 (by decide) (fun hc4 => ?_) (fun hc4 => ?_)
    · replace hf := ite_t hf hc4
      have hq9 := Option.some.inj hf
      subst hq9
      subst hQ
      exact r_vret X hG dX1_endMinute_54
    · replace hf := ite_f hf hc4
      refine lv_aload_n hx hb dX1_endMinute_41 rfl (lv_at hl 0 rfl) ?_
      refine lv_aload_n hx hb dX1_endMinute_42 rfl (lv_at hl 0 rfl) ?_
      refine G_1_41 X hG 0 rfl dX1_endMinute_43 ?_
      refine P_1_48 X hG 0 rfl hf (fun t => [wX1 g o0 ad0 t, wX2 g o1 ad1 s1]) (fun _ => rfl) dX1_endMinute_46 (fun z5 H locs hf hG => ?_)
      refine lv_aload_n hx hb dX1_endMinute_49 rfl (lv_at hl 0 rfl) ?_
      refine lv_iload_n hx hb dX1_endMinute_50 rfl (lv_at hl 2 rfl) ?_
      refine P_1_51 X hG 0 rfl hf (fun t => [wX1 g o0 ad0 t, wX2 g o1 ad1 s1]) (fun _ => rfl) dX1_endMinute_51 (fun z6 H locs hf hG => ?_)
      have hq9 := Option.some.inj hf
      subst hq9
      subst hQ
      exact r_vret X hG dX1_endMinute_54
  · replace hf := ite_f hf hc3
    refine lv_aload_n hx hb dX1_endMinute_10 rfl (lv_at hl 0 rfl) ?_
    refine G_1_38 X hG 0 rfl dX1_endMinute_11 ?_
    refine lv_iload_n hx hb dX1_endMinute_14 rfl (lv_at hl 3 rfl) ?_
    refine r_aald2 X hG 0 15 rfl rfl hf dX1_endMinute_15 (fun hb7 hf => ?_)
    refine W.eq (g2 := F0 m 16 ls [.ref (ad0 (30 + Int32.toNatClampNeg t1.1))]) rfl ?_
    refine lv_iload_n hx hb dX1_endMinute_16 rfl (lv_at hl 2 rfl) ?_
    refine lv_aload_n hx hb dX1_endMinute_17 rfl (lv_at hl 0 rfl) ?_
    refine G_1_35 X hG 0 rfl dX1_endMinute_18 ?_
    refine lv_iload_n hx hb dX1_endMinute_21 rfl (lv_at hl 3 rfl) ?_
    refine r_iald X hG 0 6 rfl rfl hf dX1_endMinute_22 (fun x8 hf => ?_)
    refine r_iast X hG 0 (16 + Int32.toNatClampNeg t1.1) rfl (wX1_row8 _ _ _ _ (ib_lt hb7)) hf (fun t => [wX1 g o0 ad0 t, wX2 g o1 ad1 s1]) (congrArg (fun b => [b, wX2 g o1 ad1 s1]) (wX1_set8 _ _ _ _ (ib_lt hb7) _)) dX1_endMinute_23 (fun z9 H locs hf hG => ?_)
    refine lv_iinc (v := (t1.1 + 1)) (lv' := [(3, .int (t1.1 + 1)), (0, .ref o0), (1, .ref o1), (2, .int a2)]) hx hb dX1_endMinute_24 hl (k := 3) rfl rfl (by decide) rfl (fun ls hl => ?_)
    refine lv_goto (tgt := 2) hx hb dX1_endMinute_27 (by decide) ?_
    exact hK2 _ hf _ _ _ hG (lv_sub hl [1, 2, 3, 0] rfl)
def rmX1_run : Room := { frames := 4, cells := 0, slots := 0, locals := 106 }
set_option maxHeartbeats 4000000 in
set_option maxRecDepth 100000 in
theorem c_X1_run (g : GT) (l : Launch) (o0 : Nat) (ad0 : Nat → Nat) (o2 : Nat) (ad2 : Nat → Nat) (o3 : Nat) (ad3 : Nat → Nat) (o4 : Nat) (ad4 : Nat → Nat) (n : Nat) (a3 : Int32) (s0 : MS) (s1 : MS) (s2 : MS) (s3 : MS) (s4 : MS) (q : MS × MS × MS) (hf : f_X1_run n a3 s0 s1 s2 s3 s4 = some q) : CV g l yX1_run cX1_run 6 none rmX1_run [.ref o0, .ref o2, .ref o3, .int a3, .ref o4] [wX1 g o0 ad0 s0, wF g (ad0 3) 6 s1, wX2 g o2 ad2 s2, wX0 g o3 ad3 s3, wX5 g o4 ad4 s4] [wX1 g o0 ad0 q.1, wF g (ad0 3) 6 q.2.1, wX2 g o2 ad2 s2, wX0 g o3 ad3 s3, wX5 g o4 ad4 q.2.2] := by
  refine CV_intro RX1 rfl (by decide +kernel) (Nat.le_of_ble_eq_true rfl) ?_
  intro p e s m args below meth c A ls Q hQ X hl hG
  have hl : lv_has ls 6 [(0, .ref o0), (1, .ref o2), (2, .ref o3), (3, .int a3), (4, .ref o4)] := hl
  have hx := X.1
  have hb := X.2.1
  have hown := X.2.2.2.1
  unfold f_X1_run at hf
  refine lv_aload_n hx hb dX1_run_0 rfl (lv_at hl 0 rfl) ?_
  refine lv_aload_n hx hb dX1_run_1 rfl (lv_at hl 1 rfl) ?_
  obtain ⟨q1, hq1, hf⟩ := cl_inv hf
  refine r_callVv (bc := [wX1 g o0 ad0 s0, wX2 g o2 ad2 s2]) (br := [wF g (ad0 3) 6 s1, wX0 g o3 ad3 s3, wX5 g o4 ad4 s4]) (bs' := [wX1 g o0 ad0 q1, wF g (ad0 3) 6 s1, wX2 g o2 ad2 s2, wX0 g o3 ad3 s3, wX5 g o4 ad4 s4]) (As := [.ref o2]) (rest := []) X hG hl.1 (c_X1_begin g l o0 ad0 o2 ad2 n s0 s2 q1 hq1) ((blk_perm2 [0, 2, 1, 3, 4] 5 rfl rfl (by decide)).flatten) ((blk_perm2 [0, 2, 1, 3, 4] 5 rfl rfl (by decide)).flatten) lk_X1_begin lv_X1_begin ml_1_91 (j := 0) (k := 0) rfl rfl rfl rfl rfl ⟨Nat.le_of_ble_eq_true rfl, Nat.le_of_ble_eq_true rfl⟩ rfl rfl (Nat.le_of_ble_eq_true rfl) ⟨Nat.zero_le _, Nat.zero_le _⟩ dX1_run_2 (fun H locs hG => ?_)
  refine lv_iconst (v := 0) hx hb dX1_run_5 (by decide) ?_
  refine lv_istore (lv' := [(5, .int 0), (0, .ref o0), (1, .ref o2), (2, .ref o3), (3, .int a3), (4, .ref o4)]) hx hb dX1_run_6 hl (by decide) rfl (fun ls hl => ?_)
  refine lp_go (P := fun (t2 : Int32 × MS × MS × MS) => ∀ (H : Heap) (locs : List Loc) (ls : Array Slot), GM g A s.heap H locs [wX1 g o0 ad0 t2.2.1, wF g (ad0 3) 6 t2.2.2.1, wX2 g o2 ad2 s2, wX0 g o3 ad3 s3, wX5 g o4 ad4 t2.2.2.2] → lv_has ls 6 [(0, .ref o0), (1, .ref o2), (2, .ref o3), (3, .int a3), (4, .ref o4), (5, .int t2.1)] → W p l e rmX1_run s m args below meth c H locs 0 0 Q (F0 m 8 ls [])) hf (fun K3 hK3 t2 hf H locs ls hG hl => ?_) _ _ _ hG (lv_sub hl [1, 2, 3, 4, 5, 0] rfl)
  refine lv_iload hx hb dX1_run_8 (lv_at hl 5 rfl) ?_
  refine lv_aload_n hx hb dX1_run_10 rfl (lv_at hl 1 rfl) ?_
  refine G_1_54 X hG 2 rfl dX1_run_11 ?_
  refine lv_icmp_ge (tgt := 59) hx hb dX1_run_14 (by decide) (fun hc4 => ?_) (fun hc4 => ?_)
  · replace hf := ite_t hf hc4
    have hq9 := Option.some.inj hf
    subst hq9
    subst hQ
    exact r_vret X hG dX1_run_59
  · replace hf := ite_f hf hc4
    refine lv_aload_n hx hb dX1_run_17 rfl (lv_at hl 0 rfl) ?_
    refine lv_aload_n hx hb dX1_run_18 rfl (lv_at hl 1 rfl) ?_
    refine lv_aload hx hb dX1_run_19 (lv_at hl 4 rfl) ?_
    refine lv_iload hx hb dX1_run_21 (lv_at hl 5 rfl) ?_
    obtain ⟨q5, hq5, hf⟩ := cl_inv hf
    refine r_callVv (bc := [wX1 g o0 ad0 t2.2.1, wF g (ad0 3) 6 t2.2.2.1, wX2 g o2 ad2 s2, wX5 g o4 ad4 t2.2.2.2]) (br := [wX0 g o3 ad3 s3]) (bs' := [wX1 g o0 ad0 q5.1, wF g (ad0 3) 6 q5.2.1, wX2 g o2 ad2 s2, wX0 g o3 ad3 s3, wX5 g o4 ad4 q5.2.2]) (As := [.ref o2, .ref o4, .int t2.1]) (rest := []) X hG hl.1 (c_X1_sendPeople g l o0 ad0 o2 ad2 o4 ad4 n t2.1 t2.2.1 t2.2.2.1 s2 t2.2.2.2 q5 hq5) ((blk_perm2 [0, 1, 2, 4, 3] 5 rfl rfl (by decide)).flatten) ((blk_perm2 [0, 1, 2, 4, 3] 5 rfl rfl (by decide)).flatten) lk_X1_sendPeople lv_X1_sendPeople ml_1_95 (j := 0) (k := 0) rfl rfl rfl rfl rfl ⟨Nat.le_of_ble_eq_true rfl, Nat.le_of_ble_eq_true rfl⟩ rfl rfl (Nat.le_of_ble_eq_true rfl) ⟨Nat.zero_le _, Nat.zero_le _⟩ dX1_run_23 (fun H locs hG => ?_)
    refine lv_aload_n hx hb dX1_run_26 rfl (lv_at hl 1 rfl) ?_
    refine lv_iload hx hb dX1_run_27 (lv_at hl 5 rfl) ?_
    obtain ⟨q6, hq6, hf⟩ := cl_inv hf
    refine r_callVi (bc := [wX2 g o2 ad2 s2]) (br := [wX1 g o0 ad0 q5.1, wF g (ad0 3) 6 q5.2.1, wX0 g o3 ad3 s3, wX5 g o4 ad4 q5.2.2]) (bs' := [wX1 g o0 ad0 q5.1, wF g (ad0 3) 6 q5.2.1, wX2 g o2 ad2 s2, wX0 g o3 ad3 s3, wX5 g o4 ad4 q5.2.2]) (As := [.int t2.1]) (rest := []) X hG hl.1 (c_X2_isShutIn g l o2 ad2 n t2.1 s2 q6 hq6) ((blk_perm2 [2, 0, 1, 3, 4] 5 rfl rfl (by decide)).flatten) ((blk_perm2 [1, 2, 0, 3, 4] 5 rfl rfl (by decide)).flatten) lk_X2_isShutIn lv_X2_isShutIn ml_1_99 (j := 2) (k := 0) rfl rfl rfl rfl rfl ⟨Nat.le_of_ble_eq_true rfl, Nat.le_of_ble_eq_true rfl⟩ rfl rfl (Nat.le_of_ble_eq_true rfl) ⟨Nat.zero_le _, Nat.zero_le _⟩ dX1_run_29 (fun H locs hG => ?_)
    refine jn_use (P := fun (t7 : MS × MS × MS) => ∀ (H : Heap) (locs : List Loc) (ls : Array Slot), GM g A s.heap H locs [wX1 g o0 ad0 t7.1, wF g (ad0 3) 6 t7.2.1, wX2 g o2 ad2 s2, wX0 g o3 ad3 s3, wX5 g o4 ad4 t7.2.2] → lv_has ls 6 [(0, .ref o0), (1, .ref o2), (2, .ref o3), (3, .int a3), (4, .ref o4), (5, .int t2.1)] → W p l e rmX1_run s m args below meth c H locs 0 0 Q (F0 m 46 ls [])) hf (fun t7 hf H locs ls hG hl => ?_) (fun K8 hK8 hf => ?_)
    · refine lv_aload_n hx hb dX1_run_46 rfl (lv_at hl 0 rfl) ?_
      refine lv_aload_n hx hb dX1_run_47 rfl (lv_at hl 1 rfl) ?_
      refine lv_iload hx hb dX1_run_48 (lv_at hl 5 rfl) ?_
      obtain ⟨q9, hq9, hf⟩ := cl_inv hf
      refine r_callVv (bc := [wX1 g o0 ad0 t7.1, wX2 g o2 ad2 s2]) (br := [wF g (ad0 3) 6 t7.2.1, wX0 g o3 ad3 s3, wX5 g o4 ad4 t7.2.2]) (bs' := [wX1 g o0 ad0 q9, wF g (ad0 3) 6 t7.2.1, wX2 g o2 ad2 s2, wX0 g o3 ad3 s3, wX5 g o4 ad4 t7.2.2]) (As := [.ref o2, .int t2.1]) (rest := []) X hG hl.1 (c_X1_endMinute g l o0 ad0 o2 ad2 n t2.1 t7.1 s2 q9 hq9) ((blk_perm2 [0, 2, 1, 3, 4] 5 rfl rfl (by decide)).flatten) ((blk_perm2 [0, 2, 1, 3, 4] 5 rfl rfl (by decide)).flatten) lk_X1_endMinute lv_X1_endMinute ml_1_107 (j := 0) (k := 0) rfl rfl rfl rfl rfl ⟨Nat.le_of_ble_eq_true rfl, Nat.le_of_ble_eq_true rfl⟩ rfl rfl (Nat.le_of_ble_eq_true rfl) ⟨Nat.zero_le _, Nat.zero_le _⟩ dX1_run_50 (fun H locs hG => ?_)
      refine lv_iinc (v := (t2.1 + 1)) (lv' := [(5, .int (t2.1 + 1)), (0, .ref o0), (1, .ref o2), (2, .ref o3), (3, .int a3), (4, .ref o4)]) hx hb dX1_run_53 hl (k := 5) rfl rfl (by decide) rfl (fun ls hl => ?_)
      refine lv_goto (tgt := 8) hx hb dX1_run_56 (by decide) ?_
      exact hK3 _ hf _ _ _ hG (lv_sub hl [1, 2, 3, 4, 5, 0] rfl)
    refine lv_if_ne (tgt := 46) hx hb dX1_run_32 (by decide) (fun hc10 => ?_) (fun hc10 => ?_)
    · replace hf := ite_f hf hc10
      exact hK8 _ hf _ _ _ hG (lv_sub hl [0, 1, 2, 3, 4, 5] rfl)
    · replace hf := ite_t hf hc10
      refine lv_aload_n hx hb dX1_run_35 rfl (lv_at hl 0 rfl) ?_
      refine lv_aload_n hx hb dX1_run_36 rfl (lv_at hl 1 rfl) ?_
      refine lv_aload_n hx hb dX1_run_37 rfl (lv_at hl 2 rfl) ?_
      refine lv_iload_n hx hb dX1_run_38 rfl (lv_at hl 3 rfl) ?_
      refine lv_aload hx hb dX1_run_39 (lv_at hl 4 rfl) ?_
      refine lv_iload hx hb dX1_run_41 (lv_at hl 5 rfl) ?_
      obtain ⟨q11, hq11, hf⟩ := cl_inv hf
      refine r_callVv (bc := [wX1 g o0 ad0 q5.1, wF g (ad0 3) 6 q5.2.1, wX2 g o2 ad2 s2, wX0 g o3 ad3 s3, wX5 g o4 ad4 q5.2.2]) (br := []) (bs' := [wX1 g o0 ad0 q11.1, wF g (ad0 3) 6 q11.2.1, wX2 g o2 ad2 s2, wX0 g o3 ad3 s3, wX5 g o4 ad4 q11.2.2]) (As := [.ref o2, .ref o3, .int a3, .ref o4, .int t2.1]) (rest := []) X hG hl.1 (c_X1_sendCars g l o0 ad0 o2 ad2 o3 ad3 o4 ad4 n a3 t2.1 q5.1 q5.2.1 s2 s3 q5.2.2 q11 hq11) (List.Perm.refl _) (List.Perm.refl _) lk_X1_sendCars lv_X1_sendCars ml_1_103 (j := 0) (k := 0) rfl rfl rfl rfl rfl ⟨Nat.le_of_ble_eq_true rfl, Nat.le_of_ble_eq_true rfl⟩ rfl rfl (Nat.le_of_ble_eq_true rfl) ⟨Nat.zero_le _, Nat.zero_le _⟩ dX1_run_43 (fun H locs hG => ?_)
      exact hK8 _ hf _ _ _ hG (lv_sub hl [0, 1, 2, 3, 4, 5] rfl)
def rmX1_rodeInAll : Room := { frames := 0, cells := 0, slots := 0, locals := 0 }
set_option maxHeartbeats 4000000 in
set_option maxRecDepth 100000 in
theorem c_X1_rodeInAll (g : GT) (l : Launch) (o0 : Nat) (ad0 : Nat → Nat) (o1 : Nat) (ad1 : Nat → Nat) (n : Nat) (s0 : MS) (s1 : MS) (q : Int32) (hf : f_X1_rodeInAll n s0 s1 = some q) : CI g l yX1_rodeInAll cX1_rodeInAll 4 (some .int) rmX1_rodeInAll [.ref o0, .ref o1] [wX1 g o0 ad0 s0, wX2 g o1 ad1 s1] q [wX1 g o0 ad0 s0, wX2 g o1 ad1 s1] := by
  refine CI_intro RX1 rfl (by decide +kernel) (Nat.le_of_ble_eq_true rfl) ?_
  intro p e s m args below meth c A ls Q hQ X hl hG
  have hl : lv_has ls 4 [(0, .ref o0), (1, .ref o1)] := hl
  have hx := X.1
  have hb := X.2.1
  have hown := X.2.2.2.1
  unfold f_X1_rodeInAll at hf
  refine lv_iconst (v := 0) hx hb dX1_rodeInAll_0 (by decide) ?_
  refine lv_istore_n (lv' := [(2, .int 0), (0, .ref o0), (1, .ref o1)]) hx hb dX1_rodeInAll_1 rfl hl (by decide) rfl (fun ls hl => ?_)
  refine lv_iconst (v := 0) hx hb dX1_rodeInAll_2 (by decide) ?_
  refine lv_istore_n (lv' := [(3, .int 0), (2, .int 0), (0, .ref o0), (1, .ref o1)]) hx hb dX1_rodeInAll_3 rfl hl (by decide) rfl (fun ls hl => ?_)
  refine lp_go (P := fun (t1 : Int32 × Int32) => ∀ (H : Heap) (locs : List Loc) (ls : Array Slot), GM g A s.heap H locs [wX1 g o0 ad0 s0, wX2 g o1 ad1 s1] → lv_has ls 4 [(0, .ref o0), (1, .ref o1), (2, .int t1.1), (3, .int t1.2)] → W p l e rmX1_rodeInAll s m args below meth c H locs 0 0 Q (F0 m 4 ls [])) hf (fun K2 hK2 t1 hf H locs ls hG hl => ?_) _ _ _ hG (lv_sub hl [2, 3, 1, 0] rfl)
  refine lv_iload_n hx hb dX1_rodeInAll_4 rfl (lv_at hl 3 rfl) ?_
  refine lv_aload_n hx hb dX1_rodeInAll_5 rfl (lv_at hl 1 rfl) ?_
  refine G_1_68 X hG 1 rfl dX1_rodeInAll_6 ?_
  refine lv_icmp_ge (tgt := 27) hx hb dX1_rodeInAll_9 (by decide) (fun hc3 => ?_) (fun hc3 => ?_)
  · replace hf := ite_t hf hc3
    refine lv_iload_n hx hb dX1_rodeInAll_27 rfl (lv_at hl 2 rfl) ?_
    have hq9 := Option.some.inj hf
    subst hq9
    subst hQ
    exact r_iret X hG dX1_rodeInAll_28
  · replace hf := ite_f hf hc3
    refine lv_iload_n hx hb dX1_rodeInAll_12 rfl (lv_at hl 2 rfl) ?_
    refine lv_aload_n hx hb dX1_rodeInAll_13 rfl (lv_at hl 0 rfl) ?_
    refine G_1_35 X hG 0 rfl dX1_rodeInAll_14 ?_
    refine lv_iload_n hx hb dX1_rodeInAll_17 rfl (lv_at hl 3 rfl) ?_
    refine r_iald X hG 0 6 rfl rfl hf dX1_rodeInAll_18 (fun x4 hf => ?_)
    refine lv_iadd hx hb dX1_rodeInAll_19 ?_
    refine r_bni hf (fun x5 hf => ?_)
    refine lv_istore_n (lv' := [(2, .int x5), (0, .ref o0), (1, .ref o1), (3, .int t1.2)]) hx hb dX1_rodeInAll_20 rfl hl (by decide) rfl (fun ls hl => ?_)
    refine lv_iinc (v := (t1.2 + 1)) (lv' := [(3, .int (t1.2 + 1)), (2, .int x5), (0, .ref o0), (1, .ref o1)]) hx hb dX1_rodeInAll_21 hl (k := 3) rfl rfl (by decide) rfl (fun ls hl => ?_)
    refine lv_goto (tgt := 4) hx hb dX1_rodeInAll_24 (by decide) ?_
    exact hK2 _ hf _ _ _ hG (lv_sub hl [2, 3, 1, 0] rfl)
def rmX1_leftOf : Room := { frames := 1, cells := 0, slots := 0, locals := 23 }
set_option maxHeartbeats 4000000 in
set_option maxRecDepth 100000 in
theorem c_X1_leftOf (g : GT) (l : Launch) (o0 : Nat) (ad0 : Nat → Nat) (o1 : Nat) (ad1 : Nat → Nat) (n : Nat) (a2 : Int32) (s0 : MS) (s1 : MS) (q : Int32) (hf : f_X1_leftOf n a2 s0 s1 = some q) : CI g l yX1_leftOf cX1_leftOf 3 (some .int) rmX1_leftOf [.ref o0, .ref o1, .int a2] [wX1 g o0 ad0 s0, wX2 g o1 ad1 s1] q [wX1 g o0 ad0 s0, wX2 g o1 ad1 s1] := by
  refine CI_intro RX1 rfl (by decide +kernel) (Nat.le_of_ble_eq_true rfl) ?_
  intro p e s m args below meth c A ls Q hQ X hl hG
  have hl : lv_has ls 3 [(0, .ref o0), (1, .ref o1), (2, .int a2)] := hl
  have hx := X.1
  have hb := X.2.1
  have hown := X.2.2.2.1
  unfold f_X1_leftOf at hf
  refine lv_iload_n hx hb dX1_leftOf_0 rfl (lv_at hl 2 rfl) ?_
  refine lv_iconst (v := (-1)) hx hb dX1_leftOf_1 (by decide) ?_
  refine lv_icmp_ne (tgt := 18) hx hb dX1_leftOf_2 (by decide) (fun hc1 => ?_) (fun hc1 => ?_)
  · replace hf := ite_f hf hc1
    refine lv_aload_n hx hb dX1_leftOf_18 rfl (lv_at hl 1 rfl) ?_
    refine G_1_111 X hG 1 rfl dX1_leftOf_19 ?_
    refine lv_iload_n hx hb dX1_leftOf_22 rfl (lv_at hl 2 rfl) ?_
    refine r_iald X hG 1 1 rfl rfl hf dX1_leftOf_23 (fun x2 hf => ?_)
    refine lv_aload_n hx hb dX1_leftOf_24 rfl (lv_at hl 0 rfl) ?_
    refine G_1_35 X hG 0 rfl dX1_leftOf_25 ?_
    refine lv_iload_n hx hb dX1_leftOf_28 rfl (lv_at hl 2 rfl) ?_
    refine r_iald X hG 0 6 rfl rfl hf dX1_leftOf_29 (fun x3 hf => ?_)
    refine lv_isub hx hb dX1_leftOf_30 ?_
    have hq9 := Option.some.inj hf
    subst hq9
    subst hQ
    exact r_iret X hG dX1_leftOf_31
  · replace hf := ite_t hf hc1
    refine lv_aload_n hx hb dX1_leftOf_5 rfl (lv_at hl 1 rfl) ?_
    obtain ⟨q4, hq4, hf⟩ := cl_inv hf
    refine r_callVi (bc := [wX2 g o1 ad1 s1]) (br := [wX1 g o0 ad0 s0]) (bs' := [wX1 g o0 ad0 s0, wX2 g o1 ad1 s1]) (As := []) (rest := []) X hG hl.1 (c_X2_allUp g l o1 ad1 n s1 q4 hq4) ((blk_perm2 [1, 0] 2 rfl rfl (by decide)).flatten) ((blk_perm2 [1, 0] 2 rfl rfl (by decide)).flatten) lk_X2_allUp lv_X2_allUp ml_1_169 (j := 1) (k := 0) rfl rfl rfl rfl rfl ⟨Nat.le_of_ble_eq_true rfl, Nat.le_of_ble_eq_true rfl⟩ rfl rfl (Nat.le_of_ble_eq_true rfl) ⟨Nat.zero_le _, Nat.zero_le _⟩ dX1_leftOf_6 (fun H locs hG => ?_)
    refine lv_aload_n hx hb dX1_leftOf_9 rfl (lv_at hl 0 rfl) ?_
    refine lv_aload_n hx hb dX1_leftOf_10 rfl (lv_at hl 1 rfl) ?_
    obtain ⟨q5, hq5, hf⟩ := cl_inv hf
    refine r_callVi (bc := [wX1 g o0 ad0 s0, wX2 g o1 ad1 s1]) (br := []) (bs' := [wX1 g o0 ad0 s0, wX2 g o1 ad1 s1]) (As := [.ref o1]) (rest := [.int q4]) X hG hl.1 (c_X1_rodeInAll g l o0 ad0 o1 ad1 n s0 s1 q5 hq5) (List.Perm.refl _) (List.Perm.refl _) lk_X1_rodeInAll lv_X1_rodeInAll ml_1_173 (j := 0) (k := 0) rfl rfl rfl rfl rfl ⟨Nat.le_of_ble_eq_true rfl, Nat.le_of_ble_eq_true rfl⟩ rfl rfl (Nat.le_of_ble_eq_true rfl) ⟨Nat.zero_le _, Nat.zero_le _⟩ dX1_leftOf_11 (fun H locs hG => ?_)
    refine lv_isub hx hb dX1_leftOf_14 ?_
    refine lv_goto (tgt := 31) hx hb dX1_leftOf_15 (by decide) ?_
    have hq9 := Option.some.inj hf
    subst hq9
    subst hQ
    exact r_iret X hG dX1_leftOf_31
def rmX1_downBehind : Room := { frames := 0, cells := 0, slots := 0, locals := 0 }
set_option maxHeartbeats 4000000 in
set_option maxRecDepth 100000 in
theorem c_X1_downBehind (g : GT) (l : Launch) (o0 : Nat) (ad0 : Nat → Nat) (o1 : Nat) (ad1 : Nat → Nat) (n : Nat) (a2 : Int32) (a3 : Int32) (s0 : MS) (s1 : MS) (q : Int32) (hf : f_X1_downBehind n a2 a3 s0 s1 = some q) : CI g l yX1_downBehind cX1_downBehind 6 (some .int) rmX1_downBehind [.ref o0, .ref o1, .int a2, .int a3] [wX1 g o0 ad0 s0, wX2 g o1 ad1 s1] q [wX1 g o0 ad0 s0, wX2 g o1 ad1 s1] := by
  refine CI_intro RX1 rfl (by decide +kernel) (Nat.le_of_ble_eq_true rfl) ?_
  intro p e s m args below meth c A ls Q hQ X hl hG
  have hl : lv_has ls 6 [(0, .ref o0), (1, .ref o1), (2, .int a2), (3, .int a3)] := hl
  have hx := X.1
  have hb := X.2.1
  have hown := X.2.2.2.1
  unfold f_X1_downBehind at hf
  refine lv_iload_n hx hb dX1_downBehind_0 rfl (lv_at hl 2 rfl) ?_
  refine lv_iconst (v := (-1)) hx hb dX1_downBehind_1 (by decide) ?_
  refine lv_icmp_eq (tgt := 14) hx hb dX1_downBehind_2 (by decide) (fun hc1 => ?_) (fun hc1 => ?_)
  · replace hf := ite_t hf hc1
    refine lv_iconst (v := 0) hx hb dX1_downBehind_14 (by decide) ?_
    refine lv_istore (lv' := [(4, .int 0), (0, .ref o0), (1, .ref o1), (2, .int a2), (3, .int a3)]) hx hb dX1_downBehind_15 hl (by decide) rfl (fun ls hl => ?_)
    refine lv_iconst (v := 0) hx hb dX1_downBehind_17 (by decide) ?_
    refine lv_istore (lv' := [(5, .int 0), (4, .int 0), (0, .ref o0), (1, .ref o1), (2, .int a2), (3, .int a3)]) hx hb dX1_downBehind_18 hl (by decide) rfl (fun ls hl => ?_)
    refine lp_go (P := fun (t2 : Int32 × Int32) => ∀ (H : Heap) (locs : List Loc) (ls : Array Slot), GM g A s.heap H locs [wX1 g o0 ad0 s0, wX2 g o1 ad1 s1] → lv_has ls 6 [(0, .ref o0), (1, .ref o1), (3, .int a3), (4, .int t2.1), (5, .int t2.2)] → W p l e rmX1_downBehind s m args below meth c H locs 0 0 Q (F0 m 20 ls [])) hf (fun K3 hK3 t2 hf H locs ls hG hl => ?_) _ _ _ hG (lv_sub hl [2, 3, 5, 1, 0] rfl)
    refine lv_iload hx hb dX1_downBehind_20 (lv_at hl 4 rfl) ?_
    refine lv_aload_n hx hb dX1_downBehind_22 rfl (lv_at hl 1 rfl) ?_
    refine G_1_68 X hG 1 rfl dX1_downBehind_23 ?_
    refine lv_icmp_ge (tgt := 49) hx hb dX1_downBehind_26 (by decide) (fun hc4 => ?_) (fun hc4 => ?_)
    · replace hf := ite_t hf hc4
      refine lv_iload hx hb dX1_downBehind_49 (lv_at hl 3 rfl) ?_
      have hq9 := Option.some.inj hf
      subst hq9
      subst hQ
      exact r_iret X hG dX1_downBehind_51
    · replace hf := ite_f hf hc4
      refine lv_iload hx hb dX1_downBehind_29 (lv_at hl 3 rfl) ?_
      refine lv_aload_n hx hb dX1_downBehind_31 rfl (lv_at hl 0 rfl) ?_
      refine G_1_38 X hG 0 rfl dX1_downBehind_32 ?_
      refine lv_iload hx hb dX1_downBehind_35 (lv_at hl 4 rfl) ?_
      refine r_aald2 X hG 0 15 rfl rfl hf dX1_downBehind_37 (fun hb5 hf => ?_)
      refine W.eq (g2 := F0 m 38 ls [.ref (ad0 (30 + Int32.toNatClampNeg t2.2)), .int t2.1]) rfl ?_
      refine lv_iload_n hx hb dX1_downBehind_38 rfl (lv_at hl 2 rfl) ?_
      refine r_iald X hG 0 (16 + Int32.toNatClampNeg t2.2) rfl (wX1_row8 _ _ _ _ (ib_lt hb5)) hf dX1_downBehind_39 (fun x6 hf => ?_)
      refine lv_iadd hx hb dX1_downBehind_40 ?_
      refine r_bni hf (fun x7 hf => ?_)
      refine lv_istore (lv' := [(4, .int x7), (0, .ref o0), (1, .ref o1), (3, .int a3), (5, .int t2.2)]) hx hb dX1_downBehind_41 hl (by decide) rfl (fun ls hl => ?_)
      refine lv_iinc (v := (t2.2 + 1)) (lv' := [(5, .int (t2.2 + 1)), (4, .int x7), (0, .ref o0), (1, .ref o1), (3, .int a3)]) hx hb dX1_downBehind_43 hl (k := 4) rfl rfl (by decide) rfl (fun ls hl => ?_)
      refine lv_goto (tgt := 20) hx hb dX1_downBehind_46 (by decide) ?_
      exact hK3 _ hf _ _ _ hG (lv_sub hl [2, 3, 4, 1, 0] rfl)
  · replace hf := ite_f hf hc1
    refine lv_aload_n hx hb dX1_downBehind_5 rfl (lv_at hl 0 rfl) ?_
    refine G_1_38 X hG 0 rfl dX1_downBehind_6 ?_
    refine lv_iload_n hx hb dX1_downBehind_9 rfl (lv_at hl 2 rfl) ?_
    refine r_aald2 X hG 0 15 rfl rfl hf dX1_downBehind_10 (fun hb8 hf => ?_)
    refine W.eq (g2 := F0 m 11 ls [.ref (ad0 (30 + Int32.toNatClampNeg a2))]) rfl ?_
    refine lv_iload_n hx hb dX1_downBehind_11 rfl (lv_at hl 3 rfl) ?_
    refine r_iald X hG 0 (16 + Int32.toNatClampNeg a2) rfl (wX1_row8 _ _ _ _ (ib_lt hb8)) hf dX1_downBehind_12 (fun x9 hf => ?_)
    have hq9 := Option.some.inj hf
    subst hq9
    subst hQ
    exact r_iret X hG dX1_downBehind_13
def rmX1_harmDone : Room := { frames := 2, cells := 0, slots := 0, locals := 52 }
set_option maxHeartbeats 4000000 in
set_option maxRecDepth 100000 in
theorem c_X1_harmDone (g : GT) (l : Launch) (o0 : Nat) (ad0 : Nat → Nat) (o2 : Nat) (ad2 : Nat → Nat) (o3 : Nat) (ad3 : Nat → Nat) (n : Nat) (s0 : MS) (s1 : MS) (s2 : MS) (s3 : MS) (q : Int64 × MS × MS) (hf : f_X1_harmDone n s0 s1 s2 s3 = some q) : CL g l yX1_harmDone cX1_harmDone 6 (some .long) rmX1_harmDone [.ref o0, .ref o2, .ref o3] [wX1 g o0 ad0 s0, wF g (ad0 3) 6 s1, wX2 g o2 ad2 s2, wX5 g o3 ad3 s3] q.1 [wX1 g o0 ad0 s0, wF g (ad0 3) 6 q.2.1, wX2 g o2 ad2 s2, wX5 g o3 ad3 q.2.2] := by
  refine CL_intro RX1 rfl (by decide +kernel) (Nat.le_of_ble_eq_true rfl) ?_
  intro p e s m args below meth c A ls Q hQ X hl hG
  have hl : lv_has ls 6 [(0, .ref o0), (1, .ref o2), (2, .ref o3)] := hl
  have hx := X.1
  have hb := X.2.1
  have hown := X.2.2.2.1
  unfold f_X1_harmDone at hf
  refine lv_lconst (v := 0) hx hb dX1_harmDone_0 (by decide) ?_
  refine lv_lstore_n (lv' := [(3, .long 0), (0, .ref o0), (1, .ref o2), (2, .ref o3)]) hx hb dX1_harmDone_1 rfl hl (by decide) rfl (fun ls hl => ?_)
  refine lv_aload_n hx hb dX1_harmDone_2 rfl (lv_at hl 1 rfl) ?_
  refine G_1_21 X hG 0 rfl dX1_harmDone_3 ?_
  refine lv_iconst (v := 0) hx hb dX1_harmDone_6 (by decide) ?_
  refine r_fill (idx := 112) X hG hl.1 (TW_at 597 (by decide +kernel) (by decide +kernel)) 1 0 rfl rfl hf (fun t => [wX1 g o0 ad0 s0, wF g (ad0 3) 6 t, wX2 g o2 ad2 s2, wX5 g o3 ad3 s3]) rfl (by decide) (Nat.le_of_ble_eq_true rfl) (Nat.le_of_ble_eq_true rfl) (Nat.le_of_ble_eq_true rfl) ⟨Nat.zero_le _, Nat.zero_le _⟩ dX1_harmDone_7 (fun z1 H locs hf hG => ?_)
  refine lv_aload_n hx hb dX1_harmDone_10 rfl (lv_at hl 1 rfl) ?_
  refine G_1_21 X hG 0 rfl dX1_harmDone_11 ?_
  refine lv_iconst (v := 1) hx hb dX1_harmDone_14 (by decide) ?_
  refine lv_aload_n hx hb dX1_harmDone_15 rfl (lv_at hl 1 rfl) ?_
  refine G_1_41 X hG 0 rfl dX1_harmDone_16 ?_
  refine r_iast X hG 1 0 rfl rfl hf (fun t => [wX1 g o0 ad0 s0, wF g (ad0 3) 6 t, wX2 g o2 ad2 s2, wX5 g o3 ad3 s3]) rfl dX1_harmDone_19 (fun z2 H locs hf hG => ?_)
  refine lv_iconst (v := 0) hx hb dX1_harmDone_20 (by decide) ?_
  refine lv_istore (lv' := [(5, .int 0), (3, .long 0), (0, .ref o0), (1, .ref o2), (2, .ref o3)]) hx hb dX1_harmDone_21 hl (by decide) rfl (fun ls hl => ?_)
  refine lp_go (P := fun (t3 : Int64 × Int32 × MS × MS) => ∀ (H : Heap) (locs : List Loc) (ls : Array Slot), GM g A s.heap H locs [wX1 g o0 ad0 s0, wF g (ad0 3) 6 t3.2.2.1, wX2 g o2 ad2 s2, wX5 g o3 ad3 t3.2.2.2] → lv_has ls 6 [(0, .ref o0), (1, .ref o2), (2, .ref o3), (3, .long t3.1), (5, .int t3.2.1)] → W p l e rmX1_harmDone s m args below meth c H locs 0 0 Q (F0 m 23 ls [])) hf (fun K4 hK4 t3 hf H locs ls hG hl => ?_) _ _ _ hG (lv_sub hl [2, 3, 4, 1, 0] rfl)
  refine lv_iload hx hb dX1_harmDone_23 (lv_at hl 4 rfl) ?_
  refine lv_aload_n hx hb dX1_harmDone_25 rfl (lv_at hl 1 rfl) ?_
  refine G_1_68 X hG 2 rfl dX1_harmDone_26 ?_
  refine lv_icmp_ge (tgt := 79) hx hb dX1_harmDone_29 (by decide) (fun hc5 => ?_) (fun hc5 => ?_)
  · replace hf := ite_t hf hc5
    refine lv_lload_n hx hb dX1_harmDone_79 rfl (lv_at hl 3 rfl) ?_
    have hq9 := Option.some.inj hf
    subst hq9
    subst hQ
    exact r_lret X hG dX1_harmDone_80
  · replace hf := ite_f hf hc5
    refine lv_aload_n hx hb dX1_harmDone_32 rfl (lv_at hl 0 rfl) ?_
    refine G_1_21 X hG 0 rfl dX1_harmDone_33 ?_
    refine lv_iconst (v := 0) hx hb dX1_harmDone_36 (by decide) ?_
    refine lv_aload_n hx hb dX1_harmDone_37 rfl (lv_at hl 0 rfl) ?_
    refine G_1_24 X hG 0 rfl dX1_harmDone_38 ?_
    refine lv_iload hx hb dX1_harmDone_41 (lv_at hl 4 rfl) ?_
    refine r_iald X hG 0 4 rfl rfl hf dX1_harmDone_43 (fun x6 hf => ?_)
    refine r_iast X hG 1 0 rfl rfl hf (fun t => [wX1 g o0 ad0 s0, wF g (ad0 3) 6 t, wX2 g o2 ad2 s2, wX5 g o3 ad3 t3.2.2.2]) rfl dX1_harmDone_44 (fun z7 H locs hf hG => ?_)
    refine lv_lload_n hx hb dX1_harmDone_45 rfl (lv_at hl 3 rfl) ?_
    refine lv_aload_n hx hb dX1_harmDone_46 rfl (lv_at hl 2 rfl) ?_
    refine lv_iconst (v := 2) hx hb dX1_harmDone_47 (by decide) ?_
    refine lv_aload_n hx hb dX1_harmDone_48 rfl (lv_at hl 0 rfl) ?_
    refine G_1_21 X hG 0 rfl dX1_harmDone_49 ?_
    obtain ⟨q8, hq8, hf⟩ := cl_inv hf
    refine r_callVi (bc := [wX5 g o3 ad3 t3.2.2.2, wF g (ad0 3) 6 z7]) (br := [wX1 g o0 ad0 s0, wX2 g o2 ad2 s2]) (bs' := [wX1 g o0 ad0 s0, wF g (ad0 3) 6 z7, wX2 g o2 ad2 s2, wX5 g o3 ad3 q8.2]) (As := [.int 2, .ref (ad0 3)]) (rest := [.long t3.1]) X hG hl.1 (c_X5_value g l o3 ad3 (ad0 3) n 2 t3.2.2.2 z7 q8 hq8) ((blk_perm2 [3, 1, 0, 2] 4 rfl rfl (by decide)).flatten) ((blk_perm2 [2, 1, 3, 0] 4 rfl rfl (by decide)).flatten) lk_X5_value lv_X5_value ml_1_126 (j := 3) (k := 0) rfl rfl rfl rfl rfl ⟨Nat.le_of_ble_eq_true rfl, Nat.le_of_ble_eq_true rfl⟩ rfl rfl (Nat.le_of_ble_eq_true rfl) ⟨Nat.zero_le _, Nat.zero_le _⟩ dX1_harmDone_52 (fun H locs hG => ?_)
    refine lv_iconst (v := 0) hx hb dX1_harmDone_55 (by decide) ?_
    refine lv_bipush (v := 99) hx hb dX1_harmDone_56 (by decide) ?_
    obtain ⟨q9, hq9, hf⟩ := cl_inv hf
    refine r_callNi (bc := []) (br := [wX1 g o0 ad0 s0, wF g (ad0 3) 6 z7, wX2 g o2 ad2 s2, wX5 g o3 ad3 q8.2]) (bs' := [wX1 g o0 ad0 s0, wF g (ad0 3) 6 z7, wX2 g o2 ad2 s2, wX5 g o3 ad3 q8.2]) (As := [.int q8.1, .int 0, .int 99]) (rest := [.long t3.1]) X hG hl.1 (c_X7_bounded g l n q8.1 0 99 q9 hq9) (List.Perm.refl _) (List.Perm.refl _) lk_X7_bounded ls_X7_bounded mn_1_132 rfl rfl ⟨Nat.le_of_ble_eq_true rfl, Nat.le_of_ble_eq_true rfl⟩ rfl rfl (Nat.le_of_ble_eq_true rfl) ⟨Nat.zero_le _, Nat.zero_le _⟩ dX1_harmDone_58 (fun H locs hG => ?_)
    refine lv_i2l hx hb dX1_harmDone_61 rfl ?_
    refine lv_aload_n hx hb dX1_harmDone_62 rfl (lv_at hl 0 rfl) ?_
    refine lv_aload_n hx hb dX1_harmDone_63 rfl (lv_at hl 1 rfl) ?_
    refine lv_iload hx hb dX1_harmDone_64 (lv_at hl 4 rfl) ?_
    obtain ⟨q10, hq10, hf⟩ := cl_inv hf
    refine r_callVi (bc := [wX1 g o0 ad0 s0, wX2 g o2 ad2 s2]) (br := [wF g (ad0 3) 6 z7, wX5 g o3 ad3 q8.2]) (bs' := [wX1 g o0 ad0 s0, wF g (ad0 3) 6 z7, wX2 g o2 ad2 s2, wX5 g o3 ad3 q8.2]) (As := [.ref o2, .int t3.2.1]) (rest := [.long (Int32.toInt64 q9), .long t3.1]) X hG hl.1 (c_X1_leftOf g l o0 ad0 o2 ad2 n t3.2.1 s0 s2 q10 hq10) ((blk_perm2 [0, 2, 1, 3] 4 rfl rfl (by decide)).flatten) ((blk_perm2 [0, 2, 1, 3] 4 rfl rfl (by decide)).flatten) lk_X1_leftOf lv_X1_leftOf ml_1_177 (j := 0) (k := 0) rfl rfl rfl rfl rfl ⟨Nat.le_of_ble_eq_true rfl, Nat.le_of_ble_eq_true rfl⟩ rfl rfl (Nat.le_of_ble_eq_true rfl) ⟨Nat.zero_le _, Nat.zero_le _⟩ dX1_harmDone_66 (fun H locs hG => ?_)
    refine lv_i2l hx hb dX1_harmDone_69 rfl ?_
    refine lv_lmul hx hb dX1_harmDone_70 ?_
    refine lv_ladd hx hb dX1_harmDone_71 ?_
    refine r_bnl hf (fun x11 hf => ?_)
    refine lv_lstore_n (lv' := [(3, .long x11), (0, .ref o0), (1, .ref o2), (2, .ref o3), (5, .int t3.2.1)]) hx hb dX1_harmDone_72 rfl hl (by decide) rfl (fun ls hl => ?_)
    refine lv_iinc (v := (t3.2.1 + 1)) (lv' := [(5, .int (t3.2.1 + 1)), (3, .long x11), (0, .ref o0), (1, .ref o2), (2, .ref o3)]) hx hb dX1_harmDone_73 hl (k := 4) rfl rfl (by decide) rfl (fun ls hl => ?_)
    refine lv_goto (tgt := 23) hx hb dX1_harmDone_76 (by decide) ?_
    exact hK4 _ hf _ _ _ hG (lv_sub hl [2, 3, 4, 1, 0] rfl)
