def rmX8_in : Room := { frames := 0, cells := 0, slots := 0, locals := 0 }
set_option maxHeartbeats 4000000 in
set_option maxRecDepth 100000 in
theorem c_X8_in (g : GT) (l : Launch) (n : Nat) (a1 : Int32) (a2 : Int32) (a3 : Int32) (q : Int32) (hf : f_X8_in n a1 a2 a3 = some q) : CI g l yX8_in cX8_in 3 (some .boolean) rmX8_in [.int a1, .int a2, .int a3] [] q [] := by
  refine CI_intro RX8 rfl (by decide +kernel) (Nat.le_of_ble_eq_true rfl) ?_
  intro p e s m args below meth c A ls Q hQ X hl hG
  have hl : lv_has ls 3 [(0, .int a1), (1, .int a2), (2, .int a3)] := hl
  have hx := X.1
  have hb := X.2.1
  have hown := X.2.2.2.1
  unfold f_X8_in at hf
  refine lv_iload_n hx hb dX8_in_0 rfl (lv_at hl 0 rfl) ?_
  refine lv_iload_n hx hb dX8_in_1 rfl (lv_at hl 1 rfl) ?_
  refine lv_icmp_lt (tgt := 14) hx hb dX8_in_2 (by decide) (fun hc1 => ?_) (fun hc1 => ?_)
  · replace hf := ite_t hf hc1
    refine lv_iconst (v := 0) hx hb dX8_in_14 (by decide) ?_
    obtain ⟨hz, hf⟩ := ck_inv hf
    have hq9 := Option.some.inj hf
    subst hq9
    subst hQ
    exact r_zret X hG (of_decide_eq_true hz) dX8_in_15
  · replace hf := ite_f hf hc1
    refine lv_iload_n hx hb dX8_in_5 rfl (lv_at hl 0 rfl) ?_
    refine lv_iload_n hx hb dX8_in_6 rfl (lv_at hl 2 rfl) ?_
    refine lv_icmp_gt (tgt := 14) hx hb dX8_in_7 (by decide) (fun hc2 => ?_) (fun hc2 => ?_)
    · replace hf := ite_t hf hc2
      refine lv_iconst (v := 0) hx hb dX8_in_14 (by decide) ?_
      obtain ⟨hz, hf⟩ := ck_inv hf
      have hq9 := Option.some.inj hf
      subst hq9
      subst hQ
      exact r_zret X hG (of_decide_eq_true hz) dX8_in_15
    · replace hf := ite_f hf hc2
      refine lv_iconst (v := 1) hx hb dX8_in_10 (by decide) ?_
      refine lv_goto (tgt := 15) hx hb dX8_in_11 (by decide) ?_
      obtain ⟨hz, hf⟩ := ck_inv hf
      have hq9 := Option.some.inj hf
      subst hq9
      subst hQ
      exact r_zret X hG (of_decide_eq_true hz) dX8_in_15
def rmX8_held : Room := { frames := 0, cells := 0, slots := 0, locals := 0 }
set_option maxHeartbeats 4000000 in
set_option maxRecDepth 100000 in
theorem c_X8_held (g : GT) (l : Launch) (n : Nat) (a1 : Int32) (a2 : Int32) (a3 : Int32) (q : Int32) (hf : f_X8_held n a1 a2 a3 = some q) : CI g l yX8_held cX8_held 3 (some .int) rmX8_held [.int a1, .int a2, .int a3] [] q [] := by
  refine CI_intro RX8 rfl (by decide +kernel) (Nat.le_of_ble_eq_true rfl) ?_
  intro p e s m args below meth c A ls Q hQ X hl hG
  have hl : lv_has ls 3 [(0, .int a1), (1, .int a2), (2, .int a3)] := hl
  have hx := X.1
  have hb := X.2.1
  have hown := X.2.2.2.1
  unfold f_X8_held at hf
  refine lv_iload_n hx hb dX8_held_0 rfl (lv_at hl 0 rfl) ?_
  refine lv_iload_n hx hb dX8_held_1 rfl (lv_at hl 1 rfl) ?_
  refine lv_icmp_ge (tgt := 9) hx hb dX8_held_2 (by decide) (fun hc1 => ?_) (fun hc1 => ?_)
  · replace hf := ite_t hf hc1
    refine lv_iload_n hx hb dX8_held_9 rfl (lv_at hl 0 rfl) ?_
    refine lv_iload_n hx hb dX8_held_10 rfl (lv_at hl 2 rfl) ?_
    refine lv_icmp_le (tgt := 18) hx hb dX8_held_11 (by decide) (fun hc2 => ?_) (fun hc2 => ?_)
    · replace hf := ite_t hf hc2
      refine lv_iload_n hx hb dX8_held_18 rfl (lv_at hl 0 rfl) ?_
      have hq9 := Option.some.inj hf
      subst hq9
      subst hQ
      exact r_iret X hG dX8_held_19
    · replace hf := ite_f hf hc2
      refine lv_iload_n hx hb dX8_held_14 rfl (lv_at hl 2 rfl) ?_
      refine lv_goto (tgt := 19) hx hb dX8_held_15 (by decide) ?_
      have hq9 := Option.some.inj hf
      subst hq9
      subst hQ
      exact r_iret X hG dX8_held_19
  · replace hf := ite_f hf hc1
    refine lv_iload_n hx hb dX8_held_5 rfl (lv_at hl 1 rfl) ?_
    refine lv_goto (tgt := 19) hx hb dX8_held_6 (by decide) ?_
    have hq9 := Option.some.inj hf
    subst hq9
    subst hQ
    exact r_iret X hG dX8_held_19
def rmX8_isSort : Room := { frames := 1, cells := 0, slots := 0, locals := 22 }
set_option maxHeartbeats 4000000 in
set_option maxRecDepth 100000 in
theorem c_X8_isSort (g : GT) (l : Launch) (o : Nat) (ad : Nat → Nat) (n : Nat) (a1 : Int32) (s0 : MS) (q : Int32) (hf : f_X8_isSort n a1 s0 = some q) : CI g l yX8_isSort cX8_isSort 2 (some .boolean) rmX8_isSort [.ref o, .int a1] [wX8 g o ad s0] q [wX8 g o ad s0] := by
  refine CI_intro RX8 rfl (by decide +kernel) (Nat.le_of_ble_eq_true rfl) ?_
  intro p e s m args below meth c A ls Q hQ X hl hG
  have hl : lv_has ls 2 [(0, .ref o), (1, .int a1)] := hl
  have hx := X.1
  have hb := X.2.1
  have hown := X.2.2.2.1
  unfold f_X8_isSort at hf
  refine lv_iload_n hx hb dX8_isSort_0 rfl (lv_at hl 1 rfl) ?_
  refine lv_iconst (v := 0) hx hb dX8_isSort_1 (by decide) ?_
  refine lv_aload_n hx hb dX8_isSort_2 rfl (lv_at hl 0 rfl) ?_
  refine G_8_129 X hG 0 rfl dX8_isSort_3 ?_
  refine lv_iconst (v := 1) hx hb dX8_isSort_6 (by decide) ?_
  refine lv_isub hx hb dX8_isSort_7 ?_
  obtain ⟨q1, hq1, hf⟩ := cl_inv hf
  refine r_callSi (bc := []) (br := [wX8 g o ad s0]) (bs' := [wX8 g o ad s0]) (As := [.int a1, .int 0, .int ((s0.1 1) - 1)]) (rest := []) X hG hl.1 (c_X8_in g l  n a1 0 ((s0.1 1) - 1) q1 hq1) (List.Perm.refl _) (List.Perm.refl _) lk_X8_in ls_X8_in ml_8_132 rfl rfl ⟨Nat.le_of_ble_eq_true rfl, Nat.le_of_ble_eq_true rfl⟩ rfl rfl (Nat.le_of_ble_eq_true rfl) ⟨Nat.zero_le _, Nat.zero_le _⟩ dX8_isSort_8 (fun H locs hG => ?_)
  obtain ⟨hz, hf⟩ := ck_inv hf
  have hq9 := Option.some.inj hf
  subst hq9
  subst hQ
  exact r_zret X hG (of_decide_eq_true hz) dX8_isSort_11
def rmX8_isWay : Room := { frames := 1, cells := 0, slots := 0, locals := 22 }
set_option maxHeartbeats 4000000 in
set_option maxRecDepth 100000 in
theorem c_X8_isWay (g : GT) (l : Launch) (o : Nat) (ad : Nat → Nat) (n : Nat) (a1 : Int32) (s0 : MS) (q : Int32) (hf : f_X8_isWay n a1 s0 = some q) : CI g l yX8_isWay cX8_isWay 2 (some .boolean) rmX8_isWay [.ref o, .int a1] [wX8 g o ad s0] q [wX8 g o ad s0] := by
  refine CI_intro RX8 rfl (by decide +kernel) (Nat.le_of_ble_eq_true rfl) ?_
  intro p e s m args below meth c A ls Q hQ X hl hG
  have hl : lv_has ls 2 [(0, .ref o), (1, .int a1)] := hl
  have hx := X.1
  have hb := X.2.1
  have hown := X.2.2.2.1
  unfold f_X8_isWay at hf
  refine lv_iload_n hx hb dX8_isWay_0 rfl (lv_at hl 1 rfl) ?_
  refine lv_iconst (v := 0) hx hb dX8_isWay_1 (by decide) ?_
  refine lv_aload_n hx hb dX8_isWay_2 rfl (lv_at hl 0 rfl) ?_
  refine G_8_136 X hG 0 rfl dX8_isWay_3 ?_
  refine lv_iconst (v := 1) hx hb dX8_isWay_6 (by decide) ?_
  refine lv_isub hx hb dX8_isWay_7 ?_
  obtain ⟨q1, hq1, hf⟩ := cl_inv hf
  refine r_callSi (bc := []) (br := [wX8 g o ad s0]) (bs' := [wX8 g o ad s0]) (As := [.int a1, .int 0, .int ((s0.1 10) - 1)]) (rest := []) X hG hl.1 (c_X8_in g l  n a1 0 ((s0.1 10) - 1) q1 hq1) (List.Perm.refl _) (List.Perm.refl _) lk_X8_in ls_X8_in ml_8_132 rfl rfl ⟨Nat.le_of_ble_eq_true rfl, Nat.le_of_ble_eq_true rfl⟩ rfl rfl (Nat.le_of_ble_eq_true rfl) ⟨Nat.zero_le _, Nat.zero_le _⟩ dX8_isWay_8 (fun H locs hG => ?_)
  obtain ⟨hz, hf⟩ := ck_inv hf
  have hq9 := Option.some.inj hf
  subst hq9
  subst hQ
  exact r_zret X hG (of_decide_eq_true hz) dX8_isWay_11
def rmX8_isMinute : Room := { frames := 1, cells := 0, slots := 0, locals := 22 }
set_option maxHeartbeats 4000000 in
set_option maxRecDepth 100000 in
theorem c_X8_isMinute (g : GT) (l : Launch) (n : Nat) (a1 : Int32) (q : Int32) (hf : f_X8_isMinute n a1 = some q) : CI g l yX8_isMinute cX8_isMinute 1 (some .boolean) rmX8_isMinute [.int a1] [] q [] := by
  refine CI_intro RX8 rfl (by decide +kernel) (Nat.le_of_ble_eq_true rfl) ?_
  intro p e s m args below meth c A ls Q hQ X hl hG
  have hl : lv_has ls 1 [(0, .int a1)] := hl
  have hx := X.1
  have hb := X.2.1
  have hown := X.2.2.2.1
  unfold f_X8_isMinute at hf
  refine lv_iload_n hx hb dX8_isMinute_0 rfl (lv_at hl 0 rfl) ?_
  refine lv_iconst (v := 0) hx hb dX8_isMinute_1 (by decide) ?_
  refine lv_bipush (v := 119) hx hb dX8_isMinute_2 (by decide) ?_
  obtain ⟨q1, hq1, hf⟩ := cl_inv hf
  refine r_callSi (bc := []) (br := []) (bs' := []) (As := [.int a1, .int 0, .int 119]) (rest := []) X hG hl.1 (c_X8_in g l  n a1 0 119 q1 hq1) (List.Perm.refl _) (List.Perm.refl _) lk_X8_in ls_X8_in ml_8_132 rfl rfl ⟨Nat.le_of_ble_eq_true rfl, Nat.le_of_ble_eq_true rfl⟩ rfl rfl (Nat.le_of_ble_eq_true rfl) ⟨Nat.zero_le _, Nat.zero_le _⟩ dX8_isMinute_4 (fun H locs hG => ?_)
  obtain ⟨hz, hf⟩ := ck_inv hf
  have hq9 := Option.some.inj hf
  subst hq9
  subst hQ
  exact r_zret X hG (of_decide_eq_true hz) dX8_isMinute_7
def rmX8_people : Room := { frames := 1, cells := 0, slots := 0, locals := 22 }
set_option maxHeartbeats 4000000 in
set_option maxRecDepth 100000 in
theorem c_X8_people (g : GT) (l : Launch) (o : Nat) (ad : Nat → Nat) (n : Nat) (a1 : Int32) (a2 : Int32) (s0 : MS) (q : Int32 × MS) (hf : f_X8_people n a1 a2 s0 = some q) : CI g l yX8_people cX8_people 3 (some .int) rmX8_people [.ref o, .int a1, .int a2] [wX8 g o ad s0] q.1 [wX8 g o ad q.2] := by
  refine CI_intro RX8 rfl (by decide +kernel) (Nat.le_of_ble_eq_true rfl) ?_
  intro p e s m args below meth c A ls Q hQ X hl hG
  have hl : lv_has ls 3 [(0, .ref o), (1, .int a1), (2, .int a2)] := hl
  have hx := X.1
  have hb := X.2.1
  have hown := X.2.2.2.1
  unfold f_X8_people at hf
  refine lv_iload_n hx hb dX8_people_0 rfl (lv_at hl 1 rfl) ?_
  refine lv_iconst (v := 0) hx hb dX8_people_1 (by decide) ?_
  refine lv_sipush (v := 400) hx hb dX8_people_2 (by decide) ?_
  obtain ⟨q1, hq1, hf⟩ := cl_inv hf
  refine r_callSi (bc := []) (br := [wX8 g o ad s0]) (bs' := [wX8 g o ad s0]) (As := [.int a1, .int 0, .int 400]) (rest := []) X hG hl.1 (c_X8_in g l  n a1 0 400 q1 hq1) (List.Perm.refl _) (List.Perm.refl _) lk_X8_in ls_X8_in ml_8_132 rfl rfl ⟨Nat.le_of_ble_eq_true rfl, Nat.le_of_ble_eq_true rfl⟩ rfl rfl (Nat.le_of_ble_eq_true rfl) ⟨Nat.zero_le _, Nat.zero_le _⟩ dX8_people_5 (fun H locs hG => ?_)
  refine lv_if_eq (tgt := 41) hx hb dX8_people_8 (by decide) (fun hc2 => ?_) (fun hc2 => ?_)
  · replace hf := ite_t hf hc2
    refine lv_bipush (v := (-2)) hx hb dX8_people_41 (by decide) ?_
    have hq9 := Option.some.inj hf
    subst hq9
    subst hQ
    exact r_iret X hG dX8_people_43
  · replace hf := ite_f hf hc2
    refine lv_iload_n hx hb dX8_people_11 rfl (lv_at hl 2 rfl) ?_
    refine lv_if_lt (tgt := 41) hx hb dX8_people_12 (by decide) (fun hc3 => ?_) (fun hc3 => ?_)
    · replace hf := ite_t hf hc3
      refine lv_bipush (v := (-2)) hx hb dX8_people_41 (by decide) ?_
      have hq9 := Option.some.inj hf
      subst hq9
      subst hQ
      exact r_iret X hG dX8_people_43
    · replace hf := ite_f hf hc3
      refine lv_iload_n hx hb dX8_people_15 rfl (lv_at hl 2 rfl) ?_
      refine lv_sipush (v := 1000) hx hb dX8_people_16 (by decide) ?_
      refine r_idiv X hf dX8_people_19 (fun hf => ?_)
      refine lv_bipush (v := 40) hx hb dX8_people_20 (by decide) ?_
      refine lv_icmp_gt (tgt := 41) hx hb dX8_people_22 (by decide) (fun hc4 => ?_) (fun hc4 => ?_)
      · replace hf := ite_t hf hc4
        refine lv_bipush (v := (-2)) hx hb dX8_people_41 (by decide) ?_
        have hq9 := Option.some.inj hf
        subst hq9
        subst hQ
        exact r_iret X hG dX8_people_43
      · replace hf := ite_f hf hc4
        refine lv_iload_n hx hb dX8_people_25 rfl (lv_at hl 2 rfl) ?_
        refine lv_bipush (v := 10) hx hb dX8_people_26 (by decide) ?_
        refine r_idiv X hf dX8_people_28 (fun hf => ?_)
        refine lv_bipush (v := 100) hx hb dX8_people_29 (by decide) ?_
        refine r_irem X hf dX8_people_31 (fun hf => ?_)
        refine lv_iconst (v := 1) hx hb dX8_people_32 (by decide) ?_
        refine lv_bipush (v := 60) hx hb dX8_people_33 (by decide) ?_
        obtain ⟨q5, hq5, hf⟩ := cl_inv hf
        refine r_callSi (bc := []) (br := [wX8 g o ad s0]) (bs' := [wX8 g o ad s0]) (As := [.int ((a2 / 10) - (a2 / 10) / 100 * 100), .int 1, .int 60]) (rest := []) X hG hl.1 (c_X8_in g l  n ((a2 / 10) - (a2 / 10) / 100 * 100) 1 60 q5 hq5) (List.Perm.refl _) (List.Perm.refl _) lk_X8_in ls_X8_in ml_8_132 rfl rfl ⟨Nat.le_of_ble_eq_true rfl, Nat.le_of_ble_eq_true rfl⟩ rfl rfl (Nat.le_of_ble_eq_true rfl) ⟨Nat.zero_le _, Nat.zero_le _⟩ dX8_people_35 (fun H locs hG => ?_)
        refine lv_if_ne (tgt := 44) hx hb dX8_people_38 (by decide) (fun hc6 => ?_) (fun hc6 => ?_)
        · replace hf := ite_f hf hc6
          refine lv_aload_n hx hb dX8_people_44 rfl (lv_at hl 0 rfl) ?_
          refine G_8_129 X hG 0 rfl dX8_people_45 ?_
          refine lv_bipush (v := 6) hx hb dX8_people_48 (by decide) ?_
          refine lv_icmp_ne (tgt := 56) hx hb dX8_people_50 (by decide) (fun hc7 => ?_) (fun hc7 => ?_)
          · replace hf := ite_f hf hc7
            refine lv_aload_n hx hb dX8_people_56 rfl (lv_at hl 0 rfl) ?_
            refine G_8_7 X hG 0 rfl dX8_people_57 ?_
            refine lv_aload_n hx hb dX8_people_60 rfl (lv_at hl 0 rfl) ?_
            refine G_8_129 X hG 0 rfl dX8_people_61 ?_
            refine lv_iload_n hx hb dX8_people_64 rfl (lv_at hl 1 rfl) ?_
            refine r_iast X hG 0 1 rfl rfl hf (fun t => [wX8 g o ad t]) rfl dX8_people_65 (fun z8 H locs hf hG => ?_)
            refine lv_aload_n hx hb dX8_people_66 rfl (lv_at hl 0 rfl) ?_
            refine G_8_13 X hG 0 rfl dX8_people_67 ?_
            refine lv_aload_n hx hb dX8_people_70 rfl (lv_at hl 0 rfl) ?_
            refine G_8_129 X hG 0 rfl dX8_people_71 ?_
            refine lv_iload_n hx hb dX8_people_74 rfl (lv_at hl 2 rfl) ?_
            refine lv_sipush (v := 1000) hx hb dX8_people_75 (by decide) ?_
            refine r_idiv X hf dX8_people_78 (fun hf => ?_)
            refine r_iast X hG 0 2 rfl rfl hf (fun t => [wX8 g o ad t]) rfl dX8_people_79 (fun z9 H locs hf hG => ?_)
            refine lv_aload_n hx hb dX8_people_80 rfl (lv_at hl 0 rfl) ?_
            refine G_8_16 X hG 0 rfl dX8_people_81 ?_
            refine lv_aload_n hx hb dX8_people_84 rfl (lv_at hl 0 rfl) ?_
            refine G_8_129 X hG 0 rfl dX8_people_85 ?_
            refine lv_iload_n hx hb dX8_people_88 rfl (lv_at hl 2 rfl) ?_
            refine lv_bipush (v := 10) hx hb dX8_people_89 (by decide) ?_
            refine r_idiv X hf dX8_people_91 (fun hf => ?_)
            refine lv_bipush (v := 100) hx hb dX8_people_92 (by decide) ?_
            refine r_irem X hf dX8_people_94 (fun hf => ?_)
            refine r_iast X hG 0 3 rfl rfl hf (fun t => [wX8 g o ad t]) rfl dX8_people_95 (fun z10 H locs hf hG => ?_)
            refine lv_aload_n hx hb dX8_people_96 rfl (lv_at hl 0 rfl) ?_
            refine G_8_19 X hG 0 rfl dX8_people_97 ?_
            refine lv_aload_n hx hb dX8_people_100 rfl (lv_at hl 0 rfl) ?_
            refine G_8_129 X hG 0 rfl dX8_people_101 ?_
            refine lv_iload_n hx hb dX8_people_104 rfl (lv_at hl 2 rfl) ?_
            refine lv_bipush (v := 10) hx hb dX8_people_105 (by decide) ?_
            refine r_irem X hf dX8_people_107 (fun hf => ?_)
            refine r_iast X hG 0 4 rfl rfl hf (fun t => [wX8 g o ad t]) rfl dX8_people_108 (fun z11 H locs hf hG => ?_)
            refine lv_aload_n hx hb dX8_people_109 rfl (lv_at hl 0 rfl) ?_
            refine lv_dup hx hb dX8_people_110 rfl ?_
            refine G_8_129 X hG 0 rfl dX8_people_111 ?_
            refine lv_iconst (v := 1) hx hb dX8_people_114 (by decide) ?_
            refine lv_iadd hx hb dX8_people_115 ?_
            refine P_8_129 X hG 0 rfl hf (fun t => [wX8 g o ad t]) (fun _ => rfl) dX8_people_116 (fun z12 H locs hf hG => ?_)
            refine lv_aload_n hx hb dX8_people_119 rfl (lv_at hl 0 rfl) ?_
            refine G_8_129 X hG 0 rfl dX8_people_120 ?_
            refine lv_iconst (v := 1) hx hb dX8_people_123 (by decide) ?_
            refine lv_isub hx hb dX8_people_124 ?_
            have hq9 := Option.some.inj hf
            subst hq9
            subst hQ
            exact r_iret X hG dX8_people_125
          · replace hf := ite_t hf hc7
            refine lv_bipush (v := (-4)) hx hb dX8_people_53 (by decide) ?_
            have hq9 := Option.some.inj hf
            subst hq9
            subst hQ
            exact r_iret X hG dX8_people_55
        · replace hf := ite_t hf hc6
          refine lv_bipush (v := (-2)) hx hb dX8_people_41 (by decide) ?_
          have hq9 := Option.some.inj hf
          subst hq9
          subst hQ
          exact r_iret X hG dX8_people_43
def rmX8_car : Room := { frames := 2, cells := 0, slots := 0, locals := 42 }
set_option maxHeartbeats 4000000 in
set_option maxRecDepth 100000 in
theorem c_X8_car (g : GT) (l : Launch) (o : Nat) (ad : Nat → Nat) (n : Nat) (a1 : Int32) (a2 : Int32) (a3 : Int32) (s0 : MS) (q : Int32 × MS) (hf : f_X8_car n a1 a2 a3 s0 = some q) : CI g l yX8_car cX8_car 4 (some .int) rmX8_car [.ref o, .int a1, .int a2, .int a3] [wX8 g o ad s0] q.1 [wX8 g o ad q.2] := by
  refine CI_intro RX8 rfl (by decide +kernel) (Nat.le_of_ble_eq_true rfl) ?_
  intro p e s m args below meth c A ls Q hQ X hl hG
  have hl : lv_has ls 4 [(0, .ref o), (1, .int a1), (2, .int a2), (3, .int a3)] := hl
  have hx := X.1
  have hb := X.2.1
  have hown := X.2.2.2.1
  unfold f_X8_car at hf
  refine lv_iload_n hx hb dX8_car_0 rfl (lv_at hl 1 rfl) ?_
  refine lv_iconst (v := 1) hx hb dX8_car_1 (by decide) ?_
  refine lv_bipush (v := 60) hx hb dX8_car_2 (by decide) ?_
  obtain ⟨q1, hq1, hf⟩ := cl_inv hf
  refine r_callSi (bc := []) (br := [wX8 g o ad s0]) (bs' := [wX8 g o ad s0]) (As := [.int a1, .int 1, .int 60]) (rest := []) X hG hl.1 (c_X8_in g l  n a1 1 60 q1 hq1) (List.Perm.refl _) (List.Perm.refl _) lk_X8_in ls_X8_in ml_8_132 rfl rfl ⟨Nat.le_of_ble_eq_true rfl, Nat.le_of_ble_eq_true rfl⟩ rfl rfl (Nat.le_of_ble_eq_true rfl) ⟨Nat.zero_le _, Nat.zero_le _⟩ dX8_car_4 (fun H locs hG => ?_)
  refine lv_if_eq (tgt := 27) hx hb dX8_car_7 (by decide) (fun hc2 => ?_) (fun hc2 => ?_)
  · replace hf := ite_t hf hc2
    refine lv_bipush (v := (-2)) hx hb dX8_car_27 (by decide) ?_
    have hq9 := Option.some.inj hf
    subst hq9
    subst hQ
    exact r_iret X hG dX8_car_29
  · replace hf := ite_f hf hc2
    refine lv_iload_n hx hb dX8_car_10 rfl (lv_at hl 2 rfl) ?_
    refine lv_iconst (v := 1) hx hb dX8_car_11 (by decide) ?_
    refine lv_bipush (v := 30) hx hb dX8_car_12 (by decide) ?_
    obtain ⟨q3, hq3, hf⟩ := cl_inv hf
    refine r_callSi (bc := []) (br := [wX8 g o ad s0]) (bs' := [wX8 g o ad s0]) (As := [.int a2, .int 1, .int 30]) (rest := []) X hG hl.1 (c_X8_in g l  n a2 1 30 q3 hq3) (List.Perm.refl _) (List.Perm.refl _) lk_X8_in ls_X8_in ml_8_132 rfl rfl ⟨Nat.le_of_ble_eq_true rfl, Nat.le_of_ble_eq_true rfl⟩ rfl rfl (Nat.le_of_ble_eq_true rfl) ⟨Nat.zero_le _, Nat.zero_le _⟩ dX8_car_14 (fun H locs hG => ?_)
    refine lv_if_eq (tgt := 27) hx hb dX8_car_17 (by decide) (fun hc4 => ?_) (fun hc4 => ?_)
    · replace hf := ite_t hf hc4
      refine lv_bipush (v := (-2)) hx hb dX8_car_27 (by decide) ?_
      have hq9 := Option.some.inj hf
      subst hq9
      subst hQ
      exact r_iret X hG dX8_car_29
    · replace hf := ite_f hf hc4
      refine lv_iload_n hx hb dX8_car_20 rfl (lv_at hl 3 rfl) ?_
      obtain ⟨q5, hq5, hf⟩ := cl_inv hf
      refine r_callSi (bc := []) (br := [wX8 g o ad s0]) (bs' := [wX8 g o ad s0]) (As := [.int a3]) (rest := []) X hG hl.1 (c_X8_isMinute g l  n a3 q5 hq5) (List.Perm.refl _) (List.Perm.refl _) lk_X8_isMinute ls_X8_isMinute ml_8_139 rfl rfl ⟨Nat.le_of_ble_eq_true rfl, Nat.le_of_ble_eq_true rfl⟩ rfl rfl (Nat.le_of_ble_eq_true rfl) ⟨Nat.zero_le _, Nat.zero_le _⟩ dX8_car_21 (fun H locs hG => ?_)
      refine lv_if_ne (tgt := 30) hx hb dX8_car_24 (by decide) (fun hc6 => ?_) (fun hc6 => ?_)
      · replace hf := ite_f hf hc6
        refine lv_aload_n hx hb dX8_car_30 rfl (lv_at hl 0 rfl) ?_
        refine G_8_143 X hG 0 rfl dX8_car_31 ?_
        refine lv_iconst (v := 4) hx hb dX8_car_34 (by decide) ?_
        refine lv_icmp_ne (tgt := 41) hx hb dX8_car_35 (by decide) (fun hc7 => ?_) (fun hc7 => ?_)
        · replace hf := ite_f hf hc7
          refine lv_aload_n hx hb dX8_car_41 rfl (lv_at hl 0 rfl) ?_
          refine G_8_22 X hG 0 rfl dX8_car_42 ?_
          refine lv_aload_n hx hb dX8_car_45 rfl (lv_at hl 0 rfl) ?_
          refine G_8_143 X hG 0 rfl dX8_car_46 ?_
          refine lv_iload_n hx hb dX8_car_49 rfl (lv_at hl 1 rfl) ?_
          refine r_iast X hG 0 5 rfl rfl hf (fun t => [wX8 g o ad t]) rfl dX8_car_50 (fun z8 H locs hf hG => ?_)
          refine lv_aload_n hx hb dX8_car_51 rfl (lv_at hl 0 rfl) ?_
          refine G_8_25 X hG 0 rfl dX8_car_52 ?_
          refine lv_aload_n hx hb dX8_car_55 rfl (lv_at hl 0 rfl) ?_
          refine G_8_143 X hG 0 rfl dX8_car_56 ?_
          refine lv_iload_n hx hb dX8_car_59 rfl (lv_at hl 2 rfl) ?_
          refine r_iast X hG 0 6 rfl rfl hf (fun t => [wX8 g o ad t]) rfl dX8_car_60 (fun z9 H locs hf hG => ?_)
          refine lv_aload_n hx hb dX8_car_61 rfl (lv_at hl 0 rfl) ?_
          refine G_8_28 X hG 0 rfl dX8_car_62 ?_
          refine lv_aload_n hx hb dX8_car_65 rfl (lv_at hl 0 rfl) ?_
          refine G_8_143 X hG 0 rfl dX8_car_66 ?_
          refine lv_iload_n hx hb dX8_car_69 rfl (lv_at hl 3 rfl) ?_
          refine r_iast X hG 0 7 rfl rfl hf (fun t => [wX8 g o ad t]) rfl dX8_car_70 (fun z10 H locs hf hG => ?_)
          refine lv_aload_n hx hb dX8_car_71 rfl (lv_at hl 0 rfl) ?_
          refine lv_dup hx hb dX8_car_72 rfl ?_
          refine G_8_143 X hG 0 rfl dX8_car_73 ?_
          refine lv_iconst (v := 1) hx hb dX8_car_76 (by decide) ?_
          refine lv_iadd hx hb dX8_car_77 ?_
          refine P_8_143 X hG 0 rfl hf (fun t => [wX8 g o ad t]) (fun _ => rfl) dX8_car_78 (fun z11 H locs hf hG => ?_)
          refine lv_aload_n hx hb dX8_car_81 rfl (lv_at hl 0 rfl) ?_
          refine G_8_143 X hG 0 rfl dX8_car_82 ?_
          refine lv_iconst (v := 1) hx hb dX8_car_85 (by decide) ?_
          refine lv_isub hx hb dX8_car_86 ?_
          have hq9 := Option.some.inj hf
          subst hq9
          subst hQ
          exact r_iret X hG dX8_car_87
        · replace hf := ite_t hf hc7
          refine lv_bipush (v := (-4)) hx hb dX8_car_38 (by decide) ?_
          have hq9 := Option.some.inj hf
          subst hq9
          subst hQ
          exact r_iret X hG dX8_car_40
      · replace hf := ite_t hf hc6
        refine lv_bipush (v := (-2)) hx hb dX8_car_27 (by decide) ?_
        have hq9 := Option.some.inj hf
        subst hq9
        subst hQ
        exact r_iret X hG dX8_car_29
def rmX8_way : Room := { frames := 2, cells := 0, slots := 0, locals := 42 }
set_option maxHeartbeats 4000000 in
set_option maxRecDepth 100000 in
theorem c_X8_way (g : GT) (l : Launch) (o : Nat) (ad : Nat → Nat) (n : Nat) (a1 : Int32) (a2 : Int32) (a3 : Int32) (s0 : MS) (q : Int32 × MS) (hf : f_X8_way n a1 a2 a3 s0 = some q) : CI g l yX8_way cX8_way 4 (some .int) rmX8_way [.ref o, .int a1, .int a2, .int a3] [wX8 g o ad s0] q.1 [wX8 g o ad q.2] := by
  refine CI_intro RX8 rfl (by decide +kernel) (Nat.le_of_ble_eq_true rfl) ?_
  intro p e s m args below meth c A ls Q hQ X hl hG
  have hl : lv_has ls 4 [(0, .ref o), (1, .int a1), (2, .int a2), (3, .int a3)] := hl
  have hx := X.1
  have hb := X.2.1
  have hown := X.2.2.2.1
  unfold f_X8_way at hf
  refine lv_iload_n hx hb dX8_way_0 rfl (lv_at hl 1 rfl) ?_
  refine lv_iconst (v := 0) hx hb dX8_way_1 (by decide) ?_
  refine lv_iconst (v := 5) hx hb dX8_way_2 (by decide) ?_
  obtain ⟨q1, hq1, hf⟩ := cl_inv hf
  refine r_callSi (bc := []) (br := [wX8 g o ad s0]) (bs' := [wX8 g o ad s0]) (As := [.int a1, .int 0, .int 5]) (rest := []) X hG hl.1 (c_X8_in g l  n a1 0 5 q1 hq1) (List.Perm.refl _) (List.Perm.refl _) lk_X8_in ls_X8_in ml_8_132 rfl rfl ⟨Nat.le_of_ble_eq_true rfl, Nat.le_of_ble_eq_true rfl⟩ rfl rfl (Nat.le_of_ble_eq_true rfl) ⟨Nat.zero_le _, Nat.zero_le _⟩ dX8_way_3 (fun H locs hG => ?_)
  refine lv_if_eq (tgt := 26) hx hb dX8_way_6 (by decide) (fun hc2 => ?_) (fun hc2 => ?_)
  · replace hf := ite_t hf hc2
    refine lv_bipush (v := (-2)) hx hb dX8_way_26 (by decide) ?_
    have hq9 := Option.some.inj hf
    subst hq9
    subst hQ
    exact r_iret X hG dX8_way_28
  · replace hf := ite_f hf hc2
    refine lv_iload_n hx hb dX8_way_9 rfl (lv_at hl 2 rfl) ?_
    obtain ⟨q3, hq3, hf⟩ := cl_inv hf
    refine r_callSi (bc := []) (br := [wX8 g o ad s0]) (bs' := [wX8 g o ad s0]) (As := [.int a2]) (rest := []) X hG hl.1 (c_X8_isMinute g l  n a2 q3 hq3) (List.Perm.refl _) (List.Perm.refl _) lk_X8_isMinute ls_X8_isMinute ml_8_139 rfl rfl ⟨Nat.le_of_ble_eq_true rfl, Nat.le_of_ble_eq_true rfl⟩ rfl rfl (Nat.le_of_ble_eq_true rfl) ⟨Nat.zero_le _, Nat.zero_le _⟩ dX8_way_10 (fun H locs hG => ?_)
    refine lv_if_eq (tgt := 26) hx hb dX8_way_13 (by decide) (fun hc4 => ?_) (fun hc4 => ?_)
    · replace hf := ite_t hf hc4
      refine lv_bipush (v := (-2)) hx hb dX8_way_26 (by decide) ?_
      have hq9 := Option.some.inj hf
      subst hq9
      subst hQ
      exact r_iret X hG dX8_way_28
    · replace hf := ite_f hf hc4
      refine lv_iload_n hx hb dX8_way_16 rfl (lv_at hl 3 rfl) ?_
      refine lv_iconst (v := 0) hx hb dX8_way_17 (by decide) ?_
      refine lv_bipush (v := 9) hx hb dX8_way_18 (by decide) ?_
      obtain ⟨q5, hq5, hf⟩ := cl_inv hf
      refine r_callSi (bc := []) (br := [wX8 g o ad s0]) (bs' := [wX8 g o ad s0]) (As := [.int a3, .int 0, .int 9]) (rest := []) X hG hl.1 (c_X8_in g l  n a3 0 9 q5 hq5) (List.Perm.refl _) (List.Perm.refl _) lk_X8_in ls_X8_in ml_8_132 rfl rfl ⟨Nat.le_of_ble_eq_true rfl, Nat.le_of_ble_eq_true rfl⟩ rfl rfl (Nat.le_of_ble_eq_true rfl) ⟨Nat.zero_le _, Nat.zero_le _⟩ dX8_way_20 (fun H locs hG => ?_)
      refine lv_if_ne (tgt := 29) hx hb dX8_way_23 (by decide) (fun hc6 => ?_) (fun hc6 => ?_)
      · replace hf := ite_f hf hc6
        refine lv_aload_n hx hb dX8_way_29 rfl (lv_at hl 0 rfl) ?_
        refine G_8_136 X hG 0 rfl dX8_way_30 ?_
        refine lv_bipush (v := 8) hx hb dX8_way_33 (by decide) ?_
        refine lv_icmp_ne (tgt := 41) hx hb dX8_way_35 (by decide) (fun hc7 => ?_) (fun hc7 => ?_)
        · replace hf := ite_f hf hc7
          refine lv_aload_n hx hb dX8_way_41 rfl (lv_at hl 0 rfl) ?_
          refine G_8_31 X hG 0 rfl dX8_way_42 ?_
          refine lv_aload_n hx hb dX8_way_45 rfl (lv_at hl 0 rfl) ?_
          refine G_8_136 X hG 0 rfl dX8_way_46 ?_
          refine lv_iload_n hx hb dX8_way_49 rfl (lv_at hl 1 rfl) ?_
          refine r_iast X hG 0 8 rfl rfl hf (fun t => [wX8 g o ad t]) rfl dX8_way_50 (fun z8 H locs hf hG => ?_)
          refine lv_aload_n hx hb dX8_way_51 rfl (lv_at hl 0 rfl) ?_
          refine G_8_34 X hG 0 rfl dX8_way_52 ?_
          refine lv_aload_n hx hb dX8_way_55 rfl (lv_at hl 0 rfl) ?_
          refine G_8_136 X hG 0 rfl dX8_way_56 ?_
          refine lv_iload_n hx hb dX8_way_59 rfl (lv_at hl 2 rfl) ?_
          refine r_iast X hG 0 9 rfl rfl hf (fun t => [wX8 g o ad t]) rfl dX8_way_60 (fun z9 H locs hf hG => ?_)
          refine lv_aload_n hx hb dX8_way_61 rfl (lv_at hl 0 rfl) ?_
          refine G_8_37 X hG 0 rfl dX8_way_62 ?_
          refine lv_aload_n hx hb dX8_way_65 rfl (lv_at hl 0 rfl) ?_
          refine G_8_136 X hG 0 rfl dX8_way_66 ?_
          refine lv_iload_n hx hb dX8_way_69 rfl (lv_at hl 3 rfl) ?_
          refine r_iast X hG 0 10 rfl rfl hf (fun t => [wX8 g o ad t]) rfl dX8_way_70 (fun z10 H locs hf hG => ?_)
          refine lv_aload_n hx hb dX8_way_71 rfl (lv_at hl 0 rfl) ?_
          refine lv_dup hx hb dX8_way_72 rfl ?_
          refine G_8_136 X hG 0 rfl dX8_way_73 ?_
          refine lv_iconst (v := 1) hx hb dX8_way_76 (by decide) ?_
          refine lv_iadd hx hb dX8_way_77 ?_
          refine P_8_136 X hG 0 rfl hf (fun t => [wX8 g o ad t]) (fun _ => rfl) dX8_way_78 (fun z11 H locs hf hG => ?_)
          refine lv_aload_n hx hb dX8_way_81 rfl (lv_at hl 0 rfl) ?_
          refine G_8_136 X hG 0 rfl dX8_way_82 ?_
          refine lv_iconst (v := 1) hx hb dX8_way_85 (by decide) ?_
          refine lv_isub hx hb dX8_way_86 ?_
          have hq9 := Option.some.inj hf
          subst hq9
          subst hQ
          exact r_iret X hG dX8_way_87
        · replace hf := ite_t hf hc7
          refine lv_bipush (v := (-4)) hx hb dX8_way_38 (by decide) ?_
          have hq9 := Option.some.inj hf
          subst hq9
          subst hQ
          exact r_iret X hG dX8_way_40
      · replace hf := ite_t hf hc6
        refine lv_bipush (v := (-2)) hx hb dX8_way_26 (by decide) ?_
        have hq9 := Option.some.inj hf
        subst hq9
        subst hQ
        exact r_iret X hG dX8_way_28
def rmX8_set : Room := { frames := 2, cells := 0, slots := 0, locals := 43 }
set_option maxHeartbeats 4000000 in
set_option maxRecDepth 100000 in
theorem c_X8_set (g : GT) (l : Launch) (o : Nat) (ad : Nat → Nat) (n : Nat) (a1 : Int32) (a2 : Int32) (a3 : Int32) (s0 : MS) (q : Int32 × MS) (hf : f_X8_set n a1 a2 a3 s0 = some q) : CI g l yX8_set cX8_set 5 (some .int) rmX8_set [.ref o, .int a1, .int a2, .int a3] [wX8 g o ad s0] q.1 [wX8 g o ad q.2] := by
  refine CI_intro RX8 rfl (by decide +kernel) (Nat.le_of_ble_eq_true rfl) ?_
  intro p e s m args below meth c A ls Q hQ X hl hG
  have hl : lv_has ls 5 [(0, .ref o), (1, .int a1), (2, .int a2), (3, .int a3)] := hl
  have hx := X.1
  have hb := X.2.1
  have hown := X.2.2.2.1
  unfold f_X8_set at hf
  refine lv_iload_n hx hb dX8_set_0 rfl (lv_at hl 1 rfl) ?_
  by_cases hk1_0 : a1 = 0
  · replace hf := ite_t hf hk1_0
    refine r_tsi (tgt := 40) (off := 39) X dX8_set_1 hk1_0 (by decide +kernel) (by decide +kernel) (by decide) ?_
    refine lv_aload_n hx hb dX8_set_40 rfl (lv_at hl 0 rfl) ?_
    refine lv_iload_n hx hb dX8_set_41 rfl (lv_at hl 2 rfl) ?_
    obtain ⟨q2, hq2, hf⟩ := cl_inv hf
    refine r_callVi (bc := [wX8 g o ad s0]) (br := []) (bs' := [wX8 g o ad s0]) (As := [.int a2]) (rest := []) X hG hl.1 (c_X8_isSort g l o ad n a2 s0 q2 hq2) (List.Perm.refl _) (List.Perm.refl _) lk_X8_isSort lv_X8_isSort ml_8_146 (j := 0) (k := 0) rfl rfl rfl rfl rfl ⟨Nat.le_of_ble_eq_true rfl, Nat.le_of_ble_eq_true rfl⟩ rfl rfl (Nat.le_of_ble_eq_true rfl) ⟨Nat.zero_le _, Nat.zero_le _⟩ dX8_set_42 (fun H locs hG => ?_)
    refine lv_if_eq (tgt := 59) hx hb dX8_set_45 (by decide) (fun hc3 => ?_) (fun hc3 => ?_)
    · replace hf := ite_t hf hc3
      refine lv_bipush (v := (-2)) hx hb dX8_set_59 (by decide) ?_
      have hq9 := Option.some.inj hf
      subst hq9
      subst hQ
      exact r_iret X hG dX8_set_61
    · replace hf := ite_f hf hc3
      refine lv_iload_n hx hb dX8_set_48 rfl (lv_at hl 3 rfl) ?_
      refine lv_iconst (v := 0) hx hb dX8_set_49 (by decide) ?_
      refine lv_sipush (v := 400) hx hb dX8_set_50 (by decide) ?_
      obtain ⟨q4, hq4, hf⟩ := cl_inv hf
      refine r_callSi (bc := []) (br := [wX8 g o ad s0]) (bs' := [wX8 g o ad s0]) (As := [.int a3, .int 0, .int 400]) (rest := []) X hG hl.1 (c_X8_in g l  n a3 0 400 q4 hq4) (List.Perm.refl _) (List.Perm.refl _) lk_X8_in ls_X8_in ml_8_132 rfl rfl ⟨Nat.le_of_ble_eq_true rfl, Nat.le_of_ble_eq_true rfl⟩ rfl rfl (Nat.le_of_ble_eq_true rfl) ⟨Nat.zero_le _, Nat.zero_le _⟩ dX8_set_53 (fun H locs hG => ?_)
      refine lv_if_ne (tgt := 62) hx hb dX8_set_56 (by decide) (fun hc5 => ?_) (fun hc5 => ?_)
      · replace hf := ite_f hf hc5
        refine lv_aload_n hx hb dX8_set_62 rfl (lv_at hl 0 rfl) ?_
        refine G_8_7 X hG 0 rfl dX8_set_63 ?_
        refine lv_iload_n hx hb dX8_set_66 rfl (lv_at hl 2 rfl) ?_
        refine r_iald X hG 0 1 rfl rfl hf dX8_set_67 (fun x6 hf => ?_)
        refine lv_istore (lv' := [(4, .int x6), (0, .ref o), (1, .int a1), (2, .int a2), (3, .int a3)]) hx hb dX8_set_68 hl (by decide) rfl (fun ls hl => ?_)
        refine lv_aload_n hx hb dX8_set_70 rfl (lv_at hl 1 rfl) ?_
        refine G_8_7 X hG 0 rfl dX8_set_71 ?_
        refine lv_iload_n hx hb dX8_set_74 rfl (lv_at hl 3 rfl) ?_
        refine lv_iload_n hx hb dX8_set_75 rfl (lv_at hl 4 rfl) ?_
        refine r_iast X hG 0 1 rfl rfl hf (fun t => [wX8 g o ad t]) rfl dX8_set_76 (fun z7 H locs hf hG => ?_)
        refine lv_iload hx hb dX8_set_77 (lv_at hl 0 rfl) ?_
        have hq9 := Option.some.inj hf
        subst hq9
        subst hQ
        exact r_iret X hG dX8_set_79
      · replace hf := ite_t hf hc5
        refine lv_bipush (v := (-2)) hx hb dX8_set_59 (by decide) ?_
        have hq9 := Option.some.inj hf
        subst hq9
        subst hQ
        exact r_iret X hG dX8_set_61
  · replace hf := ite_f hf hk1_0
    by_cases hk1_1 : a1 = 1
    · replace hf := ite_t hf hk1_1
      refine r_tsi (tgt := 80) (off := 79) X dX8_set_1 hk1_1 (by decide +kernel) (by decide +kernel) (by decide) ?_
      refine lv_aload_n hx hb dX8_set_80 rfl (lv_at hl 0 rfl) ?_
      refine lv_iload_n hx hb dX8_set_81 rfl (lv_at hl 2 rfl) ?_
      obtain ⟨q8, hq8, hf⟩ := cl_inv hf
      refine r_callVi (bc := [wX8 g o ad s0]) (br := []) (bs' := [wX8 g o ad s0]) (As := [.int a2]) (rest := []) X hG hl.1 (c_X8_isSort g l o ad n a2 s0 q8 hq8) (List.Perm.refl _) (List.Perm.refl _) lk_X8_isSort lv_X8_isSort ml_8_146 (j := 0) (k := 0) rfl rfl rfl rfl rfl ⟨Nat.le_of_ble_eq_true rfl, Nat.le_of_ble_eq_true rfl⟩ rfl rfl (Nat.le_of_ble_eq_true rfl) ⟨Nat.zero_le _, Nat.zero_le _⟩ dX8_set_82 (fun H locs hG => ?_)
      refine lv_if_eq (tgt := 98) hx hb dX8_set_85 (by decide) (fun hc9 => ?_) (fun hc9 => ?_)
      · replace hf := ite_t hf hc9
        refine lv_bipush (v := (-2)) hx hb dX8_set_98 (by decide) ?_
        have hq9 := Option.some.inj hf
        subst hq9
        subst hQ
        exact r_iret X hG dX8_set_100
      · replace hf := ite_f hf hc9
        refine lv_iload_n hx hb dX8_set_88 rfl (lv_at hl 3 rfl) ?_
        refine lv_iconst (v := 0) hx hb dX8_set_89 (by decide) ?_
        refine lv_bipush (v := 40) hx hb dX8_set_90 (by decide) ?_
        obtain ⟨q10, hq10, hf⟩ := cl_inv hf
        refine r_callSi (bc := []) (br := [wX8 g o ad s0]) (bs' := [wX8 g o ad s0]) (As := [.int a3, .int 0, .int 40]) (rest := []) X hG hl.1 (c_X8_in g l  n a3 0 40 q10 hq10) (List.Perm.refl _) (List.Perm.refl _) lk_X8_in ls_X8_in ml_8_132 rfl rfl ⟨Nat.le_of_ble_eq_true rfl, Nat.le_of_ble_eq_true rfl⟩ rfl rfl (Nat.le_of_ble_eq_true rfl) ⟨Nat.zero_le _, Nat.zero_le _⟩ dX8_set_92 (fun H locs hG => ?_)
        refine lv_if_ne (tgt := 101) hx hb dX8_set_95 (by decide) (fun hc11 => ?_) (fun hc11 => ?_)
        · replace hf := ite_f hf hc11
          refine lv_aload_n hx hb dX8_set_101 rfl (lv_at hl 0 rfl) ?_
          refine G_8_13 X hG 0 rfl dX8_set_102 ?_
          refine lv_iload_n hx hb dX8_set_105 rfl (lv_at hl 2 rfl) ?_
          refine r_iald X hG 0 2 rfl rfl hf dX8_set_106 (fun x12 hf => ?_)
          refine lv_istore (lv' := [(4, .int x12), (0, .ref o), (1, .int a1), (2, .int a2), (3, .int a3)]) hx hb dX8_set_107 hl (by decide) rfl (fun ls hl => ?_)
          refine lv_aload_n hx hb dX8_set_109 rfl (lv_at hl 1 rfl) ?_
          refine G_8_13 X hG 0 rfl dX8_set_110 ?_
          refine lv_iload_n hx hb dX8_set_113 rfl (lv_at hl 3 rfl) ?_
          refine lv_iload_n hx hb dX8_set_114 rfl (lv_at hl 4 rfl) ?_
          refine r_iast X hG 0 2 rfl rfl hf (fun t => [wX8 g o ad t]) rfl dX8_set_115 (fun z13 H locs hf hG => ?_)
          refine lv_iload hx hb dX8_set_116 (lv_at hl 0 rfl) ?_
          have hq9 := Option.some.inj hf
          subst hq9
          subst hQ
          exact r_iret X hG dX8_set_118
        · replace hf := ite_t hf hc11
          refine lv_bipush (v := (-2)) hx hb dX8_set_98 (by decide) ?_
          have hq9 := Option.some.inj hf
          subst hq9
          subst hQ
          exact r_iret X hG dX8_set_100
    · replace hf := ite_f hf hk1_1
      by_cases hk1_2 : a1 = 2
      · replace hf := ite_t hf hk1_2
        refine r_tsi (tgt := 119) (off := 118) X dX8_set_1 hk1_2 (by decide +kernel) (by decide +kernel) (by decide) ?_
        refine lv_aload_n hx hb dX8_set_119 rfl (lv_at hl 0 rfl) ?_
        refine lv_iload_n hx hb dX8_set_120 rfl (lv_at hl 2 rfl) ?_
        obtain ⟨q14, hq14, hf⟩ := cl_inv hf
        refine r_callVi (bc := [wX8 g o ad s0]) (br := []) (bs' := [wX8 g o ad s0]) (As := [.int a2]) (rest := []) X hG hl.1 (c_X8_isSort g l o ad n a2 s0 q14 hq14) (List.Perm.refl _) (List.Perm.refl _) lk_X8_isSort lv_X8_isSort ml_8_146 (j := 0) (k := 0) rfl rfl rfl rfl rfl ⟨Nat.le_of_ble_eq_true rfl, Nat.le_of_ble_eq_true rfl⟩ rfl rfl (Nat.le_of_ble_eq_true rfl) ⟨Nat.zero_le _, Nat.zero_le _⟩ dX8_set_121 (fun H locs hG => ?_)
        refine lv_if_eq (tgt := 137) hx hb dX8_set_124 (by decide) (fun hc15 => ?_) (fun hc15 => ?_)
        · replace hf := ite_t hf hc15
          refine lv_bipush (v := (-2)) hx hb dX8_set_137 (by decide) ?_
          have hq9 := Option.some.inj hf
          subst hq9
          subst hQ
          exact r_iret X hG dX8_set_139
        · replace hf := ite_f hf hc15
          refine lv_iload_n hx hb dX8_set_127 rfl (lv_at hl 3 rfl) ?_
          refine lv_iconst (v := 1) hx hb dX8_set_128 (by decide) ?_
          refine lv_bipush (v := 60) hx hb dX8_set_129 (by decide) ?_
          obtain ⟨q16, hq16, hf⟩ := cl_inv hf
          refine r_callSi (bc := []) (br := [wX8 g o ad s0]) (bs' := [wX8 g o ad s0]) (As := [.int a3, .int 1, .int 60]) (rest := []) X hG hl.1 (c_X8_in g l  n a3 1 60 q16 hq16) (List.Perm.refl _) (List.Perm.refl _) lk_X8_in ls_X8_in ml_8_132 rfl rfl ⟨Nat.le_of_ble_eq_true rfl, Nat.le_of_ble_eq_true rfl⟩ rfl rfl (Nat.le_of_ble_eq_true rfl) ⟨Nat.zero_le _, Nat.zero_le _⟩ dX8_set_131 (fun H locs hG => ?_)
          refine lv_if_ne (tgt := 140) hx hb dX8_set_134 (by decide) (fun hc17 => ?_) (fun hc17 => ?_)
          · replace hf := ite_f hf hc17
            refine lv_aload_n hx hb dX8_set_140 rfl (lv_at hl 0 rfl) ?_
            refine G_8_16 X hG 0 rfl dX8_set_141 ?_
            refine lv_iload_n hx hb dX8_set_144 rfl (lv_at hl 2 rfl) ?_
            refine r_iald X hG 0 3 rfl rfl hf dX8_set_145 (fun x18 hf => ?_)
            refine lv_istore (lv' := [(4, .int x18), (0, .ref o), (1, .int a1), (2, .int a2), (3, .int a3)]) hx hb dX8_set_146 hl (by decide) rfl (fun ls hl => ?_)
            refine lv_aload_n hx hb dX8_set_148 rfl (lv_at hl 1 rfl) ?_
            refine G_8_16 X hG 0 rfl dX8_set_149 ?_
            refine lv_iload_n hx hb dX8_set_152 rfl (lv_at hl 3 rfl) ?_
            refine lv_iload_n hx hb dX8_set_153 rfl (lv_at hl 4 rfl) ?_
            refine r_iast X hG 0 3 rfl rfl hf (fun t => [wX8 g o ad t]) rfl dX8_set_154 (fun z19 H locs hf hG => ?_)
            refine lv_iload hx hb dX8_set_155 (lv_at hl 0 rfl) ?_
            have hq9 := Option.some.inj hf
            subst hq9
            subst hQ
            exact r_iret X hG dX8_set_157
          · replace hf := ite_t hf hc17
            refine lv_bipush (v := (-2)) hx hb dX8_set_137 (by decide) ?_
            have hq9 := Option.some.inj hf
            subst hq9
            subst hQ
            exact r_iret X hG dX8_set_139
      · replace hf := ite_f hf hk1_2
        by_cases hk1_3 : a1 = 3
        · replace hf := ite_t hf hk1_3
          refine r_tsi (tgt := 158) (off := 157) X dX8_set_1 hk1_3 (by decide +kernel) (by decide +kernel) (by decide) ?_
          refine lv_aload_n hx hb dX8_set_158 rfl (lv_at hl 0 rfl) ?_
          refine lv_iload_n hx hb dX8_set_159 rfl (lv_at hl 2 rfl) ?_
          obtain ⟨q20, hq20, hf⟩ := cl_inv hf
          refine r_callVi (bc := [wX8 g o ad s0]) (br := []) (bs' := [wX8 g o ad s0]) (As := [.int a2]) (rest := []) X hG hl.1 (c_X8_isSort g l o ad n a2 s0 q20 hq20) (List.Perm.refl _) (List.Perm.refl _) lk_X8_isSort lv_X8_isSort ml_8_146 (j := 0) (k := 0) rfl rfl rfl rfl rfl ⟨Nat.le_of_ble_eq_true rfl, Nat.le_of_ble_eq_true rfl⟩ rfl rfl (Nat.le_of_ble_eq_true rfl) ⟨Nat.zero_le _, Nat.zero_le _⟩ dX8_set_160 (fun H locs hG => ?_)
          refine lv_if_eq (tgt := 176) hx hb dX8_set_163 (by decide) (fun hc21 => ?_) (fun hc21 => ?_)
          · replace hf := ite_t hf hc21
            refine lv_bipush (v := (-2)) hx hb dX8_set_176 (by decide) ?_
            have hq9 := Option.some.inj hf
            subst hq9
            subst hQ
            exact r_iret X hG dX8_set_178
          · replace hf := ite_f hf hc21
            refine lv_iload_n hx hb dX8_set_166 rfl (lv_at hl 3 rfl) ?_
            refine lv_iconst (v := 0) hx hb dX8_set_167 (by decide) ?_
            refine lv_bipush (v := 9) hx hb dX8_set_168 (by decide) ?_
            obtain ⟨q22, hq22, hf⟩ := cl_inv hf
            refine r_callSi (bc := []) (br := [wX8 g o ad s0]) (bs' := [wX8 g o ad s0]) (As := [.int a3, .int 0, .int 9]) (rest := []) X hG hl.1 (c_X8_in g l  n a3 0 9 q22 hq22) (List.Perm.refl _) (List.Perm.refl _) lk_X8_in ls_X8_in ml_8_132 rfl rfl ⟨Nat.le_of_ble_eq_true rfl, Nat.le_of_ble_eq_true rfl⟩ rfl rfl (Nat.le_of_ble_eq_true rfl) ⟨Nat.zero_le _, Nat.zero_le _⟩ dX8_set_170 (fun H locs hG => ?_)
            refine lv_if_ne (tgt := 179) hx hb dX8_set_173 (by decide) (fun hc23 => ?_) (fun hc23 => ?_)
            · replace hf := ite_f hf hc23
              refine lv_aload_n hx hb dX8_set_179 rfl (lv_at hl 0 rfl) ?_
              refine G_8_19 X hG 0 rfl dX8_set_180 ?_
              refine lv_iload_n hx hb dX8_set_183 rfl (lv_at hl 2 rfl) ?_
              refine r_iald X hG 0 4 rfl rfl hf dX8_set_184 (fun x24 hf => ?_)
              refine lv_istore (lv' := [(4, .int x24), (0, .ref o), (1, .int a1), (2, .int a2), (3, .int a3)]) hx hb dX8_set_185 hl (by decide) rfl (fun ls hl => ?_)
              refine lv_aload_n hx hb dX8_set_187 rfl (lv_at hl 1 rfl) ?_
              refine G_8_19 X hG 0 rfl dX8_set_188 ?_
              refine lv_iload_n hx hb dX8_set_191 rfl (lv_at hl 3 rfl) ?_
              refine lv_iload_n hx hb dX8_set_192 rfl (lv_at hl 4 rfl) ?_
              refine r_iast X hG 0 4 rfl rfl hf (fun t => [wX8 g o ad t]) rfl dX8_set_193 (fun z25 H locs hf hG => ?_)
              refine lv_iload hx hb dX8_set_194 (lv_at hl 0 rfl) ?_
              have hq9 := Option.some.inj hf
              subst hq9
              subst hQ
              exact r_iret X hG dX8_set_196
            · replace hf := ite_t hf hc23
              refine lv_bipush (v := (-2)) hx hb dX8_set_176 (by decide) ?_
              have hq9 := Option.some.inj hf
              subst hq9
              subst hQ
              exact r_iret X hG dX8_set_178
        · replace hf := ite_f hf hk1_3
          by_cases hk1_4 : a1 = 4
          · replace hf := ite_t hf hk1_4
            refine r_tsi (tgt := 197) (off := 196) X dX8_set_1 hk1_4 (by decide +kernel) (by decide +kernel) (by decide) ?_
            refine lv_iload_n hx hb dX8_set_197 rfl (lv_at hl 2 rfl) ?_
            obtain ⟨q26, hq26, hf⟩ := cl_inv hf
            refine r_callSi (bc := []) (br := [wX8 g o ad s0]) (bs' := [wX8 g o ad s0]) (As := [.int a2]) (rest := []) X hG hl.1 (c_X8_isMinute g l  n a2 q26 hq26) (List.Perm.refl _) (List.Perm.refl _) lk_X8_isMinute ls_X8_isMinute ml_8_139 rfl rfl ⟨Nat.le_of_ble_eq_true rfl, Nat.le_of_ble_eq_true rfl⟩ rfl rfl (Nat.le_of_ble_eq_true rfl) ⟨Nat.zero_le _, Nat.zero_le _⟩ dX8_set_198 (fun H locs hG => ?_)
            refine lv_if_eq (tgt := 214) hx hb dX8_set_201 (by decide) (fun hc27 => ?_) (fun hc27 => ?_)
            · replace hf := ite_t hf hc27
              refine lv_bipush (v := (-2)) hx hb dX8_set_214 (by decide) ?_
              have hq9 := Option.some.inj hf
              subst hq9
              subst hQ
              exact r_iret X hG dX8_set_216
            · replace hf := ite_f hf hc27
              refine lv_iload_n hx hb dX8_set_204 rfl (lv_at hl 3 rfl) ?_
              refine lv_iconst (v := 0) hx hb dX8_set_205 (by decide) ?_
              refine lv_bipush (v := 9) hx hb dX8_set_206 (by decide) ?_
              obtain ⟨q28, hq28, hf⟩ := cl_inv hf
              refine r_callSi (bc := []) (br := [wX8 g o ad s0]) (bs' := [wX8 g o ad s0]) (As := [.int a3, .int 0, .int 9]) (rest := []) X hG hl.1 (c_X8_in g l  n a3 0 9 q28 hq28) (List.Perm.refl _) (List.Perm.refl _) lk_X8_in ls_X8_in ml_8_132 rfl rfl ⟨Nat.le_of_ble_eq_true rfl, Nat.le_of_ble_eq_true rfl⟩ rfl rfl (Nat.le_of_ble_eq_true rfl) ⟨Nat.zero_le _, Nat.zero_le _⟩ dX8_set_208 (fun H locs hG => ?_)
              refine lv_if_ne (tgt := 217) hx hb dX8_set_211 (by decide) (fun hc29 => ?_) (fun hc29 => ?_)
              · replace hf := ite_f hf hc29
                refine lv_aload_n hx hb dX8_set_217 rfl (lv_at hl 0 rfl) ?_
                refine G_8_40 X hG 0 rfl dX8_set_218 ?_
                refine lv_iload_n hx hb dX8_set_221 rfl (lv_at hl 2 rfl) ?_
                refine r_iald X hG 0 11 rfl rfl hf dX8_set_222 (fun x30 hf => ?_)
                refine lv_istore (lv' := [(4, .int x30), (0, .ref o), (1, .int a1), (2, .int a2), (3, .int a3)]) hx hb dX8_set_223 hl (by decide) rfl (fun ls hl => ?_)
                refine lv_aload_n hx hb dX8_set_225 rfl (lv_at hl 1 rfl) ?_
                refine G_8_40 X hG 0 rfl dX8_set_226 ?_
                refine lv_iload_n hx hb dX8_set_229 rfl (lv_at hl 3 rfl) ?_
                refine lv_iload_n hx hb dX8_set_230 rfl (lv_at hl 4 rfl) ?_
                refine r_iast X hG 0 11 rfl rfl hf (fun t => [wX8 g o ad t]) rfl dX8_set_231 (fun z31 H locs hf hG => ?_)
                refine lv_iload hx hb dX8_set_232 (lv_at hl 0 rfl) ?_
                have hq9 := Option.some.inj hf
                subst hq9
                subst hQ
                exact r_iret X hG dX8_set_234
              · replace hf := ite_t hf hc29
                refine lv_bipush (v := (-2)) hx hb dX8_set_214 (by decide) ?_
                have hq9 := Option.some.inj hf
                subst hq9
                subst hQ
                exact r_iret X hG dX8_set_216
          · replace hf := ite_f hf hk1_4
            by_cases hk1_5 : a1 = 5
            · replace hf := ite_t hf hk1_5
              refine r_tsi (tgt := 235) (off := 234) X dX8_set_1 hk1_5 (by decide +kernel) (by decide +kernel) (by decide) ?_
              refine lv_iload_n hx hb dX8_set_235 rfl (lv_at hl 3 rfl) ?_
              refine lv_iconst (v := 1) hx hb dX8_set_236 (by decide) ?_
              refine lv_bipush (v := 120) hx hb dX8_set_237 (by decide) ?_
              obtain ⟨q32, hq32, hf⟩ := cl_inv hf
              refine r_callSi (bc := []) (br := [wX8 g o ad s0]) (bs' := [wX8 g o ad s0]) (As := [.int a3, .int 1, .int 120]) (rest := []) X hG hl.1 (c_X8_in g l  n a3 1 120 q32 hq32) (List.Perm.refl _) (List.Perm.refl _) lk_X8_in ls_X8_in ml_8_132 rfl rfl ⟨Nat.le_of_ble_eq_true rfl, Nat.le_of_ble_eq_true rfl⟩ rfl rfl (Nat.le_of_ble_eq_true rfl) ⟨Nat.zero_le _, Nat.zero_le _⟩ dX8_set_239 (fun H locs hG => ?_)
              refine lv_if_ne (tgt := 248) hx hb dX8_set_242 (by decide) (fun hc33 => ?_) (fun hc33 => ?_)
              · replace hf := ite_f hf hc33
                refine lv_aload_n hx hb dX8_set_248 rfl (lv_at hl 0 rfl) ?_
                refine G_8_43 X hG 0 rfl dX8_set_249 ?_
                refine lv_istore (lv' := [(4, .int (s0.1 15)), (0, .ref o), (1, .int a1), (2, .int a2), (3, .int a3)]) hx hb dX8_set_252 hl (by decide) rfl (fun ls hl => ?_)
                refine lv_aload_n hx hb dX8_set_254 rfl (lv_at hl 1 rfl) ?_
                refine lv_iload_n hx hb dX8_set_255 rfl (lv_at hl 4 rfl) ?_
                refine P_8_43 X hG 0 rfl hf (fun t => [wX8 g o ad t]) (fun _ => rfl) dX8_set_256 (fun z34 H locs hf hG => ?_)
                refine lv_iload hx hb dX8_set_259 (lv_at hl 0 rfl) ?_
                have hq9 := Option.some.inj hf
                subst hq9
                subst hQ
                exact r_iret X hG dX8_set_261
              · replace hf := ite_t hf hc33
                refine lv_bipush (v := (-2)) hx hb dX8_set_245 (by decide) ?_
                have hq9 := Option.some.inj hf
                subst hq9
                subst hQ
                exact r_iret X hG dX8_set_247
            · replace hf := ite_f hf hk1_5
              refine r_tso (tgt := 262) X dX8_set_1 (ks := [0, 1, 2, 3, 4, 5]) (List.forall_mem_cons.mpr ⟨hk1_0, List.forall_mem_cons.mpr ⟨hk1_1, List.forall_mem_cons.mpr ⟨hk1_2, List.forall_mem_cons.mpr ⟨hk1_3, List.forall_mem_cons.mpr ⟨hk1_4, List.forall_mem_cons.mpr ⟨hk1_5, List.forall_mem_nil _⟩⟩⟩⟩⟩⟩) (by decide +kernel) (by decide) ?_
              refine lv_bipush (v := (-2)) hx hb dX8_set_262 (by decide) ?_
              have hq9 := Option.some.inj hf
              subst hq9
              subst hQ
              exact r_iret X hG dX8_set_264
def rmX8_shut : Room := { frames := 2, cells := 0, slots := 0, locals := 42 }
set_option maxHeartbeats 4000000 in
set_option maxRecDepth 100000 in
theorem c_X8_shut (g : GT) (l : Launch) (o : Nat) (ad : Nat → Nat) (n : Nat) (a1 : Int32) (a2 : Int32) (s0 : MS) (q : Int32 × MS) (hf : f_X8_shut n a1 a2 s0 = some q) : CI g l yX8_shut cX8_shut 3 (some .int) rmX8_shut [.ref o, .int a1, .int a2] [wX8 g o ad s0] q.1 [wX8 g o ad q.2] := by
  refine CI_intro RX8 rfl (by decide +kernel) (Nat.le_of_ble_eq_true rfl) ?_
  intro p e s m args below meth c A ls Q hQ X hl hG
  have hl : lv_has ls 3 [(0, .ref o), (1, .int a1), (2, .int a2)] := hl
  have hx := X.1
  have hb := X.2.1
  have hown := X.2.2.2.1
  unfold f_X8_shut at hf
  refine lv_iload_n hx hb dX8_shut_0 rfl (lv_at hl 1 rfl) ?_
  refine lv_iconst (v := (-1)) hx hb dX8_shut_1 (by decide) ?_
  refine jn_use (P := fun (t1 : Unit) => ∀ (H : Heap) (locs : List Loc) (ls : Array Slot), GM g A s.heap H locs [wX8 g o ad s0] → lv_has ls 3 [(0, .ref o), (1, .int a1), (2, .int a2)] → W p l e rmX8_shut s m args below meth c H locs 0 0 Q (F0 m 25 ls [])) hf (fun t1 hf H locs ls hG hl => ?_) (fun K2 hK2 hf => ?_)
  · refine lv_aload_n hx hb dX8_shut_25 rfl (lv_at hl 0 rfl) ?_
    refine lv_iload_n hx hb dX8_shut_26 rfl (lv_at hl 1 rfl) ?_
    refine P_8_47 X hG 0 rfl hf (fun t => [wX8 g o ad t]) (fun _ => rfl) dX8_shut_27 (fun z3 H locs hf hG => ?_)
    refine lv_aload_n hx hb dX8_shut_30 rfl (lv_at hl 0 rfl) ?_
    refine lv_iload_n hx hb dX8_shut_31 rfl (lv_at hl 2 rfl) ?_
    refine P_8_149 X hG 0 rfl hf (fun t => [wX8 g o ad t]) (fun _ => rfl) dX8_shut_32 (fun z4 H locs hf hG => ?_)
    refine lv_iconst (v := 1) hx hb dX8_shut_35 (by decide) ?_
    have hq9 := Option.some.inj hf
    subst hq9
    subst hQ
    exact r_iret X hG dX8_shut_36
  refine lv_icmp_eq (tgt := 25) hx hb dX8_shut_2 (by decide) (fun hc5 => ?_) (fun hc5 => ?_)
  · replace hf := ite_t hf hc5
    exact hK2 _ hf _ _ _ hG (lv_sub hl [0, 1, 2] rfl)
  · replace hf := ite_f hf hc5
    refine lv_iload_n hx hb dX8_shut_5 rfl (lv_at hl 1 rfl) ?_
    obtain ⟨q6, hq6, hf⟩ := cl_inv hf
    refine r_callSi (bc := []) (br := [wX8 g o ad s0]) (bs' := [wX8 g o ad s0]) (As := [.int a1]) (rest := []) X hG hl.1 (c_X8_isMinute g l  n a1 q6 hq6) (List.Perm.refl _) (List.Perm.refl _) lk_X8_isMinute ls_X8_isMinute ml_8_139 rfl rfl ⟨Nat.le_of_ble_eq_true rfl, Nat.le_of_ble_eq_true rfl⟩ rfl rfl (Nat.le_of_ble_eq_true rfl) ⟨Nat.zero_le _, Nat.zero_le _⟩ dX8_shut_6 (fun H locs hG => ?_)
    refine lv_if_eq (tgt := 22) hx hb dX8_shut_9 (by decide) (fun hc7 => ?_) (fun hc7 => ?_)
    · replace hf := ite_t hf hc7
      refine lv_bipush (v := (-2)) hx hb dX8_shut_22 (by decide) ?_
      have hq9 := Option.some.inj hf
      subst hq9
      subst hQ
      exact r_iret X hG dX8_shut_24
    · replace hf := ite_f hf hc7
      refine lv_iload_n hx hb dX8_shut_12 rfl (lv_at hl 2 rfl) ?_
      refine lv_iload_n hx hb dX8_shut_13 rfl (lv_at hl 1 rfl) ?_
      refine lv_bipush (v := 119) hx hb dX8_shut_14 (by decide) ?_
      obtain ⟨q8, hq8, hf⟩ := cl_inv hf
      refine r_callSi (bc := []) (br := [wX8 g o ad s0]) (bs' := [wX8 g o ad s0]) (As := [.int a2, .int a1, .int 119]) (rest := []) X hG hl.1 (c_X8_in g l  n a2 a1 119 q8 hq8) (List.Perm.refl _) (List.Perm.refl _) lk_X8_in ls_X8_in ml_8_132 rfl rfl ⟨Nat.le_of_ble_eq_true rfl, Nat.le_of_ble_eq_true rfl⟩ rfl rfl (Nat.le_of_ble_eq_true rfl) ⟨Nat.zero_le _, Nat.zero_le _⟩ dX8_shut_16 (fun H locs hG => ?_)
      refine lv_if_ne (tgt := 25) hx hb dX8_shut_19 (by decide) (fun hc9 => ?_) (fun hc9 => ?_)
      · replace hf := ite_f hf hc9
        exact hK2 _ hf _ _ _ hG (lv_sub hl [0, 1, 2] rfl)
      · replace hf := ite_t hf hc9
        refine lv_bipush (v := (-2)) hx hb dX8_shut_22 (by decide) ?_
        have hq9 := Option.some.inj hf
        subst hq9
        subst hQ
        exact r_iret X hG dX8_shut_24
def rmX8_isShut : Room := { frames := 0, cells := 0, slots := 0, locals := 0 }
set_option maxHeartbeats 4000000 in
set_option maxRecDepth 100000 in
theorem c_X8_isShut (g : GT) (l : Launch) (o : Nat) (ad : Nat → Nat) (n : Nat) (a1 : Int32) (s0 : MS) (q : Int32) (hf : f_X8_isShut n a1 s0 = some q) : CI g l yX8_isShut cX8_isShut 2 (some .boolean) rmX8_isShut [.ref o, .int a1] [wX8 g o ad s0] q [wX8 g o ad s0] := by
  refine CI_intro RX8 rfl (by decide +kernel) (Nat.le_of_ble_eq_true rfl) ?_
  intro p e s m args below meth c A ls Q hQ X hl hG
  have hl : lv_has ls 2 [(0, .ref o), (1, .int a1)] := hl
  have hx := X.1
  have hb := X.2.1
  have hown := X.2.2.2.1
  unfold f_X8_isShut at hf
  refine lv_aload_n hx hb dX8_isShut_0 rfl (lv_at hl 0 rfl) ?_
  refine G_8_47 X hG 0 rfl dX8_isShut_1 ?_
  refine lv_if_lt (tgt := 27) hx hb dX8_isShut_4 (by decide) (fun hc1 => ?_) (fun hc1 => ?_)
  · replace hf := ite_t hf hc1
    refine lv_iconst (v := 0) hx hb dX8_isShut_27 (by decide) ?_
    obtain ⟨hz, hf⟩ := ck_inv hf
    have hq9 := Option.some.inj hf
    subst hq9
    subst hQ
    exact r_zret X hG (of_decide_eq_true hz) dX8_isShut_28
  · replace hf := ite_f hf hc1
    refine lv_iload_n hx hb dX8_isShut_7 rfl (lv_at hl 1 rfl) ?_
    refine lv_aload_n hx hb dX8_isShut_8 rfl (lv_at hl 0 rfl) ?_
    refine G_8_47 X hG 0 rfl dX8_isShut_9 ?_
    refine lv_icmp_lt (tgt := 27) hx hb dX8_isShut_12 (by decide) (fun hc2 => ?_) (fun hc2 => ?_)
    · replace hf := ite_t hf hc2
      refine lv_iconst (v := 0) hx hb dX8_isShut_27 (by decide) ?_
      obtain ⟨hz, hf⟩ := ck_inv hf
      have hq9 := Option.some.inj hf
      subst hq9
      subst hQ
      exact r_zret X hG (of_decide_eq_true hz) dX8_isShut_28
    · replace hf := ite_f hf hc2
      refine lv_iload_n hx hb dX8_isShut_15 rfl (lv_at hl 1 rfl) ?_
      refine lv_aload_n hx hb dX8_isShut_16 rfl (lv_at hl 0 rfl) ?_
      refine G_8_149 X hG 0 rfl dX8_isShut_17 ?_
      refine lv_icmp_gt (tgt := 27) hx hb dX8_isShut_20 (by decide) (fun hc3 => ?_) (fun hc3 => ?_)
      · replace hf := ite_t hf hc3
        refine lv_iconst (v := 0) hx hb dX8_isShut_27 (by decide) ?_
        obtain ⟨hz, hf⟩ := ck_inv hf
        have hq9 := Option.some.inj hf
        subst hq9
        subst hQ
        exact r_zret X hG (of_decide_eq_true hz) dX8_isShut_28
      · replace hf := ite_f hf hc3
        refine lv_iconst (v := 1) hx hb dX8_isShut_23 (by decide) ?_
        refine lv_goto (tgt := 28) hx hb dX8_isShut_24 (by decide) ?_
        obtain ⟨hz, hf⟩ := ck_inv hf
        have hq9 := Option.some.inj hf
        subst hq9
        subst hQ
        exact r_zret X hG (of_decide_eq_true hz) dX8_isShut_28
def rmX8_calls : Room := { frames := 0, cells := 0, slots := 0, locals := 0 }
set_option maxHeartbeats 4000000 in
set_option maxRecDepth 100000 in
theorem c_X8_calls (g : GT) (l : Launch) (o : Nat) (ad : Nat → Nat) (n : Nat) (a1 : Int32) (a2 : Int32) (s0 : MS) (q : Int32) (hf : f_X8_calls n a1 a2 s0 = some q) : CI g l yX8_calls cX8_calls 5 (some .int) rmX8_calls [.ref o, .int a1, .int a2] [wX8 g o ad s0] q [wX8 g o ad s0] := by
  refine CI_intro RX8 rfl (by decide +kernel) (Nat.le_of_ble_eq_true rfl) ?_
  intro p e s m args below meth c A ls Q hQ X hl hG
  have hl : lv_has ls 5 [(0, .ref o), (1, .int a1), (2, .int a2)] := hl
  have hx := X.1
  have hb := X.2.1
  have hown := X.2.2.2.1
  unfold f_X8_calls at hf
  refine lv_aload_n hx hb dX8_calls_0 rfl (lv_at hl 0 rfl) ?_
  refine G_8_50 X hG 0 rfl dX8_calls_1 ?_
  refine lv_if_lt (tgt := 39) hx hb dX8_calls_4 (by decide) (fun hc1 => ?_) (fun hc1 => ?_)
  · replace hf := ite_t hf hc1
    refine lv_aload_n hx hb dX8_calls_39 rfl (lv_at hl 0 rfl) ?_
    refine G_8_31 X hG 0 rfl dX8_calls_40 ?_
    refine lv_iload_n hx hb dX8_calls_43 rfl (lv_at hl 1 rfl) ?_
    refine r_iald X hG 0 8 rfl rfl hf dX8_calls_44 (fun x2 hf => ?_)
    refine lv_if_eq (tgt := 78) hx hb dX8_calls_45 (by decide) (fun hc3 => ?_) (fun hc3 => ?_)
    · replace hf := ite_t hf hc3
      refine lv_iconst (v := 0) hx hb dX8_calls_78 (by decide) ?_
      have hq9 := Option.some.inj hf
      subst hq9
      subst hQ
      exact r_iret X hG dX8_calls_79
    · replace hf := ite_f hf hc3
      refine lv_aload_n hx hb dX8_calls_48 rfl (lv_at hl 0 rfl) ?_
      refine G_8_31 X hG 0 rfl dX8_calls_49 ?_
      refine lv_iload_n hx hb dX8_calls_52 rfl (lv_at hl 1 rfl) ?_
      refine r_iald X hG 0 8 rfl rfl hf dX8_calls_53 (fun x4 hf => ?_)
      refine lv_iconst (v := 2) hx hb dX8_calls_54 (by decide) ?_
      refine lv_icmp_eq (tgt := 78) hx hb dX8_calls_55 (by decide) (fun hc5 => ?_) (fun hc5 => ?_)
      · replace hf := ite_t hf hc5
        refine lv_iconst (v := 0) hx hb dX8_calls_78 (by decide) ?_
        have hq9 := Option.some.inj hf
        subst hq9
        subst hQ
        exact r_iret X hG dX8_calls_79
      · replace hf := ite_f hf hc5
        refine lv_aload_n hx hb dX8_calls_58 rfl (lv_at hl 0 rfl) ?_
        refine G_8_31 X hG 0 rfl dX8_calls_59 ?_
        refine lv_iload_n hx hb dX8_calls_62 rfl (lv_at hl 1 rfl) ?_
        refine r_iald X hG 0 8 rfl rfl hf dX8_calls_63 (fun x6 hf => ?_)
        refine lv_iconst (v := 4) hx hb dX8_calls_64 (by decide) ?_
        refine lv_icmp_eq (tgt := 78) hx hb dX8_calls_65 (by decide) (fun hc7 => ?_) (fun hc7 => ?_)
        · replace hf := ite_t hf hc7
          refine lv_iconst (v := 0) hx hb dX8_calls_78 (by decide) ?_
          have hq9 := Option.some.inj hf
          subst hq9
          subst hQ
          exact r_iret X hG dX8_calls_79
        · replace hf := ite_f hf hc7
          refine lv_iload_n hx hb dX8_calls_68 rfl (lv_at hl 2 rfl) ?_
          refine lv_aload_n hx hb dX8_calls_69 rfl (lv_at hl 0 rfl) ?_
          refine G_8_34 X hG 0 rfl dX8_calls_70 ?_
          refine lv_iload_n hx hb dX8_calls_73 rfl (lv_at hl 1 rfl) ?_
          refine r_iald X hG 0 9 rfl rfl hf dX8_calls_74 (fun x8 hf => ?_)
          refine lv_icmp_ge (tgt := 80) hx hb dX8_calls_75 (by decide) (fun hc9 => ?_) (fun hc9 => ?_)
          · replace hf := ite_t hf hc9
            refine lv_aload_n hx hb dX8_calls_80 rfl (lv_at hl 0 rfl) ?_
            refine G_8_37 X hG 0 rfl dX8_calls_81 ?_
            refine lv_iload_n hx hb dX8_calls_84 rfl (lv_at hl 1 rfl) ?_
            refine r_iald X hG 0 10 rfl rfl hf dX8_calls_85 (fun x10 hf => ?_)
            refine lv_istore_n (lv' := [(3, .int x10), (0, .ref o), (1, .int a1), (2, .int a2)]) hx hb dX8_calls_86 rfl hl (by decide) rfl (fun ls hl => ?_)
            refine lv_aload_n hx hb dX8_calls_87 rfl (lv_at hl 1 rfl) ?_
            refine G_8_31 X hG 0 rfl dX8_calls_88 ?_
            refine lv_iload_n hx hb dX8_calls_91 rfl (lv_at hl 2 rfl) ?_
            refine r_iald X hG 0 8 rfl rfl hf dX8_calls_92 (fun x11 hf => ?_)
            refine lv_iconst (v := 1) hx hb dX8_calls_93 (by decide) ?_
            refine lv_icmp_ne (tgt := 99) hx hb dX8_calls_94 (by decide) (fun hc12 => ?_) (fun hc12 => ?_)
            · replace hf := ite_f hf hc12
              refine lv_iload_n hx hb dX8_calls_99 rfl (lv_at hl 3 rfl) ?_
              refine lv_aload_n hx hb dX8_calls_100 rfl (lv_at hl 1 rfl) ?_
              refine G_8_34 X hG 0 rfl dX8_calls_101 ?_
              refine lv_iload_n hx hb dX8_calls_104 rfl (lv_at hl 2 rfl) ?_
              refine r_iald X hG 0 9 rfl rfl hf dX8_calls_105 (fun x13 hf => ?_)
              refine lv_isub hx hb dX8_calls_106 ?_
              refine lv_bipush (v := 10) hx hb dX8_calls_107 (by decide) ?_
              refine r_irem X hf dX8_calls_109 (fun hf => ?_)
              refine jn_use (P := fun (t14 : Int32) => ∀ (H : Heap) (locs : List Loc) (ls : Array Slot), GM g A s.heap H locs [wX8 g o ad s0] → lv_has ls 5 [(0, .ref o), (1, .int a1)] → W p l e rmX8_calls s m args below meth c H locs 0 0 Q (F0 m 120 ls [.int t14])) hf (fun t14 hf H locs ls hG hl => ?_) (fun K15 hK15 hf => ?_)
              · refine lv_istore (lv' := [(4, .int t14), (0, .ref o), (1, .int a1)]) hx hb dX8_calls_120 hl (by decide) rfl (fun ls hl => ?_)
                refine lv_aload_n hx hb dX8_calls_122 rfl (lv_at hl 1 rfl) ?_
                refine G_8_31 X hG 0 rfl dX8_calls_123 ?_
                refine lv_iload_n hx hb dX8_calls_126 rfl (lv_at hl 2 rfl) ?_
                refine r_iald X hG 0 8 rfl rfl hf dX8_calls_127 (fun x16 hf => ?_)
                refine lv_iconst (v := 3) hx hb dX8_calls_128 (by decide) ?_
                refine lv_icmp_ne (tgt := 137) hx hb dX8_calls_129 (by decide) (fun hc17 => ?_) (fun hc17 => ?_)
                · replace hf := ite_f hf hc17
                  refine lv_iconst (v := 2) hx hb dX8_calls_137 (by decide) ?_
                  refine lv_iload hx hb dX8_calls_138 (lv_at hl 0 rfl) ?_
                  refine lv_imul hx hb dX8_calls_140 ?_
                  have hq9 := Option.some.inj hf
                  subst hq9
                  subst hQ
                  exact r_iret X hG dX8_calls_141
                · replace hf := ite_t hf hc17
                  refine lv_iload hx hb dX8_calls_132 (lv_at hl 0 rfl) ?_
                  refine lv_goto (tgt := 141) hx hb dX8_calls_134 (by decide) ?_
                  have hq9 := Option.some.inj hf
                  subst hq9
                  subst hQ
                  exact r_iret X hG dX8_calls_141
              refine lv_if_ne (tgt := 119) hx hb dX8_calls_110 (by decide) (fun hc18 => ?_) (fun hc18 => ?_)
              · replace hf := ite_f hf hc18
                refine lv_iload_n hx hb dX8_calls_119 rfl (lv_at hl 0 rfl) ?_
                exact hK15 _ hf _ _ _ hG (lv_sub hl [1, 2] rfl)
              · replace hf := ite_t hf hc18
                refine lv_iload_n hx hb dX8_calls_113 rfl (lv_at hl 0 rfl) ?_
                refine lv_iconst (v := 5) hx hb dX8_calls_114 (by decide) ?_
                refine lv_iadd hx hb dX8_calls_115 ?_
                refine lv_goto (tgt := 120) hx hb dX8_calls_116 (by decide) ?_
                exact hK15 _ hf _ _ _ hG (lv_sub hl [1, 2] rfl)
            · replace hf := ite_t hf hc12
              refine lv_iload_n hx hb dX8_calls_97 rfl (lv_at hl 0 rfl) ?_
              have hq9 := Option.some.inj hf
              subst hq9
              subst hQ
              exact r_iret X hG dX8_calls_98
          · replace hf := ite_f hf hc9
            refine lv_iconst (v := 0) hx hb dX8_calls_78 (by decide) ?_
            have hq9 := Option.some.inj hf
            subst hq9
            subst hQ
            exact r_iret X hG dX8_calls_79
  · replace hf := ite_f hf hc1
    refine lv_iload_n hx hb dX8_calls_7 rfl (lv_at hl 2 rfl) ?_
    refine lv_aload_n hx hb dX8_calls_8 rfl (lv_at hl 0 rfl) ?_
    refine G_8_117 X hG 0 rfl dX8_calls_9 ?_
    refine lv_aload_n hx hb dX8_calls_12 rfl (lv_at hl 0 rfl) ?_
    refine G_8_50 X hG 0 rfl dX8_calls_13 ?_
    refine r_iald X hG 0 32 rfl rfl hf dX8_calls_16 (fun x19 hf => ?_)
    refine lv_icmp_ge (tgt := 37) hx hb dX8_calls_17 (by decide) (fun hc20 => ?_) (fun hc20 => ?_)
    · replace hf := ite_t hf hc20
      refine lv_iconst (v := 0) hx hb dX8_calls_37 (by decide) ?_
      have hq9 := Option.some.inj hf
      subst hq9
      subst hQ
      exact r_iret X hG dX8_calls_38
    · replace hf := ite_f hf hc20
      refine lv_aload_n hx hb dX8_calls_20 rfl (lv_at hl 0 rfl) ?_
      refine G_8_120 X hG 0 rfl dX8_calls_21 ?_
      refine lv_bipush (v := 40) hx hb dX8_calls_24 (by decide) ?_
      refine lv_aload_n hx hb dX8_calls_26 rfl (lv_at hl 0 rfl) ?_
      refine G_8_50 X hG 0 rfl dX8_calls_27 ?_
      refine lv_imul hx hb dX8_calls_30 ?_
      refine lv_iload_n hx hb dX8_calls_31 rfl (lv_at hl 2 rfl) ?_
      refine lv_iadd hx hb dX8_calls_32 ?_
      refine r_iald X hG 0 33 rfl rfl hf dX8_calls_33 (fun x21 hf => ?_)
      refine lv_goto (tgt := 38) hx hb dX8_calls_34 (by decide) ?_
      have hq9 := Option.some.inj hf
      subst hq9
      subst hQ
      exact r_iret X hG dX8_calls_38
def rmX8_asks : Room := { frames := 0, cells := 0, slots := 0, locals := 0 }
set_option maxHeartbeats 4000000 in
set_option maxRecDepth 100000 in
theorem c_X8_asks (g : GT) (l : Launch) (o : Nat) (ad : Nat → Nat) (n : Nat) (a1 : Int32) (a2 : Int32) (s0 : MS) (q : Int32) (hf : f_X8_asks n a1 a2 s0 = some q) : CI g l yX8_asks cX8_asks 4 (some .int) rmX8_asks [.ref o, .int a1, .int a2] [wX8 g o ad s0] q [wX8 g o ad s0] := by
  refine CI_intro RX8 rfl (by decide +kernel) (Nat.le_of_ble_eq_true rfl) ?_
  intro p e s m args below meth c A ls Q hQ X hl hG
  have hl : lv_has ls 4 [(0, .ref o), (1, .int a1), (2, .int a2)] := hl
  have hx := X.1
  have hb := X.2.1
  have hown := X.2.2.2.1
  unfold f_X8_asks at hf
  refine lv_aload_n hx hb dX8_asks_0 rfl (lv_at hl 0 rfl) ?_
  refine G_8_50 X hG 0 rfl dX8_asks_1 ?_
  refine lv_if_lt (tgt := 9) hx hb dX8_asks_4 (by decide) (fun hc1 => ?_) (fun hc1 => ?_)
  · replace hf := ite_t hf hc1
    refine lv_iload_n hx hb dX8_asks_9 rfl (lv_at hl 2 rfl) ?_
    refine lv_aload_n hx hb dX8_asks_10 rfl (lv_at hl 0 rfl) ?_
    refine G_8_34 X hG 0 rfl dX8_asks_11 ?_
    refine lv_iload_n hx hb dX8_asks_14 rfl (lv_at hl 1 rfl) ?_
    refine r_iald X hG 0 9 rfl rfl hf dX8_asks_15 (fun x2 hf => ?_)
    refine jn_use (P := fun (t3 : Int32) => ∀ (H : Heap) (locs : List Loc) (ls : Array Slot), GM g A s.heap H locs [wX8 g o ad s0] → lv_has ls 4 [(0, .ref o), (1, .int a1)] → W p l e rmX8_asks s m args below meth c H locs 0 0 Q (F0 m 31 ls [.int t3])) hf (fun t3 hf H locs ls hG hl => ?_) (fun K4 hK4 hf => ?_)
    · refine lv_istore_n (lv' := [(3, .int t3), (0, .ref o), (1, .int a1)]) hx hb dX8_asks_31 rfl hl (by decide) rfl (fun ls hl => ?_)
      refine lv_aload_n hx hb dX8_asks_32 rfl (lv_at hl 1 rfl) ?_
      refine G_8_31 X hG 0 rfl dX8_asks_33 ?_
      refine lv_iload_n hx hb dX8_asks_36 rfl (lv_at hl 2 rfl) ?_
      refine r_iald X hG 0 8 rfl rfl hf dX8_asks_37 (fun x5 hf => ?_)
      by_cases hk6_0 : x5 = 2
      · replace hf := ite_t hf hk6_0
        refine r_tsi (tgt := 68) (off := 30) X dX8_asks_38 hk6_0 (by decide +kernel) (by decide +kernel) (by decide) ?_
        refine lv_iload_n hx hb dX8_asks_68 rfl (lv_at hl 0 rfl) ?_
        have hq9 := Option.some.inj hf
        subst hq9
        subst hQ
        exact r_iret X hG dX8_asks_69
      · replace hf := ite_f hf hk6_0
        by_cases hk6_1 : x5 = 3
        · replace hf := ite_t hf hk6_1
          refine r_tsi (tgt := 74) (off := 36) X dX8_asks_38 hk6_1 (by decide +kernel) (by decide +kernel) (by decide) ?_
          refine lv_iconst (v := 0) hx hb dX8_asks_74 (by decide) ?_
          have hq9 := Option.some.inj hf
          subst hq9
          subst hQ
          exact r_iret X hG dX8_asks_75
        · replace hf := ite_f hf hk6_1
          by_cases hk6_2 : x5 = 4
          · replace hf := ite_t hf hk6_2
            refine r_tsi (tgt := 70) (off := 32) X dX8_asks_38 hk6_2 (by decide +kernel) (by decide +kernel) (by decide) ?_
            refine lv_iconst (v := 2) hx hb dX8_asks_70 (by decide) ?_
            refine lv_iload_n hx hb dX8_asks_71 rfl (lv_at hl 0 rfl) ?_
            refine lv_imul hx hb dX8_asks_72 ?_
            have hq9 := Option.some.inj hf
            subst hq9
            subst hQ
            exact r_iret X hG dX8_asks_73
          · replace hf := ite_f hf hk6_2
            by_cases hk6_3 : x5 = 5
            · replace hf := ite_t hf hk6_3
              refine r_tsi (tgt := 76) (off := 38) X dX8_asks_38 hk6_3 (by decide +kernel) (by decide +kernel) (by decide) ?_
              refine lv_aload_n hx hb dX8_asks_76 rfl (lv_at hl 1 rfl) ?_
              refine G_8_37 X hG 0 rfl dX8_asks_77 ?_
              refine lv_iload_n hx hb dX8_asks_80 rfl (lv_at hl 2 rfl) ?_
              refine r_iald X hG 0 10 rfl rfl hf dX8_asks_81 (fun x7 hf => ?_)
              have hq9 := Option.some.inj hf
              subst hq9
              subst hQ
              exact r_iret X hG dX8_asks_82
            · replace hf := ite_f hf hk6_3
              refine r_tso (tgt := 83) X dX8_asks_38 (ks := [2, 3, 4, 5]) (List.forall_mem_cons.mpr ⟨hk6_0, List.forall_mem_cons.mpr ⟨hk6_1, List.forall_mem_cons.mpr ⟨hk6_2, List.forall_mem_cons.mpr ⟨hk6_3, List.forall_mem_nil _⟩⟩⟩⟩) (by decide +kernel) (by decide) ?_
              refine lv_iconst (v := 1) hx hb dX8_asks_83 (by decide) ?_
              have hq9 := Option.some.inj hf
              subst hq9
              subst hQ
              exact r_iret X hG dX8_asks_84
    refine lv_icmp_lt (tgt := 30) hx hb dX8_asks_16 (by decide) (fun hc8 => ?_) (fun hc8 => ?_)
    · replace hf := ite_t hf hc8
      refine lv_iconst (v := 1) hx hb dX8_asks_30 (by decide) ?_
      exact hK4 _ hf _ _ _ hG (lv_sub hl [0, 1] rfl)
    · replace hf := ite_f hf hc8
      refine lv_iconst (v := 1) hx hb dX8_asks_19 (by decide) ?_
      refine lv_aload_n hx hb dX8_asks_20 rfl (lv_at hl 0 rfl) ?_
      refine G_8_37 X hG 0 rfl dX8_asks_21 ?_
      refine lv_iload_n hx hb dX8_asks_24 rfl (lv_at hl 1 rfl) ?_
      refine r_iald X hG 0 10 rfl rfl hf dX8_asks_25 (fun x9 hf => ?_)
      refine lv_iadd hx hb dX8_asks_26 ?_
      refine lv_goto (tgt := 31) hx hb dX8_asks_27 (by decide) ?_
      exact hK4 _ hf _ _ _ hG (lv_sub hl [0, 1] rfl)
  · replace hf := ite_f hf hc1
    refine lv_iconst (v := 1) hx hb dX8_asks_7 (by decide) ?_
    have hq9 := Option.some.inj hf
    subst hq9
    subst hQ
    exact r_iret X hG dX8_asks_8
def rmX8_orderOf : Room := { frames := 0, cells := 0, slots := 0, locals := 0 }
set_option maxHeartbeats 4000000 in
set_option maxRecDepth 100000 in
theorem c_X8_orderOf (g : GT) (l : Launch) (o : Nat) (ad : Nat → Nat) (n : Nat) (a1 : Int32) (s0 : MS) (q : Int32) (hf : f_X8_orderOf n a1 s0 = some q) : CI g l yX8_orderOf cX8_orderOf 2 (some .int) rmX8_orderOf [.ref o, .int a1] [wX8 g o ad s0] q [wX8 g o ad s0] := by
  refine CI_intro RX8 rfl (by decide +kernel) (Nat.le_of_ble_eq_true rfl) ?_
  intro p e s m args below meth c A ls Q hQ X hl hG
  have hl : lv_has ls 2 [(0, .ref o), (1, .int a1)] := hl
  have hx := X.1
  have hb := X.2.1
  have hown := X.2.2.2.1
  unfold f_X8_orderOf at hf
  refine lv_aload_n hx hb dX8_orderOf_0 rfl (lv_at hl 0 rfl) ?_
  refine G_8_50 X hG 0 rfl dX8_orderOf_1 ?_
  refine lv_if_lt (tgt := 11) hx hb dX8_orderOf_4 (by decide) (fun hc1 => ?_) (fun hc1 => ?_)
  · replace hf := ite_t hf hc1
    refine lv_aload_n hx hb dX8_orderOf_11 rfl (lv_at hl 0 rfl) ?_
    refine G_8_31 X hG 0 rfl dX8_orderOf_12 ?_
    refine lv_iload_n hx hb dX8_orderOf_15 rfl (lv_at hl 1 rfl) ?_
    refine r_iald X hG 0 8 rfl rfl hf dX8_orderOf_16 (fun x2 hf => ?_)
    refine lv_iconst (v := 3) hx hb dX8_orderOf_17 (by decide) ?_
    refine lv_icmp_eq (tgt := 31) hx hb dX8_orderOf_18 (by decide) (fun hc3 => ?_) (fun hc3 => ?_)
    · replace hf := ite_t hf hc3
      refine lv_iconst (v := 1) hx hb dX8_orderOf_31 (by decide) ?_
      refine lv_goto (tgt := 50) hx hb dX8_orderOf_32 (by decide) ?_
      have hq9 := Option.some.inj hf
      subst hq9
      subst hQ
      exact r_iret X hG dX8_orderOf_50
    · replace hf := ite_f hf hc3
      refine lv_aload_n hx hb dX8_orderOf_21 rfl (lv_at hl 0 rfl) ?_
      refine G_8_31 X hG 0 rfl dX8_orderOf_22 ?_
      refine lv_iload_n hx hb dX8_orderOf_25 rfl (lv_at hl 1 rfl) ?_
      refine r_iald X hG 0 8 rfl rfl hf dX8_orderOf_26 (fun x4 hf => ?_)
      refine lv_iconst (v := 5) hx hb dX8_orderOf_27 (by decide) ?_
      refine lv_icmp_ne (tgt := 35) hx hb dX8_orderOf_28 (by decide) (fun hc5 => ?_) (fun hc5 => ?_)
      · replace hf := ite_f hf hc5
        refine lv_aload_n hx hb dX8_orderOf_35 rfl (lv_at hl 0 rfl) ?_
        refine G_8_31 X hG 0 rfl dX8_orderOf_36 ?_
        refine lv_iload_n hx hb dX8_orderOf_39 rfl (lv_at hl 1 rfl) ?_
        refine r_iald X hG 0 8 rfl rfl hf dX8_orderOf_40 (fun x6 hf => ?_)
        refine lv_iconst (v := 4) hx hb dX8_orderOf_41 (by decide) ?_
        refine lv_icmp_ne (tgt := 49) hx hb dX8_orderOf_42 (by decide) (fun hc7 => ?_) (fun hc7 => ?_)
        · replace hf := ite_f hf hc7
          refine lv_iconst (v := 0) hx hb dX8_orderOf_49 (by decide) ?_
          have hq9 := Option.some.inj hf
          subst hq9
          subst hQ
          exact r_iret X hG dX8_orderOf_50
        · replace hf := ite_t hf hc7
          refine lv_iconst (v := 2) hx hb dX8_orderOf_45 (by decide) ?_
          refine lv_goto (tgt := 50) hx hb dX8_orderOf_46 (by decide) ?_
          have hq9 := Option.some.inj hf
          subst hq9
          subst hQ
          exact r_iret X hG dX8_orderOf_50
      · replace hf := ite_t hf hc5
        refine lv_iconst (v := 1) hx hb dX8_orderOf_31 (by decide) ?_
        refine lv_goto (tgt := 50) hx hb dX8_orderOf_32 (by decide) ?_
        have hq9 := Option.some.inj hf
        subst hq9
        subst hQ
        exact r_iret X hG dX8_orderOf_50
  · replace hf := ite_f hf hc1
    refine lv_iconst (v := 0) hx hb dX8_orderOf_7 (by decide) ?_
    refine lv_goto (tgt := 50) hx hb dX8_orderOf_8 (by decide) ?_
    have hq9 := Option.some.inj hf
    subst hq9
    subst hQ
    exact r_iret X hG dX8_orderOf_50
def rmX8_told : Room := { frames := 2, cells := 0, slots := 0, locals := 43 }
set_option maxHeartbeats 4000000 in
set_option maxRecDepth 100000 in
theorem c_X8_told (g : GT) (l : Launch) (o : Nat) (ad : Nat → Nat) (n : Nat) (a1 : Int32) (a2 : Int32) (a3 : Int32) (s0 : MS) (q : Int32) (hf : f_X8_told n a1 a2 a3 s0 = some q) : CI g l yX8_told cX8_told 4 (some .int) rmX8_told [.ref o, .int a1, .int a2, .int a3] [wX8 g o ad s0] q [wX8 g o ad s0] := by
  refine CI_intro RX8 rfl (by decide +kernel) (Nat.le_of_ble_eq_true rfl) ?_
  intro p e s m args below meth c A ls Q hQ X hl hG
  have hl : lv_has ls 4 [(0, .ref o), (1, .int a1), (2, .int a2), (3, .int a3)] := hl
  have hx := X.1
  have hb := X.2.1
  have hown := X.2.2.2.1
  unfold f_X8_told at hf
  refine lv_aload_n hx hb dX8_told_0 rfl (lv_at hl 0 rfl) ?_
  refine lv_iload_n hx hb dX8_told_1 rfl (lv_at hl 1 rfl) ?_
  obtain ⟨q1, hq1, hf⟩ := cl_inv hf
  refine r_callVi (bc := [wX8 g o ad s0]) (br := []) (bs' := [wX8 g o ad s0]) (As := [.int a1]) (rest := []) X hG hl.1 (c_X8_isWay g l o ad n a1 s0 q1 hq1) (List.Perm.refl _) (List.Perm.refl _) lk_X8_isWay lv_X8_isWay ml_8_152 (j := 0) (k := 0) rfl rfl rfl rfl rfl ⟨Nat.le_of_ble_eq_true rfl, Nat.le_of_ble_eq_true rfl⟩ rfl rfl (Nat.le_of_ble_eq_true rfl) ⟨Nat.zero_le _, Nat.zero_le _⟩ dX8_told_2 (fun H locs hG => ?_)
  refine lv_if_eq (tgt := 15) hx hb dX8_told_5 (by decide) (fun hc2 => ?_) (fun hc2 => ?_)
  · replace hf := ite_t hf hc2
    refine lv_bipush (v := (-2)) hx hb dX8_told_15 (by decide) ?_
    have hq9 := Option.some.inj hf
    subst hq9
    subst hQ
    exact r_iret X hG dX8_told_17
  · replace hf := ite_f hf hc2
    refine lv_iload_n hx hb dX8_told_8 rfl (lv_at hl 2 rfl) ?_
    obtain ⟨q3, hq3, hf⟩ := cl_inv hf
    refine r_callSi (bc := []) (br := [wX8 g o ad s0]) (bs' := [wX8 g o ad s0]) (As := [.int a2]) (rest := []) X hG hl.1 (c_X8_isMinute g l  n a2 q3 hq3) (List.Perm.refl _) (List.Perm.refl _) lk_X8_isMinute ls_X8_isMinute ml_8_139 rfl rfl ⟨Nat.le_of_ble_eq_true rfl, Nat.le_of_ble_eq_true rfl⟩ rfl rfl (Nat.le_of_ble_eq_true rfl) ⟨Nat.zero_le _, Nat.zero_le _⟩ dX8_told_9 (fun H locs hG => ?_)
    refine lv_if_ne (tgt := 18) hx hb dX8_told_12 (by decide) (fun hc4 => ?_) (fun hc4 => ?_)
    · replace hf := ite_f hf hc4
      refine lv_iload_n hx hb dX8_told_18 rfl (lv_at hl 3 rfl) ?_
      by_cases hk5_0 : a3 = 0
      · replace hf := ite_t hf hk5_0
        refine r_tsi (tgt := 52) (off := 33) X dX8_told_19 hk5_0 (by decide +kernel) (by decide +kernel) (by decide) ?_
        refine lv_aload_n hx hb dX8_told_52 rfl (lv_at hl 0 rfl) ?_
        refine G_8_31 X hG 0 rfl dX8_told_53 ?_
        refine lv_iload_n hx hb dX8_told_56 rfl (lv_at hl 1 rfl) ?_
        refine r_iald X hG 0 8 rfl rfl hf dX8_told_57 (fun x6 hf => ?_)
        have hq9 := Option.some.inj hf
        subst hq9
        subst hQ
        exact r_iret X hG dX8_told_58
      · replace hf := ite_f hf hk5_0
        by_cases hk5_1 : a3 = 1
        · replace hf := ite_t hf hk5_1
          refine r_tsi (tgt := 59) (off := 40) X dX8_told_19 hk5_1 (by decide +kernel) (by decide +kernel) (by decide) ?_
          refine lv_aload_n hx hb dX8_told_59 rfl (lv_at hl 0 rfl) ?_
          refine G_8_34 X hG 0 rfl dX8_told_60 ?_
          refine lv_iload_n hx hb dX8_told_63 rfl (lv_at hl 1 rfl) ?_
          refine r_iald X hG 0 9 rfl rfl hf dX8_told_64 (fun x7 hf => ?_)
          have hq9 := Option.some.inj hf
          subst hq9
          subst hQ
          exact r_iret X hG dX8_told_65
        · replace hf := ite_f hf hk5_1
          by_cases hk5_2 : a3 = 2
          · replace hf := ite_t hf hk5_2
            refine r_tsi (tgt := 66) (off := 47) X dX8_told_19 hk5_2 (by decide +kernel) (by decide +kernel) (by decide) ?_
            refine lv_aload_n hx hb dX8_told_66 rfl (lv_at hl 0 rfl) ?_
            refine G_8_37 X hG 0 rfl dX8_told_67 ?_
            refine lv_iload_n hx hb dX8_told_70 rfl (lv_at hl 1 rfl) ?_
            refine r_iald X hG 0 10 rfl rfl hf dX8_told_71 (fun x8 hf => ?_)
            have hq9 := Option.some.inj hf
            subst hq9
            subst hQ
            exact r_iret X hG dX8_told_72
          · replace hf := ite_f hf hk5_2
            by_cases hk5_3 : a3 = 3
            · replace hf := ite_t hf hk5_3
              refine r_tsi (tgt := 73) (off := 54) X dX8_told_19 hk5_3 (by decide +kernel) (by decide +kernel) (by decide) ?_
              refine lv_aload_n hx hb dX8_told_73 rfl (lv_at hl 0 rfl) ?_
              refine lv_iload_n hx hb dX8_told_74 rfl (lv_at hl 1 rfl) ?_
              refine lv_iload_n hx hb dX8_told_75 rfl (lv_at hl 2 rfl) ?_
              obtain ⟨q9, hq9, hf⟩ := cl_inv hf
              refine r_callVi (bc := [wX8 g o ad s0]) (br := []) (bs' := [wX8 g o ad s0]) (As := [.int a1, .int a2]) (rest := []) X hG hl.1 (c_X8_calls g l o ad n a1 a2 s0 q9 hq9) (List.Perm.refl _) (List.Perm.refl _) lk_X8_calls lv_X8_calls ml_8_155 (j := 0) (k := 0) rfl rfl rfl rfl rfl ⟨Nat.le_of_ble_eq_true rfl, Nat.le_of_ble_eq_true rfl⟩ rfl rfl (Nat.le_of_ble_eq_true rfl) ⟨Nat.zero_le _, Nat.zero_le _⟩ dX8_told_76 (fun H locs hG => ?_)
              have hq9 := Option.some.inj hf
              subst hq9
              subst hQ
              exact r_iret X hG dX8_told_79
            · replace hf := ite_f hf hk5_3
              by_cases hk5_4 : a3 = 4
              · replace hf := ite_t hf hk5_4
                refine r_tsi (tgt := 80) (off := 61) X dX8_told_19 hk5_4 (by decide +kernel) (by decide +kernel) (by decide) ?_
                refine lv_aload_n hx hb dX8_told_80 rfl (lv_at hl 0 rfl) ?_
                refine lv_iload_n hx hb dX8_told_81 rfl (lv_at hl 1 rfl) ?_
                refine lv_iload_n hx hb dX8_told_82 rfl (lv_at hl 2 rfl) ?_
                obtain ⟨q10, hq10, hf⟩ := cl_inv hf
                refine r_callVi (bc := [wX8 g o ad s0]) (br := []) (bs' := [wX8 g o ad s0]) (As := [.int a1, .int a2]) (rest := []) X hG hl.1 (c_X8_asks g l o ad n a1 a2 s0 q10 hq10) (List.Perm.refl _) (List.Perm.refl _) lk_X8_asks lv_X8_asks ml_8_159 (j := 0) (k := 0) rfl rfl rfl rfl rfl ⟨Nat.le_of_ble_eq_true rfl, Nat.le_of_ble_eq_true rfl⟩ rfl rfl (Nat.le_of_ble_eq_true rfl) ⟨Nat.zero_le _, Nat.zero_le _⟩ dX8_told_83 (fun H locs hG => ?_)
                have hq9 := Option.some.inj hf
                subst hq9
                subst hQ
                exact r_iret X hG dX8_told_86
              · replace hf := ite_f hf hk5_4
                refine r_tso (tgt := 87) X dX8_told_19 (ks := [0, 1, 2, 3, 4]) (List.forall_mem_cons.mpr ⟨hk5_0, List.forall_mem_cons.mpr ⟨hk5_1, List.forall_mem_cons.mpr ⟨hk5_2, List.forall_mem_cons.mpr ⟨hk5_3, List.forall_mem_cons.mpr ⟨hk5_4, List.forall_mem_nil _⟩⟩⟩⟩⟩) (by decide +kernel) (by decide) ?_
                refine lv_bipush (v := (-2)) hx hb dX8_told_87 (by decide) ?_
                have hq9 := Option.some.inj hf
                subst hq9
                subst hQ
                exact r_iret X hG dX8_told_89
    · replace hf := ite_t hf hc4
      refine lv_bipush (v := (-2)) hx hb dX8_told_15 (by decide) ?_
      have hq9 := Option.some.inj hf
      subst hq9
      subst hQ
      exact r_iret X hG dX8_told_17
def rmX8_feed : Room := { frames := 1, cells := 0, slots := 0, locals := 22 }
set_option maxHeartbeats 4000000 in
set_option maxRecDepth 100000 in
theorem c_X8_feed (g : GT) (l : Launch) (o : Nat) (ad : Nat → Nat) (n : Nat) (a1 : Int32) (a2 : Int64) (s0 : MS) (q : Int32 × MS) (hf : f_X8_feed n a1 a2 s0 = some q) : CI g l yX8_feed cX8_feed 5 (some .int) rmX8_feed [.ref o, .int a1, .long a2] [wX8 g o ad s0] q.1 [wX8 g o ad q.2] := by
  refine CI_intro RX8 rfl (by decide +kernel) (Nat.le_of_ble_eq_true rfl) ?_
  intro p e s m args below meth c A ls Q hQ X hl hG
  have hl : lv_has ls 5 [(0, .ref o), (1, .int a1), (2, .long a2)] := hl
  have hx := X.1
  have hb := X.2.1
  have hown := X.2.2.2.1
  unfold f_X8_feed at hf
  refine lv_iload_n hx hb dX8_feed_0 rfl (lv_at hl 1 rfl) ?_
  refine lv_iconst (v := 1) hx hb dX8_feed_1 (by decide) ?_
  refine lv_bipush (v := 8) hx hb dX8_feed_2 (by decide) ?_
  obtain ⟨q1, hq1, hf⟩ := cl_inv hf
  refine r_callSi (bc := []) (br := [wX8 g o ad s0]) (bs' := [wX8 g o ad s0]) (As := [.int a1, .int 1, .int 8]) (rest := []) X hG hl.1 (c_X8_in g l  n a1 1 8 q1 hq1) (List.Perm.refl _) (List.Perm.refl _) lk_X8_in ls_X8_in ml_8_132 rfl rfl ⟨Nat.le_of_ble_eq_true rfl, Nat.le_of_ble_eq_true rfl⟩ rfl rfl (Nat.le_of_ble_eq_true rfl) ⟨Nat.zero_le _, Nat.zero_le _⟩ dX8_feed_4 (fun H locs hG => ?_)
  refine lv_if_ne (tgt := 13) hx hb dX8_feed_7 (by decide) (fun hc2 => ?_) (fun hc2 => ?_)
  · replace hf := ite_f hf hc2
    refine lv_aload_n hx hb dX8_feed_13 rfl (lv_at hl 0 rfl) ?_
    refine G_8_162 X hG 0 rfl dX8_feed_14 ?_
    refine lv_iload_n hx hb dX8_feed_17 rfl (lv_at hl 1 rfl) ?_
    refine lv_iadd hx hb dX8_feed_18 ?_
    refine lv_sipush (v := 160) hx hb dX8_feed_19 (by decide) ?_
    refine lv_icmp_le (tgt := 28) hx hb dX8_feed_22 (by decide) (fun hc3 => ?_) (fun hc3 => ?_)
    · replace hf := ite_t hf hc3
      refine lv_iconst (v := 0) hx hb dX8_feed_28 (by decide) ?_
      refine lv_istore (lv' := [(4, .int 0), (0, .ref o), (1, .int a1), (2, .long a2)]) hx hb dX8_feed_29 hl (by decide) rfl (fun ls hl => ?_)
      refine lp_go (P := fun (t4 : Int32 × MS) => ∀ (H : Heap) (locs : List Loc) (ls : Array Slot), GM g A s.heap H locs [wX8 g o ad t4.2] → lv_has ls 5 [(0, .ref o), (1, .int a1), (2, .long a2), (4, .int t4.1)] → W p l e rmX8_feed s m args below meth c H locs 0 0 Q (F0 m 31 ls [])) hf (fun K5 hK5 t4 hf H locs ls hG hl => ?_) _ _ _ hG (lv_sub hl [1, 2, 3, 0] rfl)
      refine lv_iload hx hb dX8_feed_31 (lv_at hl 3 rfl) ?_
      refine lv_iload_n hx hb dX8_feed_33 rfl (lv_at hl 1 rfl) ?_
      refine lv_icmp_ge (tgt := 71) hx hb dX8_feed_34 (by decide) (fun hc6 => ?_) (fun hc6 => ?_)
      · replace hf := ite_t hf hc6
        refine lv_aload_n hx hb dX8_feed_71 rfl (lv_at hl 0 rfl) ?_
        refine G_8_162 X hG 0 rfl dX8_feed_72 ?_
        have hq9 := Option.some.inj hf
        subst hq9
        subst hQ
        exact r_iret X hG dX8_feed_75
      · replace hf := ite_f hf hc6
        refine lv_aload_n hx hb dX8_feed_37 rfl (lv_at hl 0 rfl) ?_
        refine G_8_53 X hG 0 rfl dX8_feed_38 ?_
        refine lv_aload_n hx hb dX8_feed_41 rfl (lv_at hl 0 rfl) ?_
        refine G_8_162 X hG 0 rfl dX8_feed_42 ?_
        refine lv_lload_n hx hb dX8_feed_45 rfl (lv_at hl 2 rfl) ?_
        refine lv_bipush (v := 8) hx hb dX8_feed_46 (by decide) ?_
        refine lv_iload hx hb dX8_feed_48 (lv_at hl 3 rfl) ?_
        refine lv_imul hx hb dX8_feed_50 ?_
        refine lv_lshr hx hb dX8_feed_51 rfl ?_
        refine lv_l2i hx hb dX8_feed_52 rfl ?_
        refine lv_i2b hx hb dX8_feed_53 rfl ?_
        refine r_bast X hG 0 12 rfl rfl hf (fun t => [wX8 g o ad t]) rfl dX8_feed_54 (fun z7 H locs hf hG => ?_)
        refine lv_aload_n hx hb dX8_feed_55 rfl (lv_at hl 0 rfl) ?_
        refine lv_dup hx hb dX8_feed_56 rfl ?_
        refine G_8_162 X hG 0 rfl dX8_feed_57 ?_
        refine lv_iconst (v := 1) hx hb dX8_feed_60 (by decide) ?_
        refine lv_iadd hx hb dX8_feed_61 ?_
        refine P_8_162 X hG 0 rfl hf (fun t => [wX8 g o ad t]) (fun _ => rfl) dX8_feed_62 (fun z8 H locs hf hG => ?_)
        refine lv_iinc (v := (t4.1 + 1)) (lv' := [(4, .int (t4.1 + 1)), (0, .ref o), (1, .int a1), (2, .long a2)]) hx hb dX8_feed_65 hl (k := 3) rfl rfl (by decide) rfl (fun ls hl => ?_)
        refine lv_goto (tgt := 31) hx hb dX8_feed_68 (by decide) ?_
        exact hK5 _ hf _ _ _ hG (lv_sub hl [1, 2, 3, 0] rfl)
    · replace hf := ite_f hf hc3
      refine lv_bipush (v := (-4)) hx hb dX8_feed_25 (by decide) ?_
      have hq9 := Option.some.inj hf
      subst hq9
      subst hQ
      exact r_iret X hG dX8_feed_27
  · replace hf := ite_t hf hc2
    refine lv_bipush (v := (-2)) hx hb dX8_feed_10 (by decide) ?_
    have hq9 := Option.some.inj hf
    subst hq9
    subst hQ
    exact r_iret X hG dX8_feed_12
def rmX8_isLetter : Room := { frames := 1, cells := 0, slots := 0, locals := 22 }
set_option maxHeartbeats 4000000 in
set_option maxRecDepth 100000 in
theorem c_X8_isLetter (g : GT) (l : Launch) (n : Nat) (a1 : Int32) (q : Int32) (hf : f_X8_isLetter n a1 = some q) : CI g l yX8_isLetter cX8_isLetter 1 (some .boolean) rmX8_isLetter [.int a1] [] q [] := by
  refine CI_intro RX8 rfl (by decide +kernel) (Nat.le_of_ble_eq_true rfl) ?_
  intro p e s m args below meth c A ls Q hQ X hl hG
  have hl : lv_has ls 1 [(0, .int a1)] := hl
  have hx := X.1
  have hb := X.2.1
  have hown := X.2.2.2.1
  unfold f_X8_isLetter at hf
  refine lv_iload_n hx hb dX8_isLetter_0 rfl (lv_at hl 0 rfl) ?_
  refine lv_bipush (v := 97) hx hb dX8_isLetter_1 (by decide) ?_
  refine lv_bipush (v := 122) hx hb dX8_isLetter_3 (by decide) ?_
  obtain ⟨q1, hq1, hf⟩ := cl_inv hf
  refine r_callSi (bc := []) (br := []) (bs' := []) (As := [.int a1, .int 97, .int 122]) (rest := []) X hG hl.1 (c_X8_in g l  n a1 97 122 q1 hq1) (List.Perm.refl _) (List.Perm.refl _) lk_X8_in ls_X8_in ml_8_132 rfl rfl ⟨Nat.le_of_ble_eq_true rfl, Nat.le_of_ble_eq_true rfl⟩ rfl rfl (Nat.le_of_ble_eq_true rfl) ⟨Nat.zero_le _, Nat.zero_le _⟩ dX8_isLetter_5 (fun H locs hG => ?_)
  obtain ⟨hz, hf⟩ := ck_inv hf
  have hq9 := Option.some.inj hf
  subst hq9
  subst hQ
  exact r_zret X hG (of_decide_eq_true hz) dX8_isLetter_8
def rmX8_isDigit : Room := { frames := 1, cells := 0, slots := 0, locals := 22 }
set_option maxHeartbeats 4000000 in
set_option maxRecDepth 100000 in
theorem c_X8_isDigit (g : GT) (l : Launch) (n : Nat) (a1 : Int32) (q : Int32) (hf : f_X8_isDigit n a1 = some q) : CI g l yX8_isDigit cX8_isDigit 1 (some .boolean) rmX8_isDigit [.int a1] [] q [] := by
  refine CI_intro RX8 rfl (by decide +kernel) (Nat.le_of_ble_eq_true rfl) ?_
  intro p e s m args below meth c A ls Q hQ X hl hG
  have hl : lv_has ls 1 [(0, .int a1)] := hl
  have hx := X.1
  have hb := X.2.1
  have hown := X.2.2.2.1
  unfold f_X8_isDigit at hf
  refine lv_iload_n hx hb dX8_isDigit_0 rfl (lv_at hl 0 rfl) ?_
  refine lv_bipush (v := 48) hx hb dX8_isDigit_1 (by decide) ?_
  refine lv_bipush (v := 57) hx hb dX8_isDigit_3 (by decide) ?_
  obtain ⟨q1, hq1, hf⟩ := cl_inv hf
  refine r_callSi (bc := []) (br := []) (bs' := []) (As := [.int a1, .int 48, .int 57]) (rest := []) X hG hl.1 (c_X8_in g l  n a1 48 57 q1 hq1) (List.Perm.refl _) (List.Perm.refl _) lk_X8_in ls_X8_in ml_8_132 rfl rfl ⟨Nat.le_of_ble_eq_true rfl, Nat.le_of_ble_eq_true rfl⟩ rfl rfl (Nat.le_of_ble_eq_true rfl) ⟨Nat.zero_le _, Nat.zero_le _⟩ dX8_isDigit_5 (fun H locs hG => ?_)
  obtain ⟨hz, hf⟩ := ck_inv hf
  have hq9 := Option.some.inj hf
  subst hq9
  subst hQ
  exact r_zret X hG (of_decide_eq_true hz) dX8_isDigit_8
def rmX8_wordNow : Room := { frames := 0, cells := 0, slots := 0, locals := 0 }
set_option maxHeartbeats 4000000 in
set_option maxRecDepth 100000 in
theorem c_X8_wordNow (g : GT) (l : Launch) (o : Nat) (ad : Nat → Nat) (n : Nat) (s0 : MS) (q : Int32) (hf : f_X8_wordNow n s0 = some q) : CI g l yX8_wordNow cX8_wordNow 5 (some .int) rmX8_wordNow [.ref o] [wX8 g o ad s0] q [wX8 g o ad s0] := by
  refine CI_intro RX8 rfl (by decide +kernel) (Nat.le_of_ble_eq_true rfl) ?_
  intro p e s m args below meth c A ls Q hQ X hl hG
  have hl : lv_has ls 5 [(0, .ref o)] := hl
  have hx := X.1
  have hb := X.2.1
  have hown := X.2.2.2.1
  unfold f_X8_wordNow at hf
  refine lv_iconst (v := 0) hx hb dX8_wordNow_0 (by decide) ?_
  refine lv_istore_n (lv' := [(1, .int 0), (0, .ref o)]) hx hb dX8_wordNow_1 rfl hl (by decide) rfl (fun ls hl => ?_)
  refine lv_iconst (v := 0) hx hb dX8_wordNow_2 (by decide) ?_
  refine lv_istore_n (lv' := [(2, .int 0), (1, .int 0), (0, .ref o)]) hx hb dX8_wordNow_3 rfl hl (by decide) rfl (fun ls hl => ?_)
  refine lp_go (P := fun (t1 : Int32 × Int32) => ∀ (H : Heap) (locs : List Loc) (ls : Array Slot), GM g A s.heap H locs [wX8 g o ad s0] → lv_has ls 5 [(0, .ref o), (1, .int t1.1), (2, .int t1.2)] → W p l e rmX8_wordNow s m args below meth c H locs 0 0 Q (F0 m 4 ls [])) hf (fun K2 hK2 t1 hf H locs ls hG hl => ?_) _ _ _ hG (lv_sub hl [2, 1, 0] rfl)
  refine lv_iload_n hx hb dX8_wordNow_4 rfl (lv_at hl 2 rfl) ?_
  refine lv_bipush (v := 12) hx hb dX8_wordNow_5 (by decide) ?_
  refine lv_icmp_ge (tgt := 93) hx hb dX8_wordNow_7 (by decide) (fun hc3 => ?_) (fun hc3 => ?_)
  · replace hf := ite_t hf hc3
    refine lv_iconst (v := (-1)) hx hb dX8_wordNow_93 (by decide) ?_
    have hq9 := Option.some.inj hf
    subst hq9
    subst hQ
    exact r_iret X hG dX8_wordNow_94
  · replace hf := ite_f hf hc3
    refine lv_aload_n hx hb dX8_wordNow_10 rfl (lv_at hl 0 rfl) ?_
    refine G_8_165 X hG 0 rfl dX8_wordNow_11 ?_
    refine lv_istore_n (lv' := [(3, .int (s0.1 29)), (0, .ref o), (1, .int t1.1), (2, .int t1.2)]) hx hb dX8_wordNow_14 rfl hl (by decide) rfl (fun ls hl => ?_)
    refine lv_iconst (v := 1) hx hb dX8_wordNow_15 (by decide) ?_
    refine lv_istore (lv' := [(4, .int 1), (3, .int (s0.1 29)), (0, .ref o), (1, .int t1.1), (2, .int t1.2)]) hx hb dX8_wordNow_16 hl (by decide) rfl (fun ls hl => ?_)
    refine lp_go (P := fun (t4 : Int32 × Int32 × Int32) => ∀ (H : Heap) (locs : List Loc) (ls : Array Slot), GM g A s.heap H locs [wX8 g o ad s0] → lv_has ls 5 [(0, .ref o), (1, .int t4.1), (2, .int t1.2), (3, .int t4.2.1), (4, .int t4.2.2)] → W p l e rmX8_wordNow s m args below meth c H locs 0 0 Q (F0 m 18 ls [])) hf (fun K5 hK5 t4 hf H locs ls hG hl => ?_) _ _ _ hG (lv_sub hl [2, 3, 4, 1, 0] rfl)
    refine lv_aload_n hx hb dX8_wordNow_18 rfl (lv_at hl 0 rfl) ?_
    refine G_8_75 X hG 0 rfl dX8_wordNow_19 ?_
    refine lv_iload_n hx hb dX8_wordNow_22 rfl (lv_at hl 1 rfl) ?_
    refine r_iald X hG 0 18 rfl rfl hf dX8_wordNow_23 (fun x6 hf => ?_)
    refine lv_bipush (v := 32) hx hb dX8_wordNow_24 (by decide) ?_
    refine lv_icmp_eq (tgt := 64) hx hb dX8_wordNow_26 (by decide) (fun hc7 => ?_) (fun hc7 => ?_)
    · replace hf := ite_t hf hc7
      refine lv_iinc (v := (t4.1 + 1)) (lv' := [(1, .int (t4.1 + 1)), (0, .ref o), (2, .int t1.2), (3, .int t4.2.1), (4, .int t4.2.2)]) hx hb dX8_wordNow_64 hl (k := 1) rfl rfl (by decide) rfl (fun ls hl => ?_)
      refine lv_iload hx hb dX8_wordNow_67 (lv_at hl 4 rfl) ?_
      refine jn_use (P := fun (t8 : Unit) => ∀ (H : Heap) (locs : List Loc) (ls : Array Slot), GM g A s.heap H locs [wX8 g o ad s0] → lv_has ls 5 [(0, .ref o), (1, .int (t4.1 + 1)), (2, .int t1.2)] → W p l e rmX8_wordNow s m args below meth c H locs 0 0 Q (F0 m 87 ls [])) hf (fun t8 hf H locs ls hG hl => ?_) (fun K9 hK9 hf => ?_)
      · refine lv_iinc (v := (t1.2 + 1)) (lv' := [(2, .int (t1.2 + 1)), (0, .ref o), (1, .int (t4.1 + 1))]) hx hb dX8_wordNow_87 hl (k := 2) rfl rfl (by decide) rfl (fun ls hl => ?_)
        refine lv_goto (tgt := 4) hx hb dX8_wordNow_90 (by decide) ?_
        exact hK2 _ hf _ _ _ hG (lv_sub hl [1, 2, 0] rfl)
      refine lv_if_eq (tgt := 87) hx hb dX8_wordNow_69 (by decide) (fun hc10 => ?_) (fun hc10 => ?_)
      · replace hf := ite_t hf hc10
        exact hK9 _ hf _ _ _ hG (lv_sub hl [1, 0, 2] rfl)
      · replace hf := ite_f hf hc10
        refine lv_iload_n hx hb dX8_wordNow_72 rfl (lv_at hl 3 rfl) ?_
        refine lv_aload_n hx hb dX8_wordNow_73 rfl (lv_at hl 1 rfl) ?_
        refine G_8_168 X hG 0 rfl dX8_wordNow_74 ?_
        refine lv_icmp_ne (tgt := 87) hx hb dX8_wordNow_77 (by decide) (fun hc11 => ?_) (fun hc11 => ?_)
        · replace hf := ite_f hf hc11
          exact hK9 _ hf _ _ _ hG (lv_sub hl [1, 0, 2] rfl)
        · replace hf := ite_t hf hc11
          refine lv_aload_n hx hb dX8_wordNow_80 rfl (lv_at hl 1 rfl) ?_
          refine G_8_78 X hG 0 rfl dX8_wordNow_81 ?_
          refine lv_iload_n hx hb dX8_wordNow_84 rfl (lv_at hl 2 rfl) ?_
          refine r_iald X hG 0 19 rfl rfl hf dX8_wordNow_85 (fun x12 hf => ?_)
          have hq9 := Option.some.inj hf
          subst hq9
          subst hQ
          exact r_iret X hG dX8_wordNow_86
    · replace hf := ite_f hf hc7
      refine lv_iload_n hx hb dX8_wordNow_29 rfl (lv_at hl 3 rfl) ?_
      refine lv_aload_n hx hb dX8_wordNow_30 rfl (lv_at hl 0 rfl) ?_
      refine G_8_168 X hG 0 rfl dX8_wordNow_31 ?_
      refine jn_use (P := fun (t13 : Int32) => ∀ (H : Heap) (locs : List Loc) (ls : Array Slot), GM g A s.heap H locs [wX8 g o ad s0] → lv_has ls 5 [(0, .ref o), (1, .int t4.1), (2, .int t1.2), (3, .int t4.2.1), (4, .int t13)] → W p l e rmX8_wordNow s m args below meth c H locs 0 0 Q (F0 m 55 ls [])) hf (fun t13 hf H locs ls hG hl => ?_) (fun K14 hK14 hf => ?_)
      · refine lv_iinc (v := (t4.2.1 + 1)) (lv' := [(3, .int (t4.2.1 + 1)), (0, .ref o), (1, .int t4.1), (2, .int t1.2), (4, .int t13)]) hx hb dX8_wordNow_55 hl (k := 3) rfl rfl (by decide) rfl (fun ls hl => ?_)
        refine lv_iinc (v := (t4.1 + 1)) (lv' := [(1, .int (t4.1 + 1)), (3, .int (t4.2.1 + 1)), (0, .ref o), (2, .int t1.2), (4, .int t13)]) hx hb dX8_wordNow_58 hl (k := 2) rfl rfl (by decide) rfl (fun ls hl => ?_)
        refine lv_goto (tgt := 18) hx hb dX8_wordNow_61 (by decide) ?_
        exact hK5 _ hf _ _ _ hG (lv_sub hl [2, 0, 3, 1, 4] rfl)
      refine jn_use (P := fun (t15 : Unit) => ∀ (H : Heap) (locs : List Loc) (ls : Array Slot), GM g A s.heap H locs [wX8 g o ad s0] → lv_has ls 5 [(0, .ref o), (1, .int t4.1), (2, .int t1.2), (3, .int t4.2.1)] → W p l e rmX8_wordNow s m args below meth c H locs 0 0 Q (F0 m 52 ls [])) hf (fun t15 hf H locs ls hG hl => ?_) (fun K16 hK16 hf => ?_)
      · refine lv_iconst (v := 0) hx hb dX8_wordNow_52 (by decide) ?_
        refine lv_istore (lv' := [(4, .int 0), (0, .ref o), (1, .int t4.1), (2, .int t1.2), (3, .int t4.2.1)]) hx hb dX8_wordNow_53 hl (by decide) rfl (fun ls hl => ?_)
        exact hK14 _ hf _ _ _ hG (lv_sub hl [1, 2, 3, 4, 0] rfl)
      refine lv_icmp_ge (tgt := 52) hx hb dX8_wordNow_34 (by decide) (fun hc17 => ?_) (fun hc17 => ?_)
      · replace hf := ite_t hf hc17
        exact hK16 _ hf _ _ _ hG (lv_sub hl [0, 1, 2, 3] rfl)
      · replace hf := ite_f hf hc17
        refine lv_aload_n hx hb dX8_wordNow_37 rfl (lv_at hl 0 rfl) ?_
        refine G_8_53 X hG 0 rfl dX8_wordNow_38 ?_
        refine lv_iload_n hx hb dX8_wordNow_41 rfl (lv_at hl 3 rfl) ?_
        refine r_bald X hG 0 12 rfl rfl hf dX8_wordNow_42 (fun x18 hf => ?_)
        refine lv_aload_n hx hb dX8_wordNow_43 rfl (lv_at hl 0 rfl) ?_
        refine G_8_75 X hG 0 rfl dX8_wordNow_44 ?_
        refine lv_iload_n hx hb dX8_wordNow_47 rfl (lv_at hl 1 rfl) ?_
        refine r_iald X hG 0 18 rfl rfl hf dX8_wordNow_48 (fun x19 hf => ?_)
        refine lv_icmp_eq (tgt := 55) hx hb dX8_wordNow_49 (by decide) (fun hc20 => ?_) (fun hc20 => ?_)
        · replace hf := ite_t hf hc20
          exact hK14 _ hf _ _ _ hG (lv_sub hl [0, 1, 2, 3, 4] rfl)
        · replace hf := ite_f hf hc20
          exact hK16 _ hf _ _ _ hG (lv_sub hl [0, 1, 2, 3] rfl)
def rmX8_next : Room := { frames := 2, cells := 0, slots := 0, locals := 42 }
set_option maxHeartbeats 4000000 in
set_option maxRecDepth 100000 in
theorem c_X8_next (g : GT) (l : Launch) (o : Nat) (ad : Nat → Nat) (n : Nat) (s0 : MS) (q : MS) (hf : f_X8_next n s0 = some q) : CV g l yX8_next cX8_next 2 none rmX8_next [.ref o] [wX8 g o ad s0] [wX8 g o ad q] := by
  refine CV_intro RX8 rfl (by decide +kernel) (Nat.le_of_ble_eq_true rfl) ?_
  intro p e s m args below meth c A ls Q hQ X hl hG
  have hl : lv_has ls 2 [(0, .ref o)] := hl
  have hx := X.1
  have hb := X.2.1
  have hown := X.2.2.2.1
  unfold f_X8_next at hf
  refine lv_aload_n hx hb dX8_next_0 rfl (lv_at hl 0 rfl) ?_
  refine lv_aload_n hx hb dX8_next_1 rfl (lv_at hl 0 rfl) ?_
  refine G_8_168 X hG 0 rfl dX8_next_2 ?_
  refine P_8_165 X hG 0 rfl hf (fun t => [wX8 g o ad t]) (fun _ => rfl) dX8_next_5 (fun z1 H locs hf hG => ?_)
  refine lp_go (P := fun (t2 : MS) => ∀ (H : Heap) (locs : List Loc) (ls : Array Slot), GM g A s.heap H locs [wX8 g o ad t2] → lv_has ls 2 [(0, .ref o)] → W p l e rmX8_next s m args below meth c H locs 0 0 Q (F0 m 8 ls [])) hf (fun K3 hK3 t2 hf H locs ls hG hl => ?_) _ _ _ hG (lv_sub hl [0] rfl)
  refine lv_aload_n hx hb dX8_next_8 rfl (lv_at hl 0 rfl) ?_
  refine G_8_165 X hG 0 rfl dX8_next_9 ?_
  refine lv_aload_n hx hb dX8_next_12 rfl (lv_at hl 0 rfl) ?_
  refine G_8_162 X hG 0 rfl dX8_next_13 ?_
  refine jn_use (P := fun (t4 : Unit) => ∀ (H : Heap) (locs : List Loc) (ls : Array Slot), GM g A s.heap H locs [wX8 g o ad t2] → lv_has ls 2 [(0, .ref o)] → W p l e rmX8_next s m args below meth c H locs 0 0 Q (F0 m 60 ls [])) hf (fun t4 hf H locs ls hG hl => ?_) (fun K5 hK5 hf => ?_)
  · refine lv_aload_n hx hb dX8_next_60 rfl (lv_at hl 0 rfl) ?_
    refine lv_aload_n hx hb dX8_next_61 rfl (lv_at hl 0 rfl) ?_
    refine G_8_165 X hG 0 rfl dX8_next_62 ?_
    refine P_8_168 X hG 0 rfl hf (fun t => [wX8 g o ad t]) (fun _ => rfl) dX8_next_65 (fun z6 H locs hf hG => ?_)
    refine lv_aload_n hx hb dX8_next_68 rfl (lv_at hl 0 rfl) ?_
    refine G_8_165 X hG 0 rfl dX8_next_69 ?_
    refine lv_aload_n hx hb dX8_next_72 rfl (lv_at hl 0 rfl) ?_
    refine G_8_162 X hG 0 rfl dX8_next_73 ?_
    refine lv_icmp_lt (tgt := 93) hx hb dX8_next_76 (by decide) (fun hc7 => ?_) (fun hc7 => ?_)
    · replace hf := ite_t hf hc7
      refine lv_aload_n hx hb dX8_next_93 rfl (lv_at hl 0 rfl) ?_
      refine G_8_53 X hG 0 rfl dX8_next_94 ?_
      refine lv_aload_n hx hb dX8_next_97 rfl (lv_at hl 0 rfl) ?_
      refine G_8_165 X hG 0 rfl dX8_next_98 ?_
      refine r_bald X hG 0 12 rfl rfl hf dX8_next_101 (fun x8 hf => ?_)
      refine lv_istore_n (lv' := [(1, .int x8), (0, .ref o)]) hx hb dX8_next_102 rfl hl (by decide) rfl (fun ls hl => ?_)
      refine lv_iload_n hx hb dX8_next_103 rfl (lv_at hl 0 rfl) ?_
      obtain ⟨q9, hq9, hf⟩ := cl_inv hf
      refine r_callSi (bc := []) (br := [wX8 g o ad z6]) (bs' := [wX8 g o ad z6]) (As := [.int x8]) (rest := []) X hG hl.1 (c_X8_isLetter g l  n x8 q9 hq9) (List.Perm.refl _) (List.Perm.refl _) lk_X8_isLetter ls_X8_isLetter ml_8_174 rfl rfl ⟨Nat.le_of_ble_eq_true rfl, Nat.le_of_ble_eq_true rfl⟩ rfl rfl (Nat.le_of_ble_eq_true rfl) ⟨Nat.zero_le _, Nat.zero_le _⟩ dX8_next_104 (fun H locs hG => ?_)
      refine lv_if_eq (tgt := 176) hx hb dX8_next_107 (by decide) (fun hc10 => ?_) (fun hc10 => ?_)
      · replace hf := ite_t hf hc10
        refine lv_iload_n hx hb dX8_next_176 rfl (lv_at hl 0 rfl) ?_
        obtain ⟨q11, hq11, hf⟩ := cl_inv hf
        refine r_callSi (bc := []) (br := [wX8 g o ad z6]) (bs' := [wX8 g o ad z6]) (As := [.int x8]) (rest := []) X hG hl.1 (c_X8_isDigit g l  n x8 q11 hq11) (List.Perm.refl _) (List.Perm.refl _) lk_X8_isDigit ls_X8_isDigit ml_8_184 rfl rfl ⟨Nat.le_of_ble_eq_true rfl, Nat.le_of_ble_eq_true rfl⟩ rfl rfl (Nat.le_of_ble_eq_true rfl) ⟨Nat.zero_le _, Nat.zero_le _⟩ dX8_next_177 (fun H locs hG => ?_)
        refine lv_if_eq (tgt := 289) hx hb dX8_next_180 (by decide) (fun hc12 => ?_) (fun hc12 => ?_)
        · replace hf := ite_t hf hc12
          refine lv_aload_n hx hb dX8_next_289 rfl (lv_at hl 1 rfl) ?_
          refine lv_dup hx hb dX8_next_290 rfl ?_
          refine G_8_168 X hG 0 rfl dX8_next_291 ?_
          refine lv_iconst (v := 1) hx hb dX8_next_294 (by decide) ?_
          refine lv_iadd hx hb dX8_next_295 ?_
          refine P_8_168 X hG 0 rfl hf (fun t => [wX8 g o ad t]) (fun _ => rfl) dX8_next_296 (fun z13 H locs hf hG => ?_)
          refine lv_aload_n hx hb dX8_next_299 rfl (lv_at hl 1 rfl) ?_
          refine lv_iload_n hx hb dX8_next_300 rfl (lv_at hl 0 rfl) ?_
          refine P_8_181 X hG 0 rfl hf (fun t => [wX8 g o ad t]) (fun _ => rfl) dX8_next_301 (fun z14 H locs hf hG => ?_)
          refine lv_aload_n hx hb dX8_next_304 rfl (lv_at hl 1 rfl) ?_
          refine lv_iload_n hx hb dX8_next_305 rfl (lv_at hl 0 rfl) ?_
          refine lv_bipush (v := 40) hx hb dX8_next_306 (by decide) ?_
          refine jn_use (P := fun (t15 : Int32) => ∀ (H : Heap) (locs : List Loc) (ls : Array Slot), GM g A s.heap H locs [wX8 g o ad z14] → lv_has ls 2 [] → W p l e rmX8_next s m args below meth c H locs 0 0 Q (F0 m 358 ls [.int t15, .ref o])) hf (fun t15 hf H locs ls hG hl => ?_) (fun K16 hK16 hf => ?_)
          · refine P_8_171 X hG 0 rfl hf (fun t => [wX8 g o ad t]) (fun _ => rfl) dX8_next_358 (fun z17 H locs hf hG => ?_)
            have hq9 := Option.some.inj hf
            subst hq9
            subst hQ
            exact r_vret X hG dX8_next_361
          refine jn_use (P := fun (t18 : Unit) => ∀ (H : Heap) (locs : List Loc) (ls : Array Slot), GM g A s.heap H locs [wX8 g o ad z14] → lv_has ls 2 [] → W p l e rmX8_next s m args below meth c H locs 0 0 Q (F0 m 353 ls [.ref o])) hf (fun t18 hf H locs ls hG hl => ?_) (fun K19 hK19 hf => ?_)
          · refine lv_iconst (v := 3) hx hb dX8_next_353 (by decide) ?_
            refine lv_goto (tgt := 358) hx hb dX8_next_354 (by decide) ?_
            exact hK16 _ hf _ _ _ hG (lv_sub hl [] rfl)
          refine lv_icmp_eq (tgt := 353) hx hb dX8_next_308 (by decide) (fun hc20 => ?_) (fun hc20 => ?_)
          · replace hf := ite_t hf hc20
            exact hK19 _ hf _ _ _ hG (lv_sub hl [] rfl)
          · replace hf := ite_f hf hc20
            refine lv_iload_n hx hb dX8_next_311 rfl (lv_at hl 0 rfl) ?_
            refine lv_bipush (v := 41) hx hb dX8_next_312 (by decide) ?_
            refine lv_icmp_eq (tgt := 353) hx hb dX8_next_314 (by decide) (fun hc21 => ?_) (fun hc21 => ?_)
            · replace hf := ite_t hf hc21
              exact hK19 _ hf _ _ _ hG (lv_sub hl [] rfl)
            · replace hf := ite_f hf hc21
              refine lv_iload_n hx hb dX8_next_317 rfl (lv_at hl 0 rfl) ?_
              refine lv_bipush (v := 59) hx hb dX8_next_318 (by decide) ?_
              refine lv_icmp_eq (tgt := 353) hx hb dX8_next_320 (by decide) (fun hc22 => ?_) (fun hc22 => ?_)
              · replace hf := ite_t hf hc22
                exact hK19 _ hf _ _ _ hG (lv_sub hl [] rfl)
              · replace hf := ite_f hf hc22
                refine lv_iload_n hx hb dX8_next_323 rfl (lv_at hl 0 rfl) ?_
                refine lv_bipush (v := 43) hx hb dX8_next_324 (by decide) ?_
                refine lv_icmp_eq (tgt := 353) hx hb dX8_next_326 (by decide) (fun hc23 => ?_) (fun hc23 => ?_)
                · replace hf := ite_t hf hc23
                  exact hK19 _ hf _ _ _ hG (lv_sub hl [] rfl)
                · replace hf := ite_f hf hc23
                  refine lv_iload_n hx hb dX8_next_329 rfl (lv_at hl 0 rfl) ?_
                  refine lv_bipush (v := 45) hx hb dX8_next_330 (by decide) ?_
                  refine lv_icmp_eq (tgt := 353) hx hb dX8_next_332 (by decide) (fun hc24 => ?_) (fun hc24 => ?_)
                  · replace hf := ite_t hf hc24
                    exact hK19 _ hf _ _ _ hG (lv_sub hl [] rfl)
                  · replace hf := ite_f hf hc24
                    refine lv_iload_n hx hb dX8_next_335 rfl (lv_at hl 0 rfl) ?_
                    refine lv_bipush (v := 42) hx hb dX8_next_336 (by decide) ?_
                    refine lv_icmp_eq (tgt := 353) hx hb dX8_next_338 (by decide) (fun hc25 => ?_) (fun hc25 => ?_)
                    · replace hf := ite_t hf hc25
                      exact hK19 _ hf _ _ _ hG (lv_sub hl [] rfl)
                    · replace hf := ite_f hf hc25
                      refine lv_iload_n hx hb dX8_next_341 rfl (lv_at hl 0 rfl) ?_
                      refine lv_bipush (v := 60) hx hb dX8_next_342 (by decide) ?_
                      refine lv_icmp_eq (tgt := 353) hx hb dX8_next_344 (by decide) (fun hc26 => ?_) (fun hc26 => ?_)
                      · replace hf := ite_t hf hc26
                        exact hK19 _ hf _ _ _ hG (lv_sub hl [] rfl)
                      · replace hf := ite_f hf hc26
                        refine lv_iload_n hx hb dX8_next_347 rfl (lv_at hl 0 rfl) ?_
                        refine lv_bipush (v := 61) hx hb dX8_next_348 (by decide) ?_
                        refine lv_icmp_ne (tgt := 357) hx hb dX8_next_350 (by decide) (fun hc27 => ?_) (fun hc27 => ?_)
                        · replace hf := ite_f hf hc27
                          refine lv_iconst (v := 5) hx hb dX8_next_357 (by decide) ?_
                          exact hK16 _ hf _ _ _ hG (lv_sub hl [] rfl)
                        · replace hf := ite_t hf hc27
                          exact hK19 _ hf _ _ _ hG (lv_sub hl [] rfl)
        · replace hf := ite_f hf hc12
          refine lv_aload_n hx hb dX8_next_183 rfl (lv_at hl 1 rfl) ?_
          refine lv_iconst (v := 0) hx hb dX8_next_184 (by decide) ?_
          refine P_8_181 X hG 0 rfl hf (fun t => [wX8 g o ad t]) (fun _ => rfl) dX8_next_185 (fun z28 H locs hf hG => ?_)
          refine lp_go (P := fun (t29 : MS) => ∀ (H : Heap) (locs : List Loc) (ls : Array Slot), GM g A s.heap H locs [wX8 g o ad t29] → lv_has ls 2 [(0, .ref o)] → W p l e rmX8_next s m args below meth c H locs 0 0 Q (F0 m 188 ls [])) hf (fun K30 hK30 t29 hf H locs ls hG hl => ?_) _ _ _ hG (lv_sub hl [1] rfl)
          refine lv_aload_n hx hb dX8_next_188 rfl (lv_at hl 0 rfl) ?_
          refine G_8_168 X hG 0 rfl dX8_next_189 ?_
          refine lv_aload_n hx hb dX8_next_192 rfl (lv_at hl 0 rfl) ?_
          refine G_8_162 X hG 0 rfl dX8_next_193 ?_
          refine jn_use (P := fun (t31 : Unit) => ∀ (H : Heap) (locs : List Loc) (ls : Array Slot), GM g A s.heap H locs [wX8 g o ad t29] → lv_has ls 2 [(0, .ref o)] → W p l e rmX8_next s m args below meth c H locs 0 0 Q (F0 m 264 ls [])) hf (fun t31 hf H locs ls hG hl => ?_) (fun K32 hK32 hf => ?_)
          · refine lv_aload_n hx hb dX8_next_264 rfl (lv_at hl 0 rfl) ?_
            refine lv_aload_n hx hb dX8_next_265 rfl (lv_at hl 0 rfl) ?_
            refine G_8_168 X hG 0 rfl dX8_next_266 ?_
            refine lv_aload_n hx hb dX8_next_269 rfl (lv_at hl 0 rfl) ?_
            refine G_8_165 X hG 0 rfl dX8_next_270 ?_
            refine lv_isub hx hb dX8_next_273 ?_
            refine lv_iconst (v := 4) hx hb dX8_next_274 (by decide) ?_
            refine jn_use (P := fun (t33 : Int32) => ∀ (H : Heap) (locs : List Loc) (ls : Array Slot), GM g A s.heap H locs [wX8 g o ad t29] → lv_has ls 2 [] → W p l e rmX8_next s m args below meth c H locs 0 0 Q (F0 m 283 ls [.int t33, .ref o])) hf (fun t33 hf H locs ls hG hl => ?_) (fun K34 hK34 hf => ?_)
            · refine P_8_171 X hG 0 rfl hf (fun t => [wX8 g o ad t]) (fun _ => rfl) dX8_next_283 (fun z35 H locs hf hG => ?_)
              refine lv_goto (tgt := 361) hx hb dX8_next_286 (by decide) ?_
              have hq9 := Option.some.inj hf
              subst hq9
              subst hQ
              exact r_vret X hG dX8_next_361
            refine lv_icmp_le (tgt := 282) hx hb dX8_next_275 (by decide) (fun hc36 => ?_) (fun hc36 => ?_)
            · replace hf := ite_t hf hc36
              refine lv_iconst (v := 2) hx hb dX8_next_282 (by decide) ?_
              exact hK34 _ hf _ _ _ hG (lv_sub hl [] rfl)
            · replace hf := ite_f hf hc36
              refine lv_iconst (v := 5) hx hb dX8_next_278 (by decide) ?_
              refine lv_goto (tgt := 283) hx hb dX8_next_279 (by decide) ?_
              exact hK34 _ hf _ _ _ hG (lv_sub hl [] rfl)
          refine lv_icmp_ge (tgt := 264) hx hb dX8_next_196 (by decide) (fun hc37 => ?_) (fun hc37 => ?_)
          · replace hf := ite_t hf hc37
            exact hK32 _ hf _ _ _ hG (lv_sub hl [0] rfl)
          · replace hf := ite_f hf hc37
            refine lv_aload_n hx hb dX8_next_199 rfl (lv_at hl 0 rfl) ?_
            refine G_8_53 X hG 0 rfl dX8_next_200 ?_
            refine lv_aload_n hx hb dX8_next_203 rfl (lv_at hl 0 rfl) ?_
            refine G_8_168 X hG 0 rfl dX8_next_204 ?_
            refine r_bald X hG 0 12 rfl rfl hf dX8_next_207 (fun x38 hf => ?_)
            obtain ⟨q39, hq39, hf⟩ := cl_inv hf
            refine r_callSi (bc := []) (br := [wX8 g o ad t29]) (bs' := [wX8 g o ad t29]) (As := [.int x38]) (rest := []) X hG hl.1 (c_X8_isDigit g l  n x38 q39 hq39) (List.Perm.refl _) (List.Perm.refl _) lk_X8_isDigit ls_X8_isDigit ml_8_184 rfl rfl ⟨Nat.le_of_ble_eq_true rfl, Nat.le_of_ble_eq_true rfl⟩ rfl rfl (Nat.le_of_ble_eq_true rfl) ⟨Nat.zero_le _, Nat.zero_le _⟩ dX8_next_208 (fun H locs hG => ?_)
            refine lv_if_eq (tgt := 264) hx hb dX8_next_211 (by decide) (fun hc40 => ?_) (fun hc40 => ?_)
            · replace hf := ite_t hf hc40
              exact hK32 _ hf _ _ _ hG (lv_sub hl [0] rfl)
            · replace hf := ite_f hf hc40
              refine lv_aload_n hx hb dX8_next_214 rfl (lv_at hl 0 rfl) ?_
              refine G_8_168 X hG 0 rfl dX8_next_215 ?_
              refine lv_aload_n hx hb dX8_next_218 rfl (lv_at hl 0 rfl) ?_
              refine G_8_165 X hG 0 rfl dX8_next_219 ?_
              refine lv_isub hx hb dX8_next_222 ?_
              refine lv_iconst (v := 4) hx hb dX8_next_223 (by decide) ?_
              refine jn_use (P := fun (t41 : MS) => ∀ (H : Heap) (locs : List Loc) (ls : Array Slot), GM g A s.heap H locs [wX8 g o ad t41] → lv_has ls 2 [(0, .ref o)] → W p l e rmX8_next s m args below meth c H locs 0 0 Q (F0 m 251 ls [])) hf (fun t41 hf H locs ls hG hl => ?_) (fun K42 hK42 hf => ?_)
              · refine lv_aload_n hx hb dX8_next_251 rfl (lv_at hl 0 rfl) ?_
                refine lv_dup hx hb dX8_next_252 rfl ?_
                refine G_8_168 X hG 0 rfl dX8_next_253 ?_
                refine lv_iconst (v := 1) hx hb dX8_next_256 (by decide) ?_
                refine lv_iadd hx hb dX8_next_257 ?_
                refine P_8_168 X hG 0 rfl hf (fun t => [wX8 g o ad t]) (fun _ => rfl) dX8_next_258 (fun z43 H locs hf hG => ?_)
                refine lv_goto (tgt := 188) hx hb dX8_next_261 (by decide) ?_
                exact hK30 _ hf _ _ _ hG (lv_sub hl [0] rfl)
              refine lv_icmp_ge (tgt := 251) hx hb dX8_next_224 (by decide) (fun hc44 => ?_) (fun hc44 => ?_)
              · replace hf := ite_t hf hc44
                exact hK42 _ hf _ _ _ hG (lv_sub hl [0] rfl)
              · replace hf := ite_f hf hc44
                refine lv_aload_n hx hb dX8_next_227 rfl (lv_at hl 0 rfl) ?_
                refine lv_bipush (v := 10) hx hb dX8_next_228 (by decide) ?_
                refine lv_aload_n hx hb dX8_next_230 rfl (lv_at hl 0 rfl) ?_
                refine G_8_181 X hG 0 rfl dX8_next_231 ?_
                refine lv_imul hx hb dX8_next_234 ?_
                refine lv_aload_n hx hb dX8_next_235 rfl (lv_at hl 0 rfl) ?_
                refine G_8_53 X hG 0 rfl dX8_next_236 ?_
                refine lv_aload_n hx hb dX8_next_239 rfl (lv_at hl 0 rfl) ?_
                refine G_8_168 X hG 0 rfl dX8_next_240 ?_
                refine r_bald X hG 0 12 rfl rfl hf dX8_next_243 (fun x45 hf => ?_)
                refine lv_iadd hx hb dX8_next_244 ?_
                refine lv_bipush (v := 48) hx hb dX8_next_245 (by decide) ?_
                refine lv_isub hx hb dX8_next_247 ?_
                refine P_8_181 X hG 0 rfl hf (fun t => [wX8 g o ad t]) (fun _ => rfl) dX8_next_248 (fun z46 H locs hf hG => ?_)
                exact hK42 _ hf _ _ _ hG (lv_sub hl [0] rfl)
      · replace hf := ite_f hf hc10
        refine lp_go (P := fun (t47 : MS) => ∀ (H : Heap) (locs : List Loc) (ls : Array Slot), GM g A s.heap H locs [wX8 g o ad t47] → lv_has ls 2 [(0, .ref o)] → W p l e rmX8_next s m args below meth c H locs 0 0 Q (F0 m 110 ls [])) hf (fun K48 hK48 t47 hf H locs ls hG hl => ?_) _ _ _ hG (lv_sub hl [1] rfl)
        refine lv_aload_n hx hb dX8_next_110 rfl (lv_at hl 0 rfl) ?_
        refine G_8_168 X hG 0 rfl dX8_next_111 ?_
        refine lv_aload_n hx hb dX8_next_114 rfl (lv_at hl 0 rfl) ?_
        refine G_8_162 X hG 0 rfl dX8_next_115 ?_
        refine jn_use (P := fun (t49 : Unit) => ∀ (H : Heap) (locs : List Loc) (ls : Array Slot), GM g A s.heap H locs [wX8 g o ad t47] → lv_has ls 2 [(0, .ref o)] → W p l e rmX8_next s m args below meth c H locs 0 0 Q (F0 m 149 ls [])) hf (fun t49 hf H locs ls hG hl => ?_) (fun K50 hK50 hf => ?_)
        · refine lv_aload_n hx hb dX8_next_149 rfl (lv_at hl 0 rfl) ?_
          refine lv_aload_n hx hb dX8_next_150 rfl (lv_at hl 0 rfl) ?_
          obtain ⟨q51, hq51, hf⟩ := cl_inv hf
          refine r_callVi (bc := [wX8 g o ad t47]) (br := []) (bs' := [wX8 g o ad t47]) (As := []) (rest := [.ref o]) X hG hl.1 (c_X8_wordNow g l o ad n t47 q51 hq51) (List.Perm.refl _) (List.Perm.refl _) lk_X8_wordNow lv_X8_wordNow ml_8_177 (j := 0) (k := 0) rfl rfl rfl rfl rfl ⟨Nat.le_of_ble_eq_true rfl, Nat.le_of_ble_eq_true rfl⟩ rfl rfl (Nat.le_of_ble_eq_true rfl) ⟨Nat.zero_le _, Nat.zero_le _⟩ dX8_next_151 (fun H locs hG => ?_)
          refine P_8_181 X hG 0 rfl hf (fun t => [wX8 g o ad t]) (fun _ => rfl) dX8_next_154 (fun z52 H locs hf hG => ?_)
          refine lv_aload_n hx hb dX8_next_157 rfl (lv_at hl 0 rfl) ?_
          refine lv_aload_n hx hb dX8_next_158 rfl (lv_at hl 0 rfl) ?_
          refine G_8_181 X hG 0 rfl dX8_next_159 ?_
          refine jn_use (P := fun (t53 : Int32) => ∀ (H : Heap) (locs : List Loc) (ls : Array Slot), GM g A s.heap H locs [wX8 g o ad z52] → lv_has ls 2 [] → W p l e rmX8_next s m args below meth c H locs 0 0 Q (F0 m 170 ls [.int t53, .ref o])) hf (fun t53 hf H locs ls hG hl => ?_) (fun K54 hK54 hf => ?_)
          · refine P_8_171 X hG 0 rfl hf (fun t => [wX8 g o ad t]) (fun _ => rfl) dX8_next_170 (fun z55 H locs hf hG => ?_)
            refine lv_goto (tgt := 361) hx hb dX8_next_173 (by decide) ?_
            have hq9 := Option.some.inj hf
            subst hq9
            subst hQ
            exact r_vret X hG dX8_next_361
          refine lv_if_ge (tgt := 169) hx hb dX8_next_162 (by decide) (fun hc56 => ?_) (fun hc56 => ?_)
          · replace hf := ite_t hf hc56
            refine lv_iconst (v := 1) hx hb dX8_next_169 (by decide) ?_
            exact hK54 _ hf _ _ _ hG (lv_sub hl [] rfl)
          · replace hf := ite_f hf hc56
            refine lv_iconst (v := 5) hx hb dX8_next_165 (by decide) ?_
            refine lv_goto (tgt := 170) hx hb dX8_next_166 (by decide) ?_
            exact hK54 _ hf _ _ _ hG (lv_sub hl [] rfl)
        refine lv_icmp_ge (tgt := 149) hx hb dX8_next_118 (by decide) (fun hc57 => ?_) (fun hc57 => ?_)
        · replace hf := ite_t hf hc57
          exact hK50 _ hf _ _ _ hG (lv_sub hl [0] rfl)
        · replace hf := ite_f hf hc57
          refine lv_aload_n hx hb dX8_next_121 rfl (lv_at hl 0 rfl) ?_
          refine G_8_53 X hG 0 rfl dX8_next_122 ?_
          refine lv_aload_n hx hb dX8_next_125 rfl (lv_at hl 0 rfl) ?_
          refine G_8_168 X hG 0 rfl dX8_next_126 ?_
          refine r_bald X hG 0 12 rfl rfl hf dX8_next_129 (fun x58 hf => ?_)
          obtain ⟨q59, hq59, hf⟩ := cl_inv hf
          refine r_callSi (bc := []) (br := [wX8 g o ad t47]) (bs' := [wX8 g o ad t47]) (As := [.int x58]) (rest := []) X hG hl.1 (c_X8_isLetter g l  n x58 q59 hq59) (List.Perm.refl _) (List.Perm.refl _) lk_X8_isLetter ls_X8_isLetter ml_8_174 rfl rfl ⟨Nat.le_of_ble_eq_true rfl, Nat.le_of_ble_eq_true rfl⟩ rfl rfl (Nat.le_of_ble_eq_true rfl) ⟨Nat.zero_le _, Nat.zero_le _⟩ dX8_next_130 (fun H locs hG => ?_)
          refine lv_if_eq (tgt := 149) hx hb dX8_next_133 (by decide) (fun hc60 => ?_) (fun hc60 => ?_)
          · replace hf := ite_t hf hc60
            exact hK50 _ hf _ _ _ hG (lv_sub hl [0] rfl)
          · replace hf := ite_f hf hc60
            refine lv_aload_n hx hb dX8_next_136 rfl (lv_at hl 0 rfl) ?_
            refine lv_dup hx hb dX8_next_137 rfl ?_
            refine G_8_168 X hG 0 rfl dX8_next_138 ?_
            refine lv_iconst (v := 1) hx hb dX8_next_141 (by decide) ?_
            refine lv_iadd hx hb dX8_next_142 ?_
            refine P_8_168 X hG 0 rfl hf (fun t => [wX8 g o ad t]) (fun _ => rfl) dX8_next_143 (fun z61 H locs hf hG => ?_)
            refine lv_goto (tgt := 110) hx hb dX8_next_146 (by decide) ?_
            exact hK48 _ hf _ _ _ hG (lv_sub hl [0] rfl)
    · replace hf := ite_f hf hc7
      refine lv_aload_n hx hb dX8_next_79 rfl (lv_at hl 0 rfl) ?_
      refine lv_aload_n hx hb dX8_next_80 rfl (lv_at hl 0 rfl) ?_
      refine G_8_162 X hG 0 rfl dX8_next_81 ?_
      refine P_8_165 X hG 0 rfl hf (fun t => [wX8 g o ad t]) (fun _ => rfl) dX8_next_84 (fun z62 H locs hf hG => ?_)
      refine lv_aload_n hx hb dX8_next_87 rfl (lv_at hl 0 rfl) ?_
      refine lv_iconst (v := 4) hx hb dX8_next_88 (by decide) ?_
      refine P_8_171 X hG 0 rfl hf (fun t => [wX8 g o ad t]) (fun _ => rfl) dX8_next_89 (fun z63 H locs hf hG => ?_)
      have hq9 := Option.some.inj hf
      subst hq9
      subst hQ
      exact r_vret X hG dX8_next_92
  refine lv_icmp_ge (tgt := 60) hx hb dX8_next_16 (by decide) (fun hc64 => ?_) (fun hc64 => ?_)
  · replace hf := ite_t hf hc64
    exact hK5 _ hf _ _ _ hG (lv_sub hl [0] rfl)
  · replace hf := ite_f hf hc64
    refine lv_aload_n hx hb dX8_next_19 rfl (lv_at hl 0 rfl) ?_
    refine G_8_53 X hG 0 rfl dX8_next_20 ?_
    refine lv_aload_n hx hb dX8_next_23 rfl (lv_at hl 0 rfl) ?_
    refine G_8_165 X hG 0 rfl dX8_next_24 ?_
    refine r_bald X hG 0 12 rfl rfl hf dX8_next_27 (fun x65 hf => ?_)
    refine lv_bipush (v := 32) hx hb dX8_next_28 (by decide) ?_
    refine jn_use (P := fun (t66 : Unit) => ∀ (H : Heap) (locs : List Loc) (ls : Array Slot), GM g A s.heap H locs [wX8 g o ad t2] → lv_has ls 2 [(0, .ref o)] → W p l e rmX8_next s m args below meth c H locs 0 0 Q (F0 m 47 ls [])) hf (fun t66 hf H locs ls hG hl => ?_) (fun K67 hK67 hf => ?_)
    · refine lv_aload_n hx hb dX8_next_47 rfl (lv_at hl 0 rfl) ?_
      refine lv_dup hx hb dX8_next_48 rfl ?_
      refine G_8_165 X hG 0 rfl dX8_next_49 ?_
      refine lv_iconst (v := 1) hx hb dX8_next_52 (by decide) ?_
      refine lv_iadd hx hb dX8_next_53 ?_
      refine P_8_165 X hG 0 rfl hf (fun t => [wX8 g o ad t]) (fun _ => rfl) dX8_next_54 (fun z68 H locs hf hG => ?_)
      refine lv_goto (tgt := 8) hx hb dX8_next_57 (by decide) ?_
      exact hK3 _ hf _ _ _ hG (lv_sub hl [0] rfl)
    refine lv_icmp_eq (tgt := 47) hx hb dX8_next_30 (by decide) (fun hc69 => ?_) (fun hc69 => ?_)
    · replace hf := ite_t hf hc69
      exact hK67 _ hf _ _ _ hG (lv_sub hl [0] rfl)
    · replace hf := ite_f hf hc69
      refine lv_aload_n hx hb dX8_next_33 rfl (lv_at hl 0 rfl) ?_
      refine G_8_53 X hG 0 rfl dX8_next_34 ?_
      refine lv_aload_n hx hb dX8_next_37 rfl (lv_at hl 0 rfl) ?_
      refine G_8_165 X hG 0 rfl dX8_next_38 ?_
      refine r_bald X hG 0 12 rfl rfl hf dX8_next_41 (fun x70 hf => ?_)
      refine lv_bipush (v := 10) hx hb dX8_next_42 (by decide) ?_
      refine lv_icmp_ne (tgt := 60) hx hb dX8_next_44 (by decide) (fun hc71 => ?_) (fun hc71 => ?_)
      · replace hf := ite_f hf hc71
        exact hK5 _ hf _ _ _ hG (lv_sub hl [0] rfl)
      · replace hf := ite_t hf hc71
        exact hK67 _ hf _ _ _ hG (lv_sub hl [0] rfl)
def rmX8_faulty : Room := { frames := 0, cells := 0, slots := 0, locals := 0 }
set_option maxHeartbeats 4000000 in
set_option maxRecDepth 100000 in
theorem c_X8_faulty (g : GT) (l : Launch) (o : Nat) (ad : Nat → Nat) (n : Nat) (s0 : MS) (q : MS) (hf : f_X8_faulty n s0 = some q) : CV g l yX8_faulty cX8_faulty 1 none rmX8_faulty [.ref o] [wX8 g o ad s0] [wX8 g o ad q] := by
  refine CV_intro RX8 rfl (by decide +kernel) (Nat.le_of_ble_eq_true rfl) ?_
  intro p e s m args below meth c A ls Q hQ X hl hG
  have hl : lv_has ls 1 [(0, .ref o)] := hl
  have hx := X.1
  have hb := X.2.1
  have hown := X.2.2.2.1
  unfold f_X8_faulty at hf
  refine lv_aload_n hx hb dX8_faulty_0 rfl (lv_at hl 0 rfl) ?_
  refine G_8_187 X hG 0 rfl dX8_faulty_1 ?_
  refine lv_if_ge (tgt := 15) hx hb dX8_faulty_4 (by decide) (fun hc1 => ?_) (fun hc1 => ?_)
  · replace hf := ite_t hf hc1
    have hq9 := Option.some.inj hf
    subst hq9
    subst hQ
    exact r_vret X hG dX8_faulty_15
  · replace hf := ite_f hf hc1
    refine lv_aload_n hx hb dX8_faulty_7 rfl (lv_at hl 0 rfl) ?_
    refine lv_aload_n hx hb dX8_faulty_8 rfl (lv_at hl 0 rfl) ?_
    refine G_8_165 X hG 0 rfl dX8_faulty_9 ?_
    refine P_8_187 X hG 0 rfl hf (fun t => [wX8 g o ad t]) (fun _ => rfl) dX8_faulty_12 (fun z2 H locs hf hG => ?_)
    have hq9 := Option.some.inj hf
    subst hq9
    subst hQ
    exact r_vret X hG dX8_faulty_15
def rmX8_isSign : Room := { frames := 0, cells := 0, slots := 0, locals := 0 }
set_option maxHeartbeats 4000000 in
set_option maxRecDepth 100000 in
theorem c_X8_isSign (g : GT) (l : Launch) (o : Nat) (ad : Nat → Nat) (n : Nat) (a1 : Int32) (s0 : MS) (q : Int32) (hf : f_X8_isSign n a1 s0 = some q) : CI g l yX8_isSign cX8_isSign 2 (some .boolean) rmX8_isSign [.ref o, .int a1] [wX8 g o ad s0] q [wX8 g o ad s0] := by
  refine CI_intro RX8 rfl (by decide +kernel) (Nat.le_of_ble_eq_true rfl) ?_
  intro p e s m args below meth c A ls Q hQ X hl hG
  have hl : lv_has ls 2 [(0, .ref o), (1, .int a1)] := hl
  have hx := X.1
  have hb := X.2.1
  have hown := X.2.2.2.1
  unfold f_X8_isSign at hf
  refine lv_aload_n hx hb dX8_isSign_0 rfl (lv_at hl 0 rfl) ?_
  refine G_8_187 X hG 0 rfl dX8_isSign_1 ?_
  refine lv_if_ge (tgt := 27) hx hb dX8_isSign_4 (by decide) (fun hc1 => ?_) (fun hc1 => ?_)
  · replace hf := ite_t hf hc1
    refine lv_iconst (v := 0) hx hb dX8_isSign_27 (by decide) ?_
    obtain ⟨hz, hf⟩ := ck_inv hf
    have hq9 := Option.some.inj hf
    subst hq9
    subst hQ
    exact r_zret X hG (of_decide_eq_true hz) dX8_isSign_28
  · replace hf := ite_f hf hc1
    refine lv_aload_n hx hb dX8_isSign_7 rfl (lv_at hl 0 rfl) ?_
    refine G_8_171 X hG 0 rfl dX8_isSign_8 ?_
    refine lv_iconst (v := 3) hx hb dX8_isSign_11 (by decide) ?_
    refine lv_icmp_ne (tgt := 27) hx hb dX8_isSign_12 (by decide) (fun hc2 => ?_) (fun hc2 => ?_)
    · replace hf := ite_f hf hc2
      refine lv_iconst (v := 0) hx hb dX8_isSign_27 (by decide) ?_
      obtain ⟨hz, hf⟩ := ck_inv hf
      have hq9 := Option.some.inj hf
      subst hq9
      subst hQ
      exact r_zret X hG (of_decide_eq_true hz) dX8_isSign_28
    · replace hf := ite_t hf hc2
      refine lv_aload_n hx hb dX8_isSign_15 rfl (lv_at hl 0 rfl) ?_
      refine G_8_181 X hG 0 rfl dX8_isSign_16 ?_
      refine lv_iload_n hx hb dX8_isSign_19 rfl (lv_at hl 1 rfl) ?_
      refine lv_icmp_ne (tgt := 27) hx hb dX8_isSign_20 (by decide) (fun hc3 => ?_) (fun hc3 => ?_)
      · replace hf := ite_f hf hc3
        refine lv_iconst (v := 0) hx hb dX8_isSign_27 (by decide) ?_
        obtain ⟨hz, hf⟩ := ck_inv hf
        have hq9 := Option.some.inj hf
        subst hq9
        subst hQ
        exact r_zret X hG (of_decide_eq_true hz) dX8_isSign_28
      · replace hf := ite_t hf hc3
        refine lv_iconst (v := 1) hx hb dX8_isSign_23 (by decide) ?_
        refine lv_goto (tgt := 28) hx hb dX8_isSign_24 (by decide) ?_
        obtain ⟨hz, hf⟩ := ck_inv hf
        have hq9 := Option.some.inj hf
        subst hq9
        subst hQ
        exact r_zret X hG (of_decide_eq_true hz) dX8_isSign_28
def rmX8_isKey : Room := { frames := 0, cells := 0, slots := 0, locals := 0 }
set_option maxHeartbeats 4000000 in
set_option maxRecDepth 100000 in
theorem c_X8_isKey (g : GT) (l : Launch) (o : Nat) (ad : Nat → Nat) (n : Nat) (a1 : Int32) (s0 : MS) (q : Int32) (hf : f_X8_isKey n a1 s0 = some q) : CI g l yX8_isKey cX8_isKey 2 (some .boolean) rmX8_isKey [.ref o, .int a1] [wX8 g o ad s0] q [wX8 g o ad s0] := by
  refine CI_intro RX8 rfl (by decide +kernel) (Nat.le_of_ble_eq_true rfl) ?_
  intro p e s m args below meth c A ls Q hQ X hl hG
  have hl : lv_has ls 2 [(0, .ref o), (1, .int a1)] := hl
  have hx := X.1
  have hb := X.2.1
  have hown := X.2.2.2.1
  unfold f_X8_isKey at hf
  refine lv_aload_n hx hb dX8_isKey_0 rfl (lv_at hl 0 rfl) ?_
  refine G_8_187 X hG 0 rfl dX8_isKey_1 ?_
  refine lv_if_ge (tgt := 27) hx hb dX8_isKey_4 (by decide) (fun hc1 => ?_) (fun hc1 => ?_)
  · replace hf := ite_t hf hc1
    refine lv_iconst (v := 0) hx hb dX8_isKey_27 (by decide) ?_
    obtain ⟨hz, hf⟩ := ck_inv hf
    have hq9 := Option.some.inj hf
    subst hq9
    subst hQ
    exact r_zret X hG (of_decide_eq_true hz) dX8_isKey_28
  · replace hf := ite_f hf hc1
    refine lv_aload_n hx hb dX8_isKey_7 rfl (lv_at hl 0 rfl) ?_
    refine G_8_171 X hG 0 rfl dX8_isKey_8 ?_
    refine lv_iconst (v := 1) hx hb dX8_isKey_11 (by decide) ?_
    refine lv_icmp_ne (tgt := 27) hx hb dX8_isKey_12 (by decide) (fun hc2 => ?_) (fun hc2 => ?_)
    · replace hf := ite_f hf hc2
      refine lv_iconst (v := 0) hx hb dX8_isKey_27 (by decide) ?_
      obtain ⟨hz, hf⟩ := ck_inv hf
      have hq9 := Option.some.inj hf
      subst hq9
      subst hQ
      exact r_zret X hG (of_decide_eq_true hz) dX8_isKey_28
    · replace hf := ite_t hf hc2
      refine lv_aload_n hx hb dX8_isKey_15 rfl (lv_at hl 0 rfl) ?_
      refine G_8_181 X hG 0 rfl dX8_isKey_16 ?_
      refine lv_iload_n hx hb dX8_isKey_19 rfl (lv_at hl 1 rfl) ?_
      refine lv_icmp_ne (tgt := 27) hx hb dX8_isKey_20 (by decide) (fun hc3 => ?_) (fun hc3 => ?_)
      · replace hf := ite_f hf hc3
        refine lv_iconst (v := 0) hx hb dX8_isKey_27 (by decide) ?_
        obtain ⟨hz, hf⟩ := ck_inv hf
        have hq9 := Option.some.inj hf
        subst hq9
        subst hQ
        exact r_zret X hG (of_decide_eq_true hz) dX8_isKey_28
      · replace hf := ite_t hf hc3
        refine lv_iconst (v := 1) hx hb dX8_isKey_23 (by decide) ?_
        refine lv_goto (tgt := 28) hx hb dX8_isKey_24 (by decide) ?_
        obtain ⟨hz, hf⟩ := ck_inv hf
        have hq9 := Option.some.inj hf
        subst hq9
        subst hQ
        exact r_zret X hG (of_decide_eq_true hz) dX8_isKey_28
def rmX8_addStep : Room := { frames := 0, cells := 0, slots := 0, locals := 0 }
set_option maxHeartbeats 4000000 in
set_option maxRecDepth 100000 in
theorem c_X8_addStep (g : GT) (l : Launch) (o : Nat) (ad : Nat → Nat) (n : Nat) (a1 : Int32) (a2 : Int32) (s0 : MS) (q : MS) (hf : f_X8_addStep n a1 a2 s0 = some q) : CV g l yX8_addStep cX8_addStep 3 none rmX8_addStep [.ref o, .int a1, .int a2] [wX8 g o ad s0] [wX8 g o ad q] := by
  refine CV_intro RX8 rfl (by decide +kernel) (Nat.le_of_ble_eq_true rfl) ?_
  intro p e s m args below meth c A ls Q hQ X hl hG
  have hl : lv_has ls 3 [(0, .ref o), (1, .int a1), (2, .int a2)] := hl
  have hx := X.1
  have hb := X.2.1
  have hown := X.2.2.2.1
  unfold f_X8_addStep at hf
  refine lv_aload_n hx hb dX8_addStep_0 rfl (lv_at hl 0 rfl) ?_
  refine G_8_60 X hG 0 rfl dX8_addStep_1 ?_
  refine lv_sipush (v := 1020) hx hb dX8_addStep_4 (by decide) ?_
  refine lv_aload_n hx hb dX8_addStep_7 rfl (lv_at hl 0 rfl) ?_
  refine G_8_190 X hG 0 rfl dX8_addStep_8 ?_
  refine lv_iadd hx hb dX8_addStep_11 ?_
  refine lv_iload_n hx hb dX8_addStep_12 rfl (lv_at hl 1 rfl) ?_
  refine r_iast X hG 0 13 rfl rfl hf (fun t => [wX8 g o ad t]) rfl dX8_addStep_13 (fun z1 H locs hf hG => ?_)
  refine lv_aload_n hx hb dX8_addStep_14 rfl (lv_at hl 0 rfl) ?_
  refine G_8_63 X hG 0 rfl dX8_addStep_15 ?_
  refine lv_sipush (v := 1020) hx hb dX8_addStep_18 (by decide) ?_
  refine lv_aload_n hx hb dX8_addStep_21 rfl (lv_at hl 0 rfl) ?_
  refine G_8_190 X hG 0 rfl dX8_addStep_22 ?_
  refine lv_iadd hx hb dX8_addStep_25 ?_
  refine lv_iload_n hx hb dX8_addStep_26 rfl (lv_at hl 2 rfl) ?_
  refine r_iast X hG 0 14 rfl rfl hf (fun t => [wX8 g o ad t]) rfl dX8_addStep_27 (fun z2 H locs hf hG => ?_)
  refine lv_aload_n hx hb dX8_addStep_28 rfl (lv_at hl 0 rfl) ?_
  refine lv_dup hx hb dX8_addStep_29 rfl ?_
  refine G_8_190 X hG 0 rfl dX8_addStep_30 ?_
  refine lv_iconst (v := 1) hx hb dX8_addStep_33 (by decide) ?_
  refine lv_iadd hx hb dX8_addStep_34 ?_
  refine P_8_190 X hG 0 rfl hf (fun t => [wX8 g o ad t]) (fun _ => rfl) dX8_addStep_35 (fun z3 H locs hf hG => ?_)
  have hq9 := Option.some.inj hf
  subst hq9
  subst hQ
  exact r_vret X hG dX8_addStep_38
def rmX8_opens : Room := { frames := 3, cells := 0, slots := 0, locals := 63 }
set_option maxHeartbeats 4000000 in
set_option maxRecDepth 100000 in
theorem c_X8_opens (g : GT) (l : Launch) (o : Nat) (ad : Nat → Nat) (n : Nat) (s0 : MS) (q : Int32 × MS) (hf : f_X8_opens n s0 = some q) : CI g l yX8_opens cX8_opens 1 (some .boolean) rmX8_opens [.ref o] [wX8 g o ad s0] q.1 [wX8 g o ad q.2] := by
  refine CI_intro RX8 rfl (by decide +kernel) (Nat.le_of_ble_eq_true rfl) ?_
  intro p e s m args below meth c A ls Q hQ X hl hG
  have hl : lv_has ls 1 [(0, .ref o)] := hl
  have hx := X.1
  have hb := X.2.1
  have hown := X.2.2.2.1
  unfold f_X8_opens at hf
  refine lv_aload_n hx hb dX8_opens_0 rfl (lv_at hl 0 rfl) ?_
  refine G_8_193 X hG 0 rfl dX8_opens_1 ?_
  refine lv_iconst (v := 5) hx hb dX8_opens_4 (by decide) ?_
  refine lv_icmp_ne (tgt := 14) hx hb dX8_opens_5 (by decide) (fun hc1 => ?_) (fun hc1 => ?_)
  · replace hf := ite_f hf hc1
    refine lv_aload_n hx hb dX8_opens_14 rfl (lv_at hl 0 rfl) ?_
    refine lv_dup hx hb dX8_opens_15 rfl ?_
    refine G_8_193 X hG 0 rfl dX8_opens_16 ?_
    refine lv_iconst (v := 1) hx hb dX8_opens_19 (by decide) ?_
    refine lv_iadd hx hb dX8_opens_20 ?_
    refine P_8_193 X hG 0 rfl hf (fun t => [wX8 g o ad t]) (fun _ => rfl) dX8_opens_21 (fun z2 H locs hf hG => ?_)
    refine lv_aload_n hx hb dX8_opens_24 rfl (lv_at hl 0 rfl) ?_
    obtain ⟨q3, hq3, hf⟩ := cl_inv hf
    refine r_callVv (bc := [wX8 g o ad z2]) (br := []) (bs' := [wX8 g o ad q3]) (As := []) (rest := []) X hG hl.1 (c_X8_next g l o ad n z2 q3 hq3) (List.Perm.refl _) (List.Perm.refl _) lk_X8_next lv_X8_next ml_8_199 (j := 0) (k := 0) rfl rfl rfl rfl rfl ⟨Nat.le_of_ble_eq_true rfl, Nat.le_of_ble_eq_true rfl⟩ rfl rfl (Nat.le_of_ble_eq_true rfl) ⟨Nat.zero_le _, Nat.zero_le _⟩ dX8_opens_25 (fun H locs hG => ?_)
    refine lv_iconst (v := 1) hx hb dX8_opens_28 (by decide) ?_
    obtain ⟨hz, hf⟩ := ck_inv hf
    have hq9 := Option.some.inj hf
    subst hq9
    subst hQ
    exact r_zret X hG (of_decide_eq_true hz) dX8_opens_29
  · replace hf := ite_t hf hc1
    refine lv_aload_n hx hb dX8_opens_8 rfl (lv_at hl 0 rfl) ?_
    obtain ⟨q4, hq4, hf⟩ := cl_inv hf
    refine r_callVv (bc := [wX8 g o ad s0]) (br := []) (bs' := [wX8 g o ad q4]) (As := []) (rest := []) X hG hl.1 (c_X8_faulty g l o ad n s0 q4 hq4) (List.Perm.refl _) (List.Perm.refl _) lk_X8_faulty lv_X8_faulty ml_8_196 (j := 0) (k := 0) rfl rfl rfl rfl rfl ⟨Nat.le_of_ble_eq_true rfl, Nat.le_of_ble_eq_true rfl⟩ rfl rfl (Nat.le_of_ble_eq_true rfl) ⟨Nat.zero_le _, Nat.zero_le _⟩ dX8_opens_9 (fun H locs hG => ?_)
    refine lv_iconst (v := 0) hx hb dX8_opens_12 (by decide) ?_
    obtain ⟨hz, hf⟩ := ck_inv hf
    have hq9 := Option.some.inj hf
    subst hq9
    subst hQ
    exact r_zret X hG (of_decide_eq_true hz) dX8_opens_13
def rmG8 (d : Nat) : Room := { frames := d + 4, cells := 0, slots := 0, locals := 60 * d + 83 }
def GRP8 (g : GT) (l : Launch) (o : Nat) (ad : Nat → Nat) (d w : Nat) (s q : MS) : Prop := (w = 0 → CV g l yX8_either cX8_either 1 none (rmG8 d) [.ref o] [wX8 g o ad s] [wX8 g o ad q]) ∧ (w = 1 → CV g l yX8_all cX8_all 1 none (rmG8 d) [.ref o] [wX8 g o ad s] [wX8 g o ad q]) ∧ (w = 2 → CV g l yX8_denied cX8_denied 2 none (rmG8 d) [.ref o] [wX8 g o ad s] [wX8 g o ad q]) ∧ (w = 3 → CV g l yX8_sum cX8_sum 2 none (rmG8 d) [.ref o] [wX8 g o ad s] [wX8 g o ad q]) ∧ (w = 4 → CV g l yX8_term cX8_term 1 none (rmG8 d) [.ref o] [wX8 g o ad s] [wX8 g o ad q]) ∧ (w = 5 → CV g l yX8_one cX8_one 1 none (rmG8 d) [.ref o] [wX8 g o ad s] [wX8 g o ad q])
set_option maxHeartbeats 4000000 in
set_option maxRecDepth 100000 in
theorem cb_X8_either (g : GT) (l : Launch) (o : Nat) (ad : Nat → Nat) (n d : Nat) (rec : Nat → MS → Option MS) (hrec : ∀ (w : Nat) (s q : MS), rec w s = some q → GRP8 g l o ad d w s q) (s0 q : MS) (hf : b_X8_either n rec s0 = some q) : CV g l yX8_either cX8_either 1 none (rmG8 (d + 1)) [.ref o] [wX8 g o ad s0] [wX8 g o ad q] := by
  refine CV_intro RX8 rfl (by decide +kernel) (Nat.le_of_ble_eq_true rfl) ?_
  intro p e s m args below meth c A ls Q hQ X hl hG
  have hl : lv_has ls 1 [(0, .ref o)] := hl
  have hx := X.1
  have hb := X.2.1
  have hown := X.2.2.2.1
  unfold b_X8_either at hf
  refine lv_aload_n hx hb dX8_either_0 rfl (lv_at hl 0 rfl) ?_
  obtain ⟨q1, hq1, hf⟩ := cl_inv hf
  refine r_callVv (bc := [wX8 g o ad s0]) (br := []) (bs' := [wX8 g o ad q1]) (As := []) (rest := []) X hG hl.1 ((hrec 1 s0 q1 hq1).2.1 rfl) (List.Perm.refl _) (List.Perm.refl _) lk_X8_all lv_X8_all ml_8_202 (j := 0) (k := 0) rfl rfl rfl rfl rfl ⟨by show (_ : Nat) ≤ _; simp only [rmG8]; omega, by show (_ : Nat) ≤ _; simp only [rmG8]; omega⟩ rfl rfl (Nat.le_of_ble_eq_true rfl) ⟨Nat.zero_le _, Nat.zero_le _⟩ dX8_either_1 (fun H locs hG => ?_)
  refine lp_go (P := fun (t2 : MS) => ∀ (H : Heap) (locs : List Loc) (ls : Array Slot), GM g A s.heap H locs [wX8 g o ad t2] → lv_has ls 1 [(0, .ref o)] → W p l e (rmG8 (d + 1)) s m args below meth c H locs 0 0 Q (F0 m 4 ls [])) hf (fun K3 hK3 t2 hf H locs ls hG hl => ?_) _ _ _ hG (lv_sub hl [0] rfl)
  refine lv_aload_n hx hb dX8_either_4 rfl (lv_at hl 0 rfl) ?_
  refine lv_bipush (v := 13) hx hb dX8_either_5 (by decide) ?_
  obtain ⟨q4, hq4, hf⟩ := cl_inv hf
  refine r_callVi (bc := [wX8 g o ad t2]) (br := []) (bs' := [wX8 g o ad t2]) (As := [.int 13]) (rest := []) X hG hl.1 (c_X8_isKey g l o ad n 13 t2 q4 hq4) (List.Perm.refl _) (List.Perm.refl _) lk_X8_isKey lv_X8_isKey ml_8_205 (j := 0) (k := 0) rfl rfl rfl rfl rfl ⟨by show (_ : Nat) ≤ _; simp only [rmG8, rmX8_isKey]; omega, by show (_ : Nat) ≤ _; simp only [rmG8, rmX8_isKey]; omega⟩ rfl rfl (Nat.le_of_ble_eq_true rfl) ⟨Nat.zero_le _, Nat.zero_le _⟩ dX8_either_7 (fun H locs hG => ?_)
  refine lv_if_eq (tgt := 30) hx hb dX8_either_10 (by decide) (fun hc5 => ?_) (fun hc5 => ?_)
  · replace hf := ite_t hf hc5
    have hq9 := Option.some.inj hf
    subst hq9
    subst hQ
    exact r_vret X hG dX8_either_30
  · replace hf := ite_f hf hc5
    refine lv_aload_n hx hb dX8_either_13 rfl (lv_at hl 0 rfl) ?_
    obtain ⟨q6, hq6, hf⟩ := cl_inv hf
    refine r_callVv (bc := [wX8 g o ad t2]) (br := []) (bs' := [wX8 g o ad q6]) (As := []) (rest := []) X hG hl.1 (c_X8_next g l o ad n t2 q6 hq6) (List.Perm.refl _) (List.Perm.refl _) lk_X8_next lv_X8_next ml_8_199 (j := 0) (k := 0) rfl rfl rfl rfl rfl ⟨by show (_ : Nat) ≤ _; simp only [rmG8, rmX8_next]; omega, by show (_ : Nat) ≤ _; simp only [rmG8, rmX8_next]; omega⟩ rfl rfl (Nat.le_of_ble_eq_true rfl) ⟨Nat.zero_le _, Nat.zero_le _⟩ dX8_either_14 (fun H locs hG => ?_)
    refine lv_aload_n hx hb dX8_either_17 rfl (lv_at hl 0 rfl) ?_
    obtain ⟨q7, hq7, hf⟩ := cl_inv hf
    refine r_callVv (bc := [wX8 g o ad q6]) (br := []) (bs' := [wX8 g o ad q7]) (As := []) (rest := []) X hG hl.1 ((hrec 1 q6 q7 hq7).2.1 rfl) (List.Perm.refl _) (List.Perm.refl _) lk_X8_all lv_X8_all ml_8_202 (j := 0) (k := 0) rfl rfl rfl rfl rfl ⟨by show (_ : Nat) ≤ _; simp only [rmG8]; omega, by show (_ : Nat) ≤ _; simp only [rmG8]; omega⟩ rfl rfl (Nat.le_of_ble_eq_true rfl) ⟨Nat.zero_le _, Nat.zero_le _⟩ dX8_either_18 (fun H locs hG => ?_)
    refine lv_aload_n hx hb dX8_either_21 rfl (lv_at hl 0 rfl) ?_
    refine lv_iconst (v := 5) hx hb dX8_either_22 (by decide) ?_
    refine lv_iconst (v := 0) hx hb dX8_either_23 (by decide) ?_
    obtain ⟨q8, hq8, hf⟩ := cl_inv hf
    refine r_callVv (bc := [wX8 g o ad q7]) (br := []) (bs' := [wX8 g o ad q8]) (As := [.int 5, .int 0]) (rest := []) X hG hl.1 (c_X8_addStep g l o ad n 5 0 q7 q8 hq8) (List.Perm.refl _) (List.Perm.refl _) lk_X8_addStep lv_X8_addStep ml_8_208 (j := 0) (k := 0) rfl rfl rfl rfl rfl ⟨by show (_ : Nat) ≤ _; simp only [rmG8, rmX8_addStep]; omega, by show (_ : Nat) ≤ _; simp only [rmG8, rmX8_addStep]; omega⟩ rfl rfl (Nat.le_of_ble_eq_true rfl) ⟨Nat.zero_le _, Nat.zero_le _⟩ dX8_either_24 (fun H locs hG => ?_)
    refine lv_goto (tgt := 4) hx hb dX8_either_27 (by decide) ?_
    exact hK3 _ hf _ _ _ hG (lv_sub hl [0] rfl)
set_option maxHeartbeats 4000000 in
set_option maxRecDepth 100000 in
theorem cb_X8_all (g : GT) (l : Launch) (o : Nat) (ad : Nat → Nat) (n d : Nat) (rec : Nat → MS → Option MS) (hrec : ∀ (w : Nat) (s q : MS), rec w s = some q → GRP8 g l o ad d w s q) (s0 q : MS) (hf : b_X8_all n rec s0 = some q) : CV g l yX8_all cX8_all 1 none (rmG8 (d + 1)) [.ref o] [wX8 g o ad s0] [wX8 g o ad q] := by
  refine CV_intro RX8 rfl (by decide +kernel) (Nat.le_of_ble_eq_true rfl) ?_
  intro p e s m args below meth c A ls Q hQ X hl hG
  have hl : lv_has ls 1 [(0, .ref o)] := hl
  have hx := X.1
  have hb := X.2.1
  have hown := X.2.2.2.1
  unfold b_X8_all at hf
  refine lv_aload_n hx hb dX8_all_0 rfl (lv_at hl 0 rfl) ?_
  obtain ⟨q1, hq1, hf⟩ := cl_inv hf
  refine r_callVv (bc := [wX8 g o ad s0]) (br := []) (bs' := [wX8 g o ad q1]) (As := []) (rest := []) X hG hl.1 ((hrec 2 s0 q1 hq1).2.2.1 rfl) (List.Perm.refl _) (List.Perm.refl _) lk_X8_denied lv_X8_denied ml_8_212 (j := 0) (k := 0) rfl rfl rfl rfl rfl ⟨by show (_ : Nat) ≤ _; simp only [rmG8]; omega, by show (_ : Nat) ≤ _; simp only [rmG8]; omega⟩ rfl rfl (Nat.le_of_ble_eq_true rfl) ⟨Nat.zero_le _, Nat.zero_le _⟩ dX8_all_1 (fun H locs hG => ?_)
  refine lp_go (P := fun (t2 : MS) => ∀ (H : Heap) (locs : List Loc) (ls : Array Slot), GM g A s.heap H locs [wX8 g o ad t2] → lv_has ls 1 [(0, .ref o)] → W p l e (rmG8 (d + 1)) s m args below meth c H locs 0 0 Q (F0 m 4 ls [])) hf (fun K3 hK3 t2 hf H locs ls hG hl => ?_) _ _ _ hG (lv_sub hl [0] rfl)
  refine lv_aload_n hx hb dX8_all_4 rfl (lv_at hl 0 rfl) ?_
  refine lv_bipush (v := 14) hx hb dX8_all_5 (by decide) ?_
  obtain ⟨q4, hq4, hf⟩ := cl_inv hf
  refine r_callVi (bc := [wX8 g o ad t2]) (br := []) (bs' := [wX8 g o ad t2]) (As := [.int 14]) (rest := []) X hG hl.1 (c_X8_isKey g l o ad n 14 t2 q4 hq4) (List.Perm.refl _) (List.Perm.refl _) lk_X8_isKey lv_X8_isKey ml_8_205 (j := 0) (k := 0) rfl rfl rfl rfl rfl ⟨by show (_ : Nat) ≤ _; simp only [rmG8, rmX8_isKey]; omega, by show (_ : Nat) ≤ _; simp only [rmG8, rmX8_isKey]; omega⟩ rfl rfl (Nat.le_of_ble_eq_true rfl) ⟨Nat.zero_le _, Nat.zero_le _⟩ dX8_all_7 (fun H locs hG => ?_)
  refine lv_if_eq (tgt := 31) hx hb dX8_all_10 (by decide) (fun hc5 => ?_) (fun hc5 => ?_)
  · replace hf := ite_t hf hc5
    have hq9 := Option.some.inj hf
    subst hq9
    subst hQ
    exact r_vret X hG dX8_all_31
  · replace hf := ite_f hf hc5
    refine lv_aload_n hx hb dX8_all_13 rfl (lv_at hl 0 rfl) ?_
    obtain ⟨q6, hq6, hf⟩ := cl_inv hf
    refine r_callVv (bc := [wX8 g o ad t2]) (br := []) (bs' := [wX8 g o ad q6]) (As := []) (rest := []) X hG hl.1 (c_X8_next g l o ad n t2 q6 hq6) (List.Perm.refl _) (List.Perm.refl _) lk_X8_next lv_X8_next ml_8_199 (j := 0) (k := 0) rfl rfl rfl rfl rfl ⟨by show (_ : Nat) ≤ _; simp only [rmG8, rmX8_next]; omega, by show (_ : Nat) ≤ _; simp only [rmG8, rmX8_next]; omega⟩ rfl rfl (Nat.le_of_ble_eq_true rfl) ⟨Nat.zero_le _, Nat.zero_le _⟩ dX8_all_14 (fun H locs hG => ?_)
    refine lv_aload_n hx hb dX8_all_17 rfl (lv_at hl 0 rfl) ?_
    obtain ⟨q7, hq7, hf⟩ := cl_inv hf
    refine r_callVv (bc := [wX8 g o ad q6]) (br := []) (bs' := [wX8 g o ad q7]) (As := []) (rest := []) X hG hl.1 ((hrec 2 q6 q7 hq7).2.2.1 rfl) (List.Perm.refl _) (List.Perm.refl _) lk_X8_denied lv_X8_denied ml_8_212 (j := 0) (k := 0) rfl rfl rfl rfl rfl ⟨by show (_ : Nat) ≤ _; simp only [rmG8]; omega, by show (_ : Nat) ≤ _; simp only [rmG8]; omega⟩ rfl rfl (Nat.le_of_ble_eq_true rfl) ⟨Nat.zero_le _, Nat.zero_le _⟩ dX8_all_18 (fun H locs hG => ?_)
    refine lv_aload_n hx hb dX8_all_21 rfl (lv_at hl 0 rfl) ?_
    refine lv_bipush (v := 6) hx hb dX8_all_22 (by decide) ?_
    refine lv_iconst (v := 0) hx hb dX8_all_24 (by decide) ?_
    obtain ⟨q8, hq8, hf⟩ := cl_inv hf
    refine r_callVv (bc := [wX8 g o ad q7]) (br := []) (bs' := [wX8 g o ad q8]) (As := [.int 6, .int 0]) (rest := []) X hG hl.1 (c_X8_addStep g l o ad n 6 0 q7 q8 hq8) (List.Perm.refl _) (List.Perm.refl _) lk_X8_addStep lv_X8_addStep ml_8_208 (j := 0) (k := 0) rfl rfl rfl rfl rfl ⟨by show (_ : Nat) ≤ _; simp only [rmG8, rmX8_addStep]; omega, by show (_ : Nat) ≤ _; simp only [rmG8, rmX8_addStep]; omega⟩ rfl rfl (Nat.le_of_ble_eq_true rfl) ⟨Nat.zero_le _, Nat.zero_le _⟩ dX8_all_25 (fun H locs hG => ?_)
    refine lv_goto (tgt := 4) hx hb dX8_all_28 (by decide) ?_
    exact hK3 _ hf _ _ _ hG (lv_sub hl [0] rfl)
set_option maxHeartbeats 4000000 in
set_option maxRecDepth 100000 in
theorem cb_X8_denied (g : GT) (l : Launch) (o : Nat) (ad : Nat → Nat) (n d : Nat) (rec : Nat → MS → Option MS) (hrec : ∀ (w : Nat) (s q : MS), rec w s = some q → GRP8 g l o ad d w s q) (s0 q : MS) (hf : b_X8_denied n rec s0 = some q) : CV g l yX8_denied cX8_denied 2 none (rmG8 (d + 1)) [.ref o] [wX8 g o ad s0] [wX8 g o ad q] := by
  refine CV_intro RX8 rfl (by decide +kernel) (Nat.le_of_ble_eq_true rfl) ?_
  intro p e s m args below meth c A ls Q hQ X hl hG
  have hl : lv_has ls 2 [(0, .ref o)] := hl
  have hx := X.1
  have hb := X.2.1
  have hown := X.2.2.2.1
  unfold b_X8_denied at hf
  refine lv_aload_n hx hb dX8_denied_0 rfl (lv_at hl 0 rfl) ?_
  refine lv_bipush (v := 15) hx hb dX8_denied_1 (by decide) ?_
  obtain ⟨q1, hq1, hf⟩ := cl_inv hf
  refine r_callVi (bc := [wX8 g o ad s0]) (br := []) (bs' := [wX8 g o ad s0]) (As := [.int 15]) (rest := []) X hG hl.1 (c_X8_isKey g l o ad n 15 s0 q1 hq1) (List.Perm.refl _) (List.Perm.refl _) lk_X8_isKey lv_X8_isKey ml_8_205 (j := 0) (k := 0) rfl rfl rfl rfl rfl ⟨by show (_ : Nat) ≤ _; simp only [rmG8, rmX8_isKey]; omega, by show (_ : Nat) ≤ _; simp only [rmG8, rmX8_isKey]; omega⟩ rfl rfl (Nat.le_of_ble_eq_true rfl) ⟨Nat.zero_le _, Nat.zero_le _⟩ dX8_denied_3 (fun H locs hG => ?_)
  refine lv_if_eq (tgt := 38) hx hb dX8_denied_6 (by decide) (fun hc2 => ?_) (fun hc2 => ?_)
  · replace hf := ite_t hf hc2
    refine lv_aload_n hx hb dX8_denied_38 rfl (lv_at hl 0 rfl) ?_
    obtain ⟨q3, hq3, hf⟩ := cl_inv hf
    refine r_callVv (bc := [wX8 g o ad s0]) (br := []) (bs' := [wX8 g o ad q3]) (As := []) (rest := []) X hG hl.1 ((hrec 3 s0 q3 hq3).2.2.2.1 rfl) (List.Perm.refl _) (List.Perm.refl _) lk_X8_sum lv_X8_sum ml_8_219 (j := 0) (k := 0) rfl rfl rfl rfl rfl ⟨by show (_ : Nat) ≤ _; simp only [rmG8]; omega, by show (_ : Nat) ≤ _; simp only [rmG8]; omega⟩ rfl rfl (Nat.le_of_ble_eq_true rfl) ⟨Nat.zero_le _, Nat.zero_le _⟩ dX8_denied_39 (fun H locs hG => ?_)
    refine lv_aload_n hx hb dX8_denied_42 rfl (lv_at hl 0 rfl) ?_
    refine lv_bipush (v := 60) hx hb dX8_denied_43 (by decide) ?_
    obtain ⟨q4, hq4, hf⟩ := cl_inv hf
    refine r_callVi (bc := [wX8 g o ad q3]) (br := []) (bs' := [wX8 g o ad q3]) (As := [.int 60]) (rest := []) X hG hl.1 (c_X8_isSign g l o ad n 60 q3 q4 hq4) (List.Perm.refl _) (List.Perm.refl _) lk_X8_isSign lv_X8_isSign ml_8_222 (j := 0) (k := 0) rfl rfl rfl rfl rfl ⟨by show (_ : Nat) ≤ _; simp only [rmG8, rmX8_isSign]; omega, by show (_ : Nat) ≤ _; simp only [rmG8, rmX8_isSign]; omega⟩ rfl rfl (Nat.le_of_ble_eq_true rfl) ⟨Nat.zero_le _, Nat.zero_le _⟩ dX8_denied_45 (fun H locs hG => ?_)
    refine jn_use (P := fun (t5 : Unit) => ∀ (H : Heap) (locs : List Loc) (ls : Array Slot), GM g A s.heap H locs [wX8 g o ad q3] → lv_has ls 2 [(0, .ref o)] → W p l e (rmG8 (d + 1)) s m args below meth c H locs 0 0 Q (F0 m 61 ls [])) hf (fun t5 hf H locs ls hG hl => ?_) (fun K6 hK6 hf => ?_)
    · refine lv_aload_n hx hb dX8_denied_61 rfl (lv_at hl 0 rfl) ?_
      refine G_8_181 X hG 0 rfl dX8_denied_62 ?_
      refine lv_istore_n (lv' := [(1, .int (q3.1 32)), (0, .ref o)]) hx hb dX8_denied_65 rfl hl (by decide) rfl (fun ls hl => ?_)
      refine lv_aload_n hx hb dX8_denied_66 rfl (lv_at hl 1 rfl) ?_
      obtain ⟨q7, hq7, hf⟩ := cl_inv hf
      refine r_callVv (bc := [wX8 g o ad q3]) (br := []) (bs' := [wX8 g o ad q7]) (As := []) (rest := []) X hG hl.1 (c_X8_next g l o ad n q3 q7 hq7) (List.Perm.refl _) (List.Perm.refl _) lk_X8_next lv_X8_next ml_8_199 (j := 0) (k := 0) rfl rfl rfl rfl rfl ⟨by show (_ : Nat) ≤ _; simp only [rmG8, rmX8_next]; omega, by show (_ : Nat) ≤ _; simp only [rmG8, rmX8_next]; omega⟩ rfl rfl (Nat.le_of_ble_eq_true rfl) ⟨Nat.zero_le _, Nat.zero_le _⟩ dX8_denied_67 (fun H locs hG => ?_)
      refine lv_aload_n hx hb dX8_denied_70 rfl (lv_at hl 1 rfl) ?_
      obtain ⟨q8, hq8, hf⟩ := cl_inv hf
      refine r_callVv (bc := [wX8 g o ad q7]) (br := []) (bs' := [wX8 g o ad q8]) (As := []) (rest := []) X hG hl.1 ((hrec 3 q7 q8 hq8).2.2.2.1 rfl) (List.Perm.refl _) (List.Perm.refl _) lk_X8_sum lv_X8_sum ml_8_219 (j := 0) (k := 0) rfl rfl rfl rfl rfl ⟨by show (_ : Nat) ≤ _; simp only [rmG8]; omega, by show (_ : Nat) ≤ _; simp only [rmG8]; omega⟩ rfl rfl (Nat.le_of_ble_eq_true rfl) ⟨Nat.zero_le _, Nat.zero_le _⟩ dX8_denied_71 (fun H locs hG => ?_)
      refine lv_aload_n hx hb dX8_denied_74 rfl (lv_at hl 1 rfl) ?_
      refine lv_iload_n hx hb dX8_denied_75 rfl (lv_at hl 0 rfl) ?_
      refine lv_iconst (v := 0) hx hb dX8_denied_76 (by decide) ?_
      obtain ⟨q9, hq9, hf⟩ := cl_inv hf
      refine r_callVv (bc := [wX8 g o ad q8]) (br := []) (bs' := [wX8 g o ad q9]) (As := [.int (q3.1 32), .int 0]) (rest := []) X hG hl.1 (c_X8_addStep g l o ad n (q3.1 32) 0 q8 q9 hq9) (List.Perm.refl _) (List.Perm.refl _) lk_X8_addStep lv_X8_addStep ml_8_208 (j := 0) (k := 0) rfl rfl rfl rfl rfl ⟨by show (_ : Nat) ≤ _; simp only [rmG8, rmX8_addStep]; omega, by show (_ : Nat) ≤ _; simp only [rmG8, rmX8_addStep]; omega⟩ rfl rfl (Nat.le_of_ble_eq_true rfl) ⟨Nat.zero_le _, Nat.zero_le _⟩ dX8_denied_77 (fun H locs hG => ?_)
      have hq9 := Option.some.inj hf
      subst hq9
      subst hQ
      exact r_vret X hG dX8_denied_80
    refine lv_if_ne (tgt := 61) hx hb dX8_denied_48 (by decide) (fun hc10 => ?_) (fun hc10 => ?_)
    · replace hf := ite_f hf hc10
      exact hK6 _ hf _ _ _ hG (lv_sub hl [0] rfl)
    · replace hf := ite_t hf hc10
      refine lv_aload_n hx hb dX8_denied_51 rfl (lv_at hl 0 rfl) ?_
      refine lv_bipush (v := 61) hx hb dX8_denied_52 (by decide) ?_
      obtain ⟨q11, hq11, hf⟩ := cl_inv hf
      refine r_callVi (bc := [wX8 g o ad q3]) (br := []) (bs' := [wX8 g o ad q3]) (As := [.int 61]) (rest := []) X hG hl.1 (c_X8_isSign g l o ad n 61 q3 q11 hq11) (List.Perm.refl _) (List.Perm.refl _) lk_X8_isSign lv_X8_isSign ml_8_222 (j := 0) (k := 0) rfl rfl rfl rfl rfl ⟨by show (_ : Nat) ≤ _; simp only [rmG8, rmX8_isSign]; omega, by show (_ : Nat) ≤ _; simp only [rmG8, rmX8_isSign]; omega⟩ rfl rfl (Nat.le_of_ble_eq_true rfl) ⟨Nat.zero_le _, Nat.zero_le _⟩ dX8_denied_54 (fun H locs hG => ?_)
      refine lv_if_ne (tgt := 61) hx hb dX8_denied_57 (by decide) (fun hc12 => ?_) (fun hc12 => ?_)
      · replace hf := ite_f hf hc12
        exact hK6 _ hf _ _ _ hG (lv_sub hl [0] rfl)
      · replace hf := ite_t hf hc12
        have hq9 := Option.some.inj hf
        subst hq9
        subst hQ
        exact r_vret X hG dX8_denied_60
  · replace hf := ite_f hf hc2
    refine lv_aload_n hx hb dX8_denied_9 rfl (lv_at hl 0 rfl) ?_
    obtain ⟨q13, hq13, hf⟩ := cl_inv hf
    refine r_callVi (bc := [wX8 g o ad s0]) (br := []) (bs' := [wX8 g o ad q13.2]) (As := []) (rest := []) X hG hl.1 (c_X8_opens g l o ad n s0 q13 hq13) (List.Perm.refl _) (List.Perm.refl _) lk_X8_opens lv_X8_opens ml_8_215 (j := 0) (k := 0) rfl rfl rfl rfl rfl ⟨by show (_ : Nat) ≤ _; simp only [rmG8, rmX8_opens]; omega, by show (_ : Nat) ≤ _; simp only [rmG8, rmX8_opens]; omega⟩ rfl rfl (Nat.le_of_ble_eq_true rfl) ⟨Nat.zero_le _, Nat.zero_le _⟩ dX8_denied_10 (fun H locs hG => ?_)
    refine lv_if_ne (tgt := 17) hx hb dX8_denied_13 (by decide) (fun hc14 => ?_) (fun hc14 => ?_)
    · replace hf := ite_f hf hc14
      refine lv_aload_n hx hb dX8_denied_17 rfl (lv_at hl 0 rfl) ?_
      obtain ⟨q15, hq15, hf⟩ := cl_inv hf
      refine r_callVv (bc := [wX8 g o ad q13.2]) (br := []) (bs' := [wX8 g o ad q15]) (As := []) (rest := []) X hG hl.1 ((hrec 2 q13.2 q15 hq15).2.2.1 rfl) (List.Perm.refl _) (List.Perm.refl _) lk_X8_denied lv_X8_denied ml_8_212 (j := 0) (k := 0) rfl rfl rfl rfl rfl ⟨by show (_ : Nat) ≤ _; simp only [rmG8]; omega, by show (_ : Nat) ≤ _; simp only [rmG8]; omega⟩ rfl rfl (Nat.le_of_ble_eq_true rfl) ⟨Nat.zero_le _, Nat.zero_le _⟩ dX8_denied_18 (fun H locs hG => ?_)
      refine lv_aload_n hx hb dX8_denied_21 rfl (lv_at hl 0 rfl) ?_
      refine lv_dup hx hb dX8_denied_22 rfl ?_
      refine G_8_193 X hG 0 rfl dX8_denied_23 ?_
      refine lv_iconst (v := 1) hx hb dX8_denied_26 (by decide) ?_
      refine lv_isub hx hb dX8_denied_27 ?_
      refine P_8_193 X hG 0 rfl hf (fun t => [wX8 g o ad t]) (fun _ => rfl) dX8_denied_28 (fun z16 H locs hf hG => ?_)
      refine lv_aload_n hx hb dX8_denied_31 rfl (lv_at hl 0 rfl) ?_
      refine lv_iconst (v := 3) hx hb dX8_denied_32 (by decide) ?_
      refine lv_iconst (v := 0) hx hb dX8_denied_33 (by decide) ?_
      obtain ⟨q17, hq17, hf⟩ := cl_inv hf
      refine r_callVv (bc := [wX8 g o ad z16]) (br := []) (bs' := [wX8 g o ad q17]) (As := [.int 3, .int 0]) (rest := []) X hG hl.1 (c_X8_addStep g l o ad n 3 0 z16 q17 hq17) (List.Perm.refl _) (List.Perm.refl _) lk_X8_addStep lv_X8_addStep ml_8_208 (j := 0) (k := 0) rfl rfl rfl rfl rfl ⟨by show (_ : Nat) ≤ _; simp only [rmG8, rmX8_addStep]; omega, by show (_ : Nat) ≤ _; simp only [rmG8, rmX8_addStep]; omega⟩ rfl rfl (Nat.le_of_ble_eq_true rfl) ⟨Nat.zero_le _, Nat.zero_le _⟩ dX8_denied_34 (fun H locs hG => ?_)
      have hq9 := Option.some.inj hf
      subst hq9
      subst hQ
      exact r_vret X hG dX8_denied_37
    · replace hf := ite_t hf hc14
      have hq9 := Option.some.inj hf
      subst hq9
      subst hQ
      exact r_vret X hG dX8_denied_16
set_option maxHeartbeats 4000000 in
set_option maxRecDepth 100000 in
theorem cb_X8_sum (g : GT) (l : Launch) (o : Nat) (ad : Nat → Nat) (n d : Nat) (rec : Nat → MS → Option MS) (hrec : ∀ (w : Nat) (s q : MS), rec w s = some q → GRP8 g l o ad d w s q) (s0 q : MS) (hf : b_X8_sum n rec s0 = some q) : CV g l yX8_sum cX8_sum 2 none (rmG8 (d + 1)) [.ref o] [wX8 g o ad s0] [wX8 g o ad q] := by
  refine CV_intro RX8 rfl (by decide +kernel) (Nat.le_of_ble_eq_true rfl) ?_
  intro p e s m args below meth c A ls Q hQ X hl hG
  have hl : lv_has ls 2 [(0, .ref o)] := hl
  have hx := X.1
  have hb := X.2.1
  have hown := X.2.2.2.1
  unfold b_X8_sum at hf
  refine lv_aload_n hx hb dX8_sum_0 rfl (lv_at hl 0 rfl) ?_
  obtain ⟨q1, hq1, hf⟩ := cl_inv hf
  refine r_callVv (bc := [wX8 g o ad s0]) (br := []) (bs' := [wX8 g o ad q1]) (As := []) (rest := []) X hG hl.1 ((hrec 4 s0 q1 hq1).2.2.2.2.1 rfl) (List.Perm.refl _) (List.Perm.refl _) lk_X8_term lv_X8_term ml_8_225 (j := 0) (k := 0) rfl rfl rfl rfl rfl ⟨by show (_ : Nat) ≤ _; simp only [rmG8]; omega, by show (_ : Nat) ≤ _; simp only [rmG8]; omega⟩ rfl rfl (Nat.le_of_ble_eq_true rfl) ⟨Nat.zero_le _, Nat.zero_le _⟩ dX8_sum_1 (fun H locs hG => ?_)
  refine lp_go (P := fun (t2 : MS) => ∀ (H : Heap) (locs : List Loc) (ls : Array Slot), GM g A s.heap H locs [wX8 g o ad t2] → lv_has ls 2 [(0, .ref o)] → W p l e (rmG8 (d + 1)) s m args below meth c H locs 0 0 Q (F0 m 4 ls [])) hf (fun K3 hK3 t2 hf H locs ls hG hl => ?_) _ _ _ hG (lv_sub hl [0] rfl)
  refine lv_aload_n hx hb dX8_sum_4 rfl (lv_at hl 0 rfl) ?_
  refine lv_bipush (v := 43) hx hb dX8_sum_5 (by decide) ?_
  obtain ⟨q4, hq4, hf⟩ := cl_inv hf
  refine r_callVi (bc := [wX8 g o ad t2]) (br := []) (bs' := [wX8 g o ad t2]) (As := [.int 43]) (rest := []) X hG hl.1 (c_X8_isSign g l o ad n 43 t2 q4 hq4) (List.Perm.refl _) (List.Perm.refl _) lk_X8_isSign lv_X8_isSign ml_8_222 (j := 0) (k := 0) rfl rfl rfl rfl rfl ⟨by show (_ : Nat) ≤ _; simp only [rmG8, rmX8_isSign]; omega, by show (_ : Nat) ≤ _; simp only [rmG8, rmX8_isSign]; omega⟩ rfl rfl (Nat.le_of_ble_eq_true rfl) ⟨Nat.zero_le _, Nat.zero_le _⟩ dX8_sum_7 (fun H locs hG => ?_)
  refine jn_use (P := fun (t5 : Unit) => ∀ (H : Heap) (locs : List Loc) (ls : Array Slot), GM g A s.heap H locs [wX8 g o ad t2] → lv_has ls 2 [(0, .ref o)] → W p l e (rmG8 (d + 1)) s m args below meth c H locs 0 0 Q (F0 m 22 ls [])) hf (fun t5 hf H locs ls hG hl => ?_) (fun K6 hK6 hf => ?_)
  · refine lv_aload_n hx hb dX8_sum_22 rfl (lv_at hl 0 rfl) ?_
    refine G_8_181 X hG 0 rfl dX8_sum_23 ?_
    refine lv_istore_n (lv' := [(1, .int (t2.1 32)), (0, .ref o)]) hx hb dX8_sum_26 rfl hl (by decide) rfl (fun ls hl => ?_)
    refine lv_aload_n hx hb dX8_sum_27 rfl (lv_at hl 1 rfl) ?_
    obtain ⟨q7, hq7, hf⟩ := cl_inv hf
    refine r_callVv (bc := [wX8 g o ad t2]) (br := []) (bs' := [wX8 g o ad q7]) (As := []) (rest := []) X hG hl.1 (c_X8_next g l o ad n t2 q7 hq7) (List.Perm.refl _) (List.Perm.refl _) lk_X8_next lv_X8_next ml_8_199 (j := 0) (k := 0) rfl rfl rfl rfl rfl ⟨by show (_ : Nat) ≤ _; simp only [rmG8, rmX8_next]; omega, by show (_ : Nat) ≤ _; simp only [rmG8, rmX8_next]; omega⟩ rfl rfl (Nat.le_of_ble_eq_true rfl) ⟨Nat.zero_le _, Nat.zero_le _⟩ dX8_sum_28 (fun H locs hG => ?_)
    refine lv_aload_n hx hb dX8_sum_31 rfl (lv_at hl 1 rfl) ?_
    obtain ⟨q8, hq8, hf⟩ := cl_inv hf
    refine r_callVv (bc := [wX8 g o ad q7]) (br := []) (bs' := [wX8 g o ad q8]) (As := []) (rest := []) X hG hl.1 ((hrec 4 q7 q8 hq8).2.2.2.2.1 rfl) (List.Perm.refl _) (List.Perm.refl _) lk_X8_term lv_X8_term ml_8_225 (j := 0) (k := 0) rfl rfl rfl rfl rfl ⟨by show (_ : Nat) ≤ _; simp only [rmG8]; omega, by show (_ : Nat) ≤ _; simp only [rmG8]; omega⟩ rfl rfl (Nat.le_of_ble_eq_true rfl) ⟨Nat.zero_le _, Nat.zero_le _⟩ dX8_sum_32 (fun H locs hG => ?_)
    refine lv_aload_n hx hb dX8_sum_35 rfl (lv_at hl 1 rfl) ?_
    refine lv_iload_n hx hb dX8_sum_36 rfl (lv_at hl 0 rfl) ?_
    refine lv_iconst (v := 0) hx hb dX8_sum_37 (by decide) ?_
    obtain ⟨q9, hq9, hf⟩ := cl_inv hf
    refine r_callVv (bc := [wX8 g o ad q8]) (br := []) (bs' := [wX8 g o ad q9]) (As := [.int (t2.1 32), .int 0]) (rest := []) X hG hl.1 (c_X8_addStep g l o ad n (t2.1 32) 0 q8 q9 hq9) (List.Perm.refl _) (List.Perm.refl _) lk_X8_addStep lv_X8_addStep ml_8_208 (j := 0) (k := 0) rfl rfl rfl rfl rfl ⟨by show (_ : Nat) ≤ _; simp only [rmG8, rmX8_addStep]; omega, by show (_ : Nat) ≤ _; simp only [rmG8, rmX8_addStep]; omega⟩ rfl rfl (Nat.le_of_ble_eq_true rfl) ⟨Nat.zero_le _, Nat.zero_le _⟩ dX8_sum_38 (fun H locs hG => ?_)
    refine lv_goto (tgt := 4) hx hb dX8_sum_41 (by decide) ?_
    exact hK3 _ hf _ _ _ hG (lv_sub hl [1] rfl)
  refine lv_if_ne (tgt := 22) hx hb dX8_sum_10 (by decide) (fun hc10 => ?_) (fun hc10 => ?_)
  · replace hf := ite_f hf hc10
    exact hK6 _ hf _ _ _ hG (lv_sub hl [0] rfl)
  · replace hf := ite_t hf hc10
    refine lv_aload_n hx hb dX8_sum_13 rfl (lv_at hl 0 rfl) ?_
    refine lv_bipush (v := 45) hx hb dX8_sum_14 (by decide) ?_
    obtain ⟨q11, hq11, hf⟩ := cl_inv hf
    refine r_callVi (bc := [wX8 g o ad t2]) (br := []) (bs' := [wX8 g o ad t2]) (As := [.int 45]) (rest := []) X hG hl.1 (c_X8_isSign g l o ad n 45 t2 q11 hq11) (List.Perm.refl _) (List.Perm.refl _) lk_X8_isSign lv_X8_isSign ml_8_222 (j := 0) (k := 0) rfl rfl rfl rfl rfl ⟨by show (_ : Nat) ≤ _; simp only [rmG8, rmX8_isSign]; omega, by show (_ : Nat) ≤ _; simp only [rmG8, rmX8_isSign]; omega⟩ rfl rfl (Nat.le_of_ble_eq_true rfl) ⟨Nat.zero_le _, Nat.zero_le _⟩ dX8_sum_16 (fun H locs hG => ?_)
    refine lv_if_eq (tgt := 44) hx hb dX8_sum_19 (by decide) (fun hc12 => ?_) (fun hc12 => ?_)
    · replace hf := ite_t hf hc12
      have hq9 := Option.some.inj hf
      subst hq9
      subst hQ
      exact r_vret X hG dX8_sum_44
    · replace hf := ite_f hf hc12
      exact hK6 _ hf _ _ _ hG (lv_sub hl [0] rfl)
set_option maxHeartbeats 4000000 in
set_option maxRecDepth 100000 in
theorem cb_X8_term (g : GT) (l : Launch) (o : Nat) (ad : Nat → Nat) (n d : Nat) (rec : Nat → MS → Option MS) (hrec : ∀ (w : Nat) (s q : MS), rec w s = some q → GRP8 g l o ad d w s q) (s0 q : MS) (hf : b_X8_term n rec s0 = some q) : CV g l yX8_term cX8_term 1 none (rmG8 (d + 1)) [.ref o] [wX8 g o ad s0] [wX8 g o ad q] := by
  refine CV_intro RX8 rfl (by decide +kernel) (Nat.le_of_ble_eq_true rfl) ?_
  intro p e s m args below meth c A ls Q hQ X hl hG
  have hl : lv_has ls 1 [(0, .ref o)] := hl
  have hx := X.1
  have hb := X.2.1
  have hown := X.2.2.2.1
  unfold b_X8_term at hf
  refine lv_aload_n hx hb dX8_term_0 rfl (lv_at hl 0 rfl) ?_
  obtain ⟨q1, hq1, hf⟩ := cl_inv hf
  refine r_callVv (bc := [wX8 g o ad s0]) (br := []) (bs' := [wX8 g o ad q1]) (As := []) (rest := []) X hG hl.1 ((hrec 5 s0 q1 hq1).2.2.2.2.2 rfl) (List.Perm.refl _) (List.Perm.refl _) lk_X8_one lv_X8_one ml_8_228 (j := 0) (k := 0) rfl rfl rfl rfl rfl ⟨by show (_ : Nat) ≤ _; simp only [rmG8]; omega, by show (_ : Nat) ≤ _; simp only [rmG8]; omega⟩ rfl rfl (Nat.le_of_ble_eq_true rfl) ⟨Nat.zero_le _, Nat.zero_le _⟩ dX8_term_1 (fun H locs hG => ?_)
  refine lp_go (P := fun (t2 : MS) => ∀ (H : Heap) (locs : List Loc) (ls : Array Slot), GM g A s.heap H locs [wX8 g o ad t2] → lv_has ls 1 [(0, .ref o)] → W p l e (rmG8 (d + 1)) s m args below meth c H locs 0 0 Q (F0 m 4 ls [])) hf (fun K3 hK3 t2 hf H locs ls hG hl => ?_) _ _ _ hG (lv_sub hl [0] rfl)
  refine lv_aload_n hx hb dX8_term_4 rfl (lv_at hl 0 rfl) ?_
  refine lv_bipush (v := 42) hx hb dX8_term_5 (by decide) ?_
  obtain ⟨q4, hq4, hf⟩ := cl_inv hf
  refine r_callVi (bc := [wX8 g o ad t2]) (br := []) (bs' := [wX8 g o ad t2]) (As := [.int 42]) (rest := []) X hG hl.1 (c_X8_isSign g l o ad n 42 t2 q4 hq4) (List.Perm.refl _) (List.Perm.refl _) lk_X8_isSign lv_X8_isSign ml_8_222 (j := 0) (k := 0) rfl rfl rfl rfl rfl ⟨by show (_ : Nat) ≤ _; simp only [rmG8, rmX8_isSign]; omega, by show (_ : Nat) ≤ _; simp only [rmG8, rmX8_isSign]; omega⟩ rfl rfl (Nat.le_of_ble_eq_true rfl) ⟨Nat.zero_le _, Nat.zero_le _⟩ dX8_term_7 (fun H locs hG => ?_)
  refine lv_if_eq (tgt := 31) hx hb dX8_term_10 (by decide) (fun hc5 => ?_) (fun hc5 => ?_)
  · replace hf := ite_t hf hc5
    have hq9 := Option.some.inj hf
    subst hq9
    subst hQ
    exact r_vret X hG dX8_term_31
  · replace hf := ite_f hf hc5
    refine lv_aload_n hx hb dX8_term_13 rfl (lv_at hl 0 rfl) ?_
    obtain ⟨q6, hq6, hf⟩ := cl_inv hf
    refine r_callVv (bc := [wX8 g o ad t2]) (br := []) (bs' := [wX8 g o ad q6]) (As := []) (rest := []) X hG hl.1 (c_X8_next g l o ad n t2 q6 hq6) (List.Perm.refl _) (List.Perm.refl _) lk_X8_next lv_X8_next ml_8_199 (j := 0) (k := 0) rfl rfl rfl rfl rfl ⟨by show (_ : Nat) ≤ _; simp only [rmG8, rmX8_next]; omega, by show (_ : Nat) ≤ _; simp only [rmG8, rmX8_next]; omega⟩ rfl rfl (Nat.le_of_ble_eq_true rfl) ⟨Nat.zero_le _, Nat.zero_le _⟩ dX8_term_14 (fun H locs hG => ?_)
    refine lv_aload_n hx hb dX8_term_17 rfl (lv_at hl 0 rfl) ?_
    obtain ⟨q7, hq7, hf⟩ := cl_inv hf
    refine r_callVv (bc := [wX8 g o ad q6]) (br := []) (bs' := [wX8 g o ad q7]) (As := []) (rest := []) X hG hl.1 ((hrec 5 q6 q7 hq7).2.2.2.2.2 rfl) (List.Perm.refl _) (List.Perm.refl _) lk_X8_one lv_X8_one ml_8_228 (j := 0) (k := 0) rfl rfl rfl rfl rfl ⟨by show (_ : Nat) ≤ _; simp only [rmG8]; omega, by show (_ : Nat) ≤ _; simp only [rmG8]; omega⟩ rfl rfl (Nat.le_of_ble_eq_true rfl) ⟨Nat.zero_le _, Nat.zero_le _⟩ dX8_term_18 (fun H locs hG => ?_)
    refine lv_aload_n hx hb dX8_term_21 rfl (lv_at hl 0 rfl) ?_
    refine lv_bipush (v := 42) hx hb dX8_term_22 (by decide) ?_
    refine lv_iconst (v := 0) hx hb dX8_term_24 (by decide) ?_
    obtain ⟨q8, hq8, hf⟩ := cl_inv hf
    refine r_callVv (bc := [wX8 g o ad q7]) (br := []) (bs' := [wX8 g o ad q8]) (As := [.int 42, .int 0]) (rest := []) X hG hl.1 (c_X8_addStep g l o ad n 42 0 q7 q8 hq8) (List.Perm.refl _) (List.Perm.refl _) lk_X8_addStep lv_X8_addStep ml_8_208 (j := 0) (k := 0) rfl rfl rfl rfl rfl ⟨by show (_ : Nat) ≤ _; simp only [rmG8, rmX8_addStep]; omega, by show (_ : Nat) ≤ _; simp only [rmG8, rmX8_addStep]; omega⟩ rfl rfl (Nat.le_of_ble_eq_true rfl) ⟨Nat.zero_le _, Nat.zero_le _⟩ dX8_term_25 (fun H locs hG => ?_)
    refine lv_goto (tgt := 4) hx hb dX8_term_28 (by decide) ?_
    exact hK3 _ hf _ _ _ hG (lv_sub hl [0] rfl)
set_option maxHeartbeats 4000000 in
set_option maxRecDepth 100000 in
theorem cb_X8_one (g : GT) (l : Launch) (o : Nat) (ad : Nat → Nat) (n d : Nat) (rec : Nat → MS → Option MS) (hrec : ∀ (w : Nat) (s q : MS), rec w s = some q → GRP8 g l o ad d w s q) (s0 q : MS) (hf : b_X8_one n rec s0 = some q) : CV g l yX8_one cX8_one 1 none (rmG8 (d + 1)) [.ref o] [wX8 g o ad s0] [wX8 g o ad q] := by
  refine CV_intro RX8 rfl (by decide +kernel) (Nat.le_of_ble_eq_true rfl) ?_
  intro p e s m args below meth c A ls Q hQ X hl hG
  have hl : lv_has ls 1 [(0, .ref o)] := hl
  have hx := X.1
  have hb := X.2.1
  have hown := X.2.2.2.1
  unfold b_X8_one at hf
  refine lv_aload_n hx hb dX8_one_0 rfl (lv_at hl 0 rfl) ?_
  refine G_8_187 X hG 0 rfl dX8_one_1 ?_
  refine lv_if_lt (tgt := 8) hx hb dX8_one_4 (by decide) (fun hc1 => ?_) (fun hc1 => ?_)
  · replace hf := ite_t hf hc1
    refine lv_aload_n hx hb dX8_one_8 rfl (lv_at hl 0 rfl) ?_
    refine G_8_171 X hG 0 rfl dX8_one_9 ?_
    refine lv_iconst (v := 2) hx hb dX8_one_12 (by decide) ?_
    refine lv_icmp_ne (tgt := 32) hx hb dX8_one_13 (by decide) (fun hc2 => ?_) (fun hc2 => ?_)
    · replace hf := ite_f hf hc2
      refine lv_aload_n hx hb dX8_one_32 rfl (lv_at hl 0 rfl) ?_
      refine G_8_171 X hG 0 rfl dX8_one_33 ?_
      refine lv_iconst (v := 1) hx hb dX8_one_36 (by decide) ?_
      refine jn_use (P := fun (t3 : Unit) => ∀ (H : Heap) (locs : List Loc) (ls : Array Slot), GM g A s.heap H locs [wX8 g o ad s0] → lv_has ls 1 [(0, .ref o)] → W p l e (rmG8 (d + 1)) s m args below meth c H locs 0 0 Q (F0 m 65 ls [])) hf (fun t3 hf H locs ls hG hl => ?_) (fun K4 hK4 hf => ?_)
      · refine lv_aload_n hx hb dX8_one_65 rfl (lv_at hl 0 rfl) ?_
        refine lv_bipush (v := 45) hx hb dX8_one_66 (by decide) ?_
        obtain ⟨q5, hq5, hf⟩ := cl_inv hf
        refine r_callVi (bc := [wX8 g o ad s0]) (br := []) (bs' := [wX8 g o ad s0]) (As := [.int 45]) (rest := []) X hG hl.1 (c_X8_isSign g l o ad n 45 s0 q5 hq5) (List.Perm.refl _) (List.Perm.refl _) lk_X8_isSign lv_X8_isSign ml_8_222 (j := 0) (k := 0) rfl rfl rfl rfl rfl ⟨by show (_ : Nat) ≤ _; simp only [rmG8, rmX8_isSign]; omega, by show (_ : Nat) ≤ _; simp only [rmG8, rmX8_isSign]; omega⟩ rfl rfl (Nat.le_of_ble_eq_true rfl) ⟨Nat.zero_le _, Nat.zero_le _⟩ dX8_one_68 (fun H locs hG => ?_)
        refine lv_if_eq (tgt := 105) hx hb dX8_one_71 (by decide) (fun hc6 => ?_) (fun hc6 => ?_)
        · replace hf := ite_t hf hc6
          refine lv_aload_n hx hb dX8_one_105 rfl (lv_at hl 0 rfl) ?_
          refine lv_bipush (v := 40) hx hb dX8_one_106 (by decide) ?_
          obtain ⟨q7, hq7, hf⟩ := cl_inv hf
          refine r_callVi (bc := [wX8 g o ad s0]) (br := []) (bs' := [wX8 g o ad s0]) (As := [.int 40]) (rest := []) X hG hl.1 (c_X8_isSign g l o ad n 40 s0 q7 hq7) (List.Perm.refl _) (List.Perm.refl _) lk_X8_isSign lv_X8_isSign ml_8_222 (j := 0) (k := 0) rfl rfl rfl rfl rfl ⟨by show (_ : Nat) ≤ _; simp only [rmG8, rmX8_isSign]; omega, by show (_ : Nat) ≤ _; simp only [rmG8, rmX8_isSign]; omega⟩ rfl rfl (Nat.le_of_ble_eq_true rfl) ⟨Nat.zero_le _, Nat.zero_le _⟩ dX8_one_108 (fun H locs hG => ?_)
          refine lv_if_eq (tgt := 157) hx hb dX8_one_111 (by decide) (fun hc8 => ?_) (fun hc8 => ?_)
          · replace hf := ite_t hf hc8
            refine lv_aload_n hx hb dX8_one_157 rfl (lv_at hl 0 rfl) ?_
            obtain ⟨q9, hq9, hf⟩ := cl_inv hf
            refine r_callVv (bc := [wX8 g o ad s0]) (br := []) (bs' := [wX8 g o ad q9]) (As := []) (rest := []) X hG hl.1 (c_X8_faulty g l o ad n s0 q9 hq9) (List.Perm.refl _) (List.Perm.refl _) lk_X8_faulty lv_X8_faulty ml_8_196 (j := 0) (k := 0) rfl rfl rfl rfl rfl ⟨by show (_ : Nat) ≤ _; simp only [rmG8, rmX8_faulty]; omega, by show (_ : Nat) ≤ _; simp only [rmG8, rmX8_faulty]; omega⟩ rfl rfl (Nat.le_of_ble_eq_true rfl) ⟨Nat.zero_le _, Nat.zero_le _⟩ dX8_one_158 (fun H locs hG => ?_)
            have hq9 := Option.some.inj hf
            subst hq9
            subst hQ
            exact r_vret X hG dX8_one_161
          · replace hf := ite_f hf hc8
            refine lv_aload_n hx hb dX8_one_114 rfl (lv_at hl 0 rfl) ?_
            obtain ⟨q10, hq10, hf⟩ := cl_inv hf
            refine r_callVi (bc := [wX8 g o ad s0]) (br := []) (bs' := [wX8 g o ad q10.2]) (As := []) (rest := []) X hG hl.1 (c_X8_opens g l o ad n s0 q10 hq10) (List.Perm.refl _) (List.Perm.refl _) lk_X8_opens lv_X8_opens ml_8_215 (j := 0) (k := 0) rfl rfl rfl rfl rfl ⟨by show (_ : Nat) ≤ _; simp only [rmG8, rmX8_opens]; omega, by show (_ : Nat) ≤ _; simp only [rmG8, rmX8_opens]; omega⟩ rfl rfl (Nat.le_of_ble_eq_true rfl) ⟨Nat.zero_le _, Nat.zero_le _⟩ dX8_one_115 (fun H locs hG => ?_)
            refine lv_if_ne (tgt := 122) hx hb dX8_one_118 (by decide) (fun hc11 => ?_) (fun hc11 => ?_)
            · replace hf := ite_f hf hc11
              refine lv_aload_n hx hb dX8_one_122 rfl (lv_at hl 0 rfl) ?_
              obtain ⟨q12, hq12, hf⟩ := cl_inv hf
              refine r_callVv (bc := [wX8 g o ad q10.2]) (br := []) (bs' := [wX8 g o ad q12]) (As := []) (rest := []) X hG hl.1 ((hrec 0 q10.2 q12 hq12).1 rfl) (List.Perm.refl _) (List.Perm.refl _) lk_X8_either lv_X8_either ml_8_231 (j := 0) (k := 0) rfl rfl rfl rfl rfl ⟨by show (_ : Nat) ≤ _; simp only [rmG8]; omega, by show (_ : Nat) ≤ _; simp only [rmG8]; omega⟩ rfl rfl (Nat.le_of_ble_eq_true rfl) ⟨Nat.zero_le _, Nat.zero_le _⟩ dX8_one_123 (fun H locs hG => ?_)
              refine lv_aload_n hx hb dX8_one_126 rfl (lv_at hl 0 rfl) ?_
              refine lv_bipush (v := 41) hx hb dX8_one_127 (by decide) ?_
              obtain ⟨q13, hq13, hf⟩ := cl_inv hf
              refine r_callVi (bc := [wX8 g o ad q12]) (br := []) (bs' := [wX8 g o ad q12]) (As := [.int 41]) (rest := []) X hG hl.1 (c_X8_isSign g l o ad n 41 q12 q13 hq13) (List.Perm.refl _) (List.Perm.refl _) lk_X8_isSign lv_X8_isSign ml_8_222 (j := 0) (k := 0) rfl rfl rfl rfl rfl ⟨by show (_ : Nat) ≤ _; simp only [rmG8, rmX8_isSign]; omega, by show (_ : Nat) ≤ _; simp only [rmG8, rmX8_isSign]; omega⟩ rfl rfl (Nat.le_of_ble_eq_true rfl) ⟨Nat.zero_le _, Nat.zero_le _⟩ dX8_one_129 (fun H locs hG => ?_)
              refine lv_if_ne (tgt := 140) hx hb dX8_one_132 (by decide) (fun hc14 => ?_) (fun hc14 => ?_)
              · replace hf := ite_f hf hc14
                refine lv_aload_n hx hb dX8_one_140 rfl (lv_at hl 0 rfl) ?_
                refine lv_dup hx hb dX8_one_141 rfl ?_
                refine G_8_193 X hG 0 rfl dX8_one_142 ?_
                refine lv_iconst (v := 1) hx hb dX8_one_145 (by decide) ?_
                refine lv_isub hx hb dX8_one_146 ?_
                refine P_8_193 X hG 0 rfl hf (fun t => [wX8 g o ad t]) (fun _ => rfl) dX8_one_147 (fun z15 H locs hf hG => ?_)
                refine lv_aload_n hx hb dX8_one_150 rfl (lv_at hl 0 rfl) ?_
                obtain ⟨q16, hq16, hf⟩ := cl_inv hf
                refine r_callVv (bc := [wX8 g o ad z15]) (br := []) (bs' := [wX8 g o ad q16]) (As := []) (rest := []) X hG hl.1 (c_X8_next g l o ad n z15 q16 hq16) (List.Perm.refl _) (List.Perm.refl _) lk_X8_next lv_X8_next ml_8_199 (j := 0) (k := 0) rfl rfl rfl rfl rfl ⟨by show (_ : Nat) ≤ _; simp only [rmG8, rmX8_next]; omega, by show (_ : Nat) ≤ _; simp only [rmG8, rmX8_next]; omega⟩ rfl rfl (Nat.le_of_ble_eq_true rfl) ⟨Nat.zero_le _, Nat.zero_le _⟩ dX8_one_151 (fun H locs hG => ?_)
                refine lv_goto (tgt := 161) hx hb dX8_one_154 (by decide) ?_
                have hq9 := Option.some.inj hf
                subst hq9
                subst hQ
                exact r_vret X hG dX8_one_161
              · replace hf := ite_t hf hc14
                refine lv_aload_n hx hb dX8_one_135 rfl (lv_at hl 0 rfl) ?_
                obtain ⟨q17, hq17, hf⟩ := cl_inv hf
                refine r_callVv (bc := [wX8 g o ad q12]) (br := []) (bs' := [wX8 g o ad q17]) (As := []) (rest := []) X hG hl.1 (c_X8_faulty g l o ad n q12 q17 hq17) (List.Perm.refl _) (List.Perm.refl _) lk_X8_faulty lv_X8_faulty ml_8_196 (j := 0) (k := 0) rfl rfl rfl rfl rfl ⟨by show (_ : Nat) ≤ _; simp only [rmG8, rmX8_faulty]; omega, by show (_ : Nat) ≤ _; simp only [rmG8, rmX8_faulty]; omega⟩ rfl rfl (Nat.le_of_ble_eq_true rfl) ⟨Nat.zero_le _, Nat.zero_le _⟩ dX8_one_136 (fun H locs hG => ?_)
                have hq9 := Option.some.inj hf
                subst hq9
                subst hQ
                exact r_vret X hG dX8_one_139
            · replace hf := ite_t hf hc11
              have hq9 := Option.some.inj hf
              subst hq9
              subst hQ
              exact r_vret X hG dX8_one_121
        · replace hf := ite_f hf hc6
          refine lv_aload_n hx hb dX8_one_74 rfl (lv_at hl 0 rfl) ?_
          obtain ⟨q18, hq18, hf⟩ := cl_inv hf
          refine r_callVi (bc := [wX8 g o ad s0]) (br := []) (bs' := [wX8 g o ad q18.2]) (As := []) (rest := []) X hG hl.1 (c_X8_opens g l o ad n s0 q18 hq18) (List.Perm.refl _) (List.Perm.refl _) lk_X8_opens lv_X8_opens ml_8_215 (j := 0) (k := 0) rfl rfl rfl rfl rfl ⟨by show (_ : Nat) ≤ _; simp only [rmG8, rmX8_opens]; omega, by show (_ : Nat) ≤ _; simp only [rmG8, rmX8_opens]; omega⟩ rfl rfl (Nat.le_of_ble_eq_true rfl) ⟨Nat.zero_le _, Nat.zero_le _⟩ dX8_one_75 (fun H locs hG => ?_)
          refine lv_if_ne (tgt := 82) hx hb dX8_one_78 (by decide) (fun hc19 => ?_) (fun hc19 => ?_)
          · replace hf := ite_f hf hc19
            refine lv_aload_n hx hb dX8_one_82 rfl (lv_at hl 0 rfl) ?_
            obtain ⟨q20, hq20, hf⟩ := cl_inv hf
            refine r_callVv (bc := [wX8 g o ad q18.2]) (br := []) (bs' := [wX8 g o ad q20]) (As := []) (rest := []) X hG hl.1 ((hrec 5 q18.2 q20 hq20).2.2.2.2.2 rfl) (List.Perm.refl _) (List.Perm.refl _) lk_X8_one lv_X8_one ml_8_228 (j := 0) (k := 0) rfl rfl rfl rfl rfl ⟨by show (_ : Nat) ≤ _; simp only [rmG8]; omega, by show (_ : Nat) ≤ _; simp only [rmG8]; omega⟩ rfl rfl (Nat.le_of_ble_eq_true rfl) ⟨Nat.zero_le _, Nat.zero_le _⟩ dX8_one_83 (fun H locs hG => ?_)
            refine lv_aload_n hx hb dX8_one_86 rfl (lv_at hl 0 rfl) ?_
            refine lv_dup hx hb dX8_one_87 rfl ?_
            refine G_8_193 X hG 0 rfl dX8_one_88 ?_
            refine lv_iconst (v := 1) hx hb dX8_one_91 (by decide) ?_
            refine lv_isub hx hb dX8_one_92 ?_
            refine P_8_193 X hG 0 rfl hf (fun t => [wX8 g o ad t]) (fun _ => rfl) dX8_one_93 (fun z21 H locs hf hG => ?_)
            refine lv_aload_n hx hb dX8_one_96 rfl (lv_at hl 0 rfl) ?_
            refine lv_iconst (v := 4) hx hb dX8_one_97 (by decide) ?_
            refine lv_iconst (v := 0) hx hb dX8_one_98 (by decide) ?_
            obtain ⟨q22, hq22, hf⟩ := cl_inv hf
            refine r_callVv (bc := [wX8 g o ad z21]) (br := []) (bs' := [wX8 g o ad q22]) (As := [.int 4, .int 0]) (rest := []) X hG hl.1 (c_X8_addStep g l o ad n 4 0 z21 q22 hq22) (List.Perm.refl _) (List.Perm.refl _) lk_X8_addStep lv_X8_addStep ml_8_208 (j := 0) (k := 0) rfl rfl rfl rfl rfl ⟨by show (_ : Nat) ≤ _; simp only [rmG8, rmX8_addStep]; omega, by show (_ : Nat) ≤ _; simp only [rmG8, rmX8_addStep]; omega⟩ rfl rfl (Nat.le_of_ble_eq_true rfl) ⟨Nat.zero_le _, Nat.zero_le _⟩ dX8_one_99 (fun H locs hG => ?_)
            refine lv_goto (tgt := 161) hx hb dX8_one_102 (by decide) ?_
            have hq9 := Option.some.inj hf
            subst hq9
            subst hQ
            exact r_vret X hG dX8_one_161
          · replace hf := ite_t hf hc19
            have hq9 := Option.some.inj hf
            subst hq9
            subst hQ
            exact r_vret X hG dX8_one_81
      refine lv_icmp_ne (tgt := 65) hx hb dX8_one_37 (by decide) (fun hc23 => ?_) (fun hc23 => ?_)
      · replace hf := ite_f hf hc23
        exact hK4 _ hf _ _ _ hG (lv_sub hl [0] rfl)
      · replace hf := ite_t hf hc23
        refine lv_aload_n hx hb dX8_one_40 rfl (lv_at hl 0 rfl) ?_
        refine G_8_181 X hG 0 rfl dX8_one_41 ?_
        refine lv_bipush (v := 6) hx hb dX8_one_44 (by decide) ?_
        refine lv_icmp_ge (tgt := 65) hx hb dX8_one_46 (by decide) (fun hc24 => ?_) (fun hc24 => ?_)
        · replace hf := ite_t hf hc24
          exact hK4 _ hf _ _ _ hG (lv_sub hl [0] rfl)
        · replace hf := ite_f hf hc24
          refine lv_aload_n hx hb dX8_one_49 rfl (lv_at hl 0 rfl) ?_
          refine lv_iconst (v := 2) hx hb dX8_one_50 (by decide) ?_
          refine lv_aload_n hx hb dX8_one_51 rfl (lv_at hl 0 rfl) ?_
          refine G_8_181 X hG 0 rfl dX8_one_52 ?_
          obtain ⟨q25, hq25, hf⟩ := cl_inv hf
          refine r_callVv (bc := [wX8 g o ad s0]) (br := []) (bs' := [wX8 g o ad q25]) (As := [.int 2, .int (s0.1 32)]) (rest := []) X hG hl.1 (c_X8_addStep g l o ad n 2 (s0.1 32) s0 q25 hq25) (List.Perm.refl _) (List.Perm.refl _) lk_X8_addStep lv_X8_addStep ml_8_208 (j := 0) (k := 0) rfl rfl rfl rfl rfl ⟨by show (_ : Nat) ≤ _; simp only [rmG8, rmX8_addStep]; omega, by show (_ : Nat) ≤ _; simp only [rmG8, rmX8_addStep]; omega⟩ rfl rfl (Nat.le_of_ble_eq_true rfl) ⟨Nat.zero_le _, Nat.zero_le _⟩ dX8_one_55 (fun H locs hG => ?_)
          refine lv_aload_n hx hb dX8_one_58 rfl (lv_at hl 0 rfl) ?_
          obtain ⟨q26, hq26, hf⟩ := cl_inv hf
          refine r_callVv (bc := [wX8 g o ad q25]) (br := []) (bs' := [wX8 g o ad q26]) (As := []) (rest := []) X hG hl.1 (c_X8_next g l o ad n q25 q26 hq26) (List.Perm.refl _) (List.Perm.refl _) lk_X8_next lv_X8_next ml_8_199 (j := 0) (k := 0) rfl rfl rfl rfl rfl ⟨by show (_ : Nat) ≤ _; simp only [rmG8, rmX8_next]; omega, by show (_ : Nat) ≤ _; simp only [rmG8, rmX8_next]; omega⟩ rfl rfl (Nat.le_of_ble_eq_true rfl) ⟨Nat.zero_le _, Nat.zero_le _⟩ dX8_one_59 (fun H locs hG => ?_)
          refine lv_goto (tgt := 161) hx hb dX8_one_62 (by decide) ?_
          have hq9 := Option.some.inj hf
          subst hq9
          subst hQ
          exact r_vret X hG dX8_one_161
    · replace hf := ite_t hf hc2
      refine lv_aload_n hx hb dX8_one_16 rfl (lv_at hl 0 rfl) ?_
      refine lv_iconst (v := 1) hx hb dX8_one_17 (by decide) ?_
      refine lv_aload_n hx hb dX8_one_18 rfl (lv_at hl 0 rfl) ?_
      refine G_8_181 X hG 0 rfl dX8_one_19 ?_
      obtain ⟨q27, hq27, hf⟩ := cl_inv hf
      refine r_callVv (bc := [wX8 g o ad s0]) (br := []) (bs' := [wX8 g o ad q27]) (As := [.int 1, .int (s0.1 32)]) (rest := []) X hG hl.1 (c_X8_addStep g l o ad n 1 (s0.1 32) s0 q27 hq27) (List.Perm.refl _) (List.Perm.refl _) lk_X8_addStep lv_X8_addStep ml_8_208 (j := 0) (k := 0) rfl rfl rfl rfl rfl ⟨by show (_ : Nat) ≤ _; simp only [rmG8, rmX8_addStep]; omega, by show (_ : Nat) ≤ _; simp only [rmG8, rmX8_addStep]; omega⟩ rfl rfl (Nat.le_of_ble_eq_true rfl) ⟨Nat.zero_le _, Nat.zero_le _⟩ dX8_one_22 (fun H locs hG => ?_)
      refine lv_aload_n hx hb dX8_one_25 rfl (lv_at hl 0 rfl) ?_
      obtain ⟨q28, hq28, hf⟩ := cl_inv hf
      refine r_callVv (bc := [wX8 g o ad q27]) (br := []) (bs' := [wX8 g o ad q28]) (As := []) (rest := []) X hG hl.1 (c_X8_next g l o ad n q27 q28 hq28) (List.Perm.refl _) (List.Perm.refl _) lk_X8_next lv_X8_next ml_8_199 (j := 0) (k := 0) rfl rfl rfl rfl rfl ⟨by show (_ : Nat) ≤ _; simp only [rmG8, rmX8_next]; omega, by show (_ : Nat) ≤ _; simp only [rmG8, rmX8_next]; omega⟩ rfl rfl (Nat.le_of_ble_eq_true rfl) ⟨Nat.zero_le _, Nat.zero_le _⟩ dX8_one_26 (fun H locs hG => ?_)
      refine lv_goto (tgt := 161) hx hb dX8_one_29 (by decide) ?_
      have hq9 := Option.some.inj hf
      subst hq9
      subst hQ
      exact r_vret X hG dX8_one_161
  · replace hf := ite_f hf hc1
    have hq9 := Option.some.inj hf
    subst hq9
    subst hQ
    exact r_vret X hG dX8_one_7
theorem c_grp8 (g : GT) (l : Launch) (o : Nat) (ad : Nat → Nat) (n : Nat) : ∀ (d w : Nat) (s q : MS), f_grp8 n d w s = some q → GRP8 g l o ad d w s q := by
  intro d
  induction d with
  | zero => intro w s q h; cases h
  | succ d ih =>
    intro w s q h
    refine ⟨fun hw => ?_, fun hw => ?_, fun hw => ?_, fun hw => ?_, fun hw => ?_, fun hw => ?_⟩
    · subst hw; exact cb_X8_either g l o ad n d (f_grp8 n d) ih s q h
    · subst hw; exact cb_X8_all g l o ad n d (f_grp8 n d) ih s q h
    · subst hw; exact cb_X8_denied g l o ad n d (f_grp8 n d) ih s q h
    · subst hw; exact cb_X8_sum g l o ad n d (f_grp8 n d) ih s q h
    · subst hw; exact cb_X8_term g l o ad n d (f_grp8 n d) ih s q h
    · subst hw; exact cb_X8_one g l o ad n d (f_grp8 n d) ih s q h
theorem c_X8_either (g : GT) (l : Launch) (o : Nat) (ad : Nat → Nat) (n : Nat) (s0 q : MS) (hf : f_X8_either n s0 = some q) : CV g l yX8_either cX8_either 1 none (rmG8 64) [.ref o] [wX8 g o ad s0] [wX8 g o ad q] := (c_grp8 g l o ad n 64 0 s0 q hf).1 rfl
theorem c_X8_all (g : GT) (l : Launch) (o : Nat) (ad : Nat → Nat) (n : Nat) (s0 q : MS) (hf : f_X8_all n s0 = some q) : CV g l yX8_all cX8_all 1 none (rmG8 64) [.ref o] [wX8 g o ad s0] [wX8 g o ad q] := (c_grp8 g l o ad n 64 1 s0 q hf).2.1 rfl
theorem c_X8_denied (g : GT) (l : Launch) (o : Nat) (ad : Nat → Nat) (n : Nat) (s0 q : MS) (hf : f_X8_denied n s0 = some q) : CV g l yX8_denied cX8_denied 2 none (rmG8 64) [.ref o] [wX8 g o ad s0] [wX8 g o ad q] := (c_grp8 g l o ad n 64 2 s0 q hf).2.2.1 rfl
theorem c_X8_sum (g : GT) (l : Launch) (o : Nat) (ad : Nat → Nat) (n : Nat) (s0 q : MS) (hf : f_X8_sum n s0 = some q) : CV g l yX8_sum cX8_sum 2 none (rmG8 64) [.ref o] [wX8 g o ad s0] [wX8 g o ad q] := (c_grp8 g l o ad n 64 3 s0 q hf).2.2.2.1 rfl
theorem c_X8_term (g : GT) (l : Launch) (o : Nat) (ad : Nat → Nat) (n : Nat) (s0 q : MS) (hf : f_X8_term n s0 = some q) : CV g l yX8_term cX8_term 1 none (rmG8 64) [.ref o] [wX8 g o ad s0] [wX8 g o ad q] := (c_grp8 g l o ad n 64 4 s0 q hf).2.2.2.2.1 rfl
theorem c_X8_one (g : GT) (l : Launch) (o : Nat) (ad : Nat → Nat) (n : Nat) (s0 q : MS) (hf : f_X8_one n s0 = some q) : CV g l yX8_one cX8_one 1 none (rmG8 64) [.ref o] [wX8 g o ad s0] [wX8 g o ad q] := (c_grp8 g l o ad n 64 5 s0 q hf).2.2.2.2.2 rfl
def rmX8_rule : Room := { frames := 69, cells := 0, slots := 0, locals := 3943 }
set_option maxHeartbeats 4000000 in
set_option maxRecDepth 100000 in
theorem c_X8_rule (g : GT) (l : Launch) (o : Nat) (ad : Nat → Nat) (n : Nat) (a1 : Int32) (s0 : MS) (q : MS) (hf : f_X8_rule n a1 s0 = some q) : CV g l yX8_rule cX8_rule 2 none rmX8_rule [.ref o, .int a1] [wX8 g o ad s0] [wX8 g o ad q] := by
  refine CV_intro RX8 rfl (by decide +kernel) (Nat.le_of_ble_eq_true rfl) ?_
  intro p e s m args below meth c A ls Q hQ X hl hG
  have hl : lv_has ls 2 [(0, .ref o), (1, .int a1)] := hl
  have hx := X.1
  have hb := X.2.1
  have hown := X.2.2.2.1
  unfold f_X8_rule at hf
  refine lv_aload_n hx hb dX8_rule_0 rfl (lv_at hl 0 rfl) ?_
  refine lv_bipush (v := 10) hx hb dX8_rule_1 (by decide) ?_
  refine lv_iload_n hx hb dX8_rule_3 rfl (lv_at hl 1 rfl) ?_
  refine lv_iadd hx hb dX8_rule_4 ?_
  obtain ⟨q1, hq1, hf⟩ := cl_inv hf
  refine r_callVi (bc := [wX8 g o ad s0]) (br := []) (bs' := [wX8 g o ad s0]) (As := [.int (10 + a1)]) (rest := []) X hG hl.1 (c_X8_isKey g l o ad n (10 + a1) s0 q1 hq1) (List.Perm.refl _) (List.Perm.refl _) lk_X8_isKey lv_X8_isKey ml_8_205 (j := 0) (k := 0) rfl rfl rfl rfl rfl ⟨Nat.le_of_ble_eq_true rfl, Nat.le_of_ble_eq_true rfl⟩ rfl rfl (Nat.le_of_ble_eq_true rfl) ⟨Nat.zero_le _, Nat.zero_le _⟩ dX8_rule_5 (fun H locs hG => ?_)
  refine lv_if_ne (tgt := 16) hx hb dX8_rule_8 (by decide) (fun hc2 => ?_) (fun hc2 => ?_)
  · replace hf := ite_f hf hc2
    refine lv_aload_n hx hb dX8_rule_16 rfl (lv_at hl 0 rfl) ?_
    obtain ⟨q3, hq3, hf⟩ := cl_inv hf
    refine r_callVv (bc := [wX8 g o ad s0]) (br := []) (bs' := [wX8 g o ad q3]) (As := []) (rest := []) X hG hl.1 (c_X8_next g l o ad n s0 q3 hq3) (List.Perm.refl _) (List.Perm.refl _) lk_X8_next lv_X8_next ml_8_199 (j := 0) (k := 0) rfl rfl rfl rfl rfl ⟨Nat.le_of_ble_eq_true rfl, Nat.le_of_ble_eq_true rfl⟩ rfl rfl (Nat.le_of_ble_eq_true rfl) ⟨Nat.zero_le _, Nat.zero_le _⟩ dX8_rule_17 (fun H locs hG => ?_)
    refine lv_aload_n hx hb dX8_rule_20 rfl (lv_at hl 0 rfl) ?_
    obtain ⟨q4, hq4, hf⟩ := cl_inv hf
    refine r_callVv (bc := [wX8 g o ad q3]) (br := []) (bs' := [wX8 g o ad q4]) (As := []) (rest := []) X hG hl.1 (c_X8_either g l o ad n q3 q4 hq4) (List.Perm.refl _) (List.Perm.refl _) lk_X8_either lv_X8_either ml_8_231 (j := 0) (k := 0) rfl rfl rfl rfl rfl ⟨Nat.le_of_ble_eq_true rfl, Nat.le_of_ble_eq_true rfl⟩ rfl rfl (Nat.le_of_ble_eq_true rfl) ⟨Nat.zero_le _, Nat.zero_le _⟩ dX8_rule_21 (fun H locs hG => ?_)
    refine lv_aload_n hx hb dX8_rule_24 rfl (lv_at hl 0 rfl) ?_
    refine lv_bipush (v := 59) hx hb dX8_rule_25 (by decide) ?_
    obtain ⟨q5, hq5, hf⟩ := cl_inv hf
    refine r_callVi (bc := [wX8 g o ad q4]) (br := []) (bs' := [wX8 g o ad q4]) (As := [.int 59]) (rest := []) X hG hl.1 (c_X8_isSign g l o ad n 59 q4 q5 hq5) (List.Perm.refl _) (List.Perm.refl _) lk_X8_isSign lv_X8_isSign ml_8_222 (j := 0) (k := 0) rfl rfl rfl rfl rfl ⟨Nat.le_of_ble_eq_true rfl, Nat.le_of_ble_eq_true rfl⟩ rfl rfl (Nat.le_of_ble_eq_true rfl) ⟨Nat.zero_le _, Nat.zero_le _⟩ dX8_rule_27 (fun H locs hG => ?_)
    refine lv_if_ne (tgt := 38) hx hb dX8_rule_30 (by decide) (fun hc6 => ?_) (fun hc6 => ?_)
    · replace hf := ite_f hf hc6
      refine lv_aload_n hx hb dX8_rule_38 rfl (lv_at hl 0 rfl) ?_
      obtain ⟨q7, hq7, hf⟩ := cl_inv hf
      refine r_callVv (bc := [wX8 g o ad q4]) (br := []) (bs' := [wX8 g o ad q7]) (As := []) (rest := []) X hG hl.1 (c_X8_next g l o ad n q4 q7 hq7) (List.Perm.refl _) (List.Perm.refl _) lk_X8_next lv_X8_next ml_8_199 (j := 0) (k := 0) rfl rfl rfl rfl rfl ⟨Nat.le_of_ble_eq_true rfl, Nat.le_of_ble_eq_true rfl⟩ rfl rfl (Nat.le_of_ble_eq_true rfl) ⟨Nat.zero_le _, Nat.zero_le _⟩ dX8_rule_39 (fun H locs hG => ?_)
      refine lv_aload_n hx hb dX8_rule_42 rfl (lv_at hl 0 rfl) ?_
      refine G_8_66 X hG 0 rfl dX8_rule_43 ?_
      refine lv_bipush (v := 18) hx hb dX8_rule_46 (by decide) ?_
      refine lv_iload_n hx hb dX8_rule_48 rfl (lv_at hl 1 rfl) ?_
      refine lv_iadd hx hb dX8_rule_49 ?_
      refine lv_aload_n hx hb dX8_rule_50 rfl (lv_at hl 0 rfl) ?_
      refine G_8_190 X hG 0 rfl dX8_rule_51 ?_
      refine r_iast X hG 0 15 rfl rfl hf (fun t => [wX8 g o ad t]) rfl dX8_rule_54 (fun z8 H locs hf hG => ?_)
      have hq9 := Option.some.inj hf
      subst hq9
      subst hQ
      exact r_vret X hG dX8_rule_55
    · replace hf := ite_t hf hc6
      refine lv_aload_n hx hb dX8_rule_33 rfl (lv_at hl 0 rfl) ?_
      obtain ⟨q9, hq9, hf⟩ := cl_inv hf
      refine r_callVv (bc := [wX8 g o ad q4]) (br := []) (bs' := [wX8 g o ad q9]) (As := []) (rest := []) X hG hl.1 (c_X8_faulty g l o ad n q4 q9 hq9) (List.Perm.refl _) (List.Perm.refl _) lk_X8_faulty lv_X8_faulty ml_8_196 (j := 0) (k := 0) rfl rfl rfl rfl rfl ⟨Nat.le_of_ble_eq_true rfl, Nat.le_of_ble_eq_true rfl⟩ rfl rfl (Nat.le_of_ble_eq_true rfl) ⟨Nat.zero_le _, Nat.zero_le _⟩ dX8_rule_34 (fun H locs hG => ?_)
      have hq9 := Option.some.inj hf
      subst hq9
      subst hQ
      exact r_vret X hG dX8_rule_37
  · replace hf := ite_t hf hc2
    refine lv_aload_n hx hb dX8_rule_11 rfl (lv_at hl 0 rfl) ?_
    obtain ⟨q10, hq10, hf⟩ := cl_inv hf
    refine r_callVv (bc := [wX8 g o ad s0]) (br := []) (bs' := [wX8 g o ad q10]) (As := []) (rest := []) X hG hl.1 (c_X8_faulty g l o ad n s0 q10 hq10) (List.Perm.refl _) (List.Perm.refl _) lk_X8_faulty lv_X8_faulty ml_8_196 (j := 0) (k := 0) rfl rfl rfl rfl rfl ⟨Nat.le_of_ble_eq_true rfl, Nat.le_of_ble_eq_true rfl⟩ rfl rfl (Nat.le_of_ble_eq_true rfl) ⟨Nat.zero_le _, Nat.zero_le _⟩ dX8_rule_12 (fun H locs hG => ?_)
    have hq9 := Option.some.inj hf
    subst hq9
    subst hQ
    exact r_vret X hG dX8_rule_15
def rmX8_text : Room := { frames := 70, cells := 0, slots := 0, locals := 3964 }
set_option maxHeartbeats 4000000 in
set_option maxRecDepth 100000 in
theorem c_X8_text (g : GT) (l : Launch) (o : Nat) (ad : Nat → Nat) (n : Nat) (s0 : MS) (q : Int32 × MS) (hf : f_X8_text n s0 = some q) : CI g l yX8_text cX8_text 2 (some .int) rmX8_text [.ref o] [wX8 g o ad s0] q.1 [wX8 g o ad q.2] := by
  refine CI_intro RX8 rfl (by decide +kernel) (Nat.le_of_ble_eq_true rfl) ?_
  intro p e s m args below meth c A ls Q hQ X hl hG
  have hl : lv_has ls 2 [(0, .ref o)] := hl
  have hx := X.1
  have hb := X.2.1
  have hown := X.2.2.2.1
  unfold f_X8_text at hf
  refine lv_aload_n hx hb dX8_text_0 rfl (lv_at hl 0 rfl) ?_
  refine G_8_57 X hG 0 rfl dX8_text_1 ?_
  refine lv_bipush (v := 6) hx hb dX8_text_4 (by decide) ?_
  refine lv_icmp_ne (tgt := 12) hx hb dX8_text_6 (by decide) (fun hc1 => ?_) (fun hc1 => ?_)
  · replace hf := ite_f hf hc1
    refine lv_aload_n hx hb dX8_text_12 rfl (lv_at hl 0 rfl) ?_
    refine lv_iconst (v := 0) hx hb dX8_text_13 (by decide) ?_
    refine P_8_168 X hG 0 rfl hf (fun t => [wX8 g o ad t]) (fun _ => rfl) dX8_text_14 (fun z2 H locs hf hG => ?_)
    refine lv_aload_n hx hb dX8_text_17 rfl (lv_at hl 0 rfl) ?_
    refine lv_iconst (v := (-1)) hx hb dX8_text_18 (by decide) ?_
    refine P_8_187 X hG 0 rfl hf (fun t => [wX8 g o ad t]) (fun _ => rfl) dX8_text_19 (fun z3 H locs hf hG => ?_)
    refine lv_aload_n hx hb dX8_text_22 rfl (lv_at hl 0 rfl) ?_
    refine lv_iconst (v := 0) hx hb dX8_text_23 (by decide) ?_
    refine P_8_193 X hG 0 rfl hf (fun t => [wX8 g o ad t]) (fun _ => rfl) dX8_text_24 (fun z4 H locs hf hG => ?_)
    refine lv_aload_n hx hb dX8_text_27 rfl (lv_at hl 0 rfl) ?_
    refine lv_iconst (v := 0) hx hb dX8_text_28 (by decide) ?_
    refine P_8_190 X hG 0 rfl hf (fun t => [wX8 g o ad t]) (fun _ => rfl) dX8_text_29 (fun z5 H locs hf hG => ?_)
    refine lv_aload_n hx hb dX8_text_32 rfl (lv_at hl 0 rfl) ?_
    obtain ⟨q6, hq6, hf⟩ := cl_inv hf
    refine r_callVv (bc := [wX8 g o ad z5]) (br := []) (bs' := [wX8 g o ad q6]) (As := []) (rest := []) X hG hl.1 (c_X8_next g l o ad n z5 q6 hq6) (List.Perm.refl _) (List.Perm.refl _) lk_X8_next lv_X8_next ml_8_199 (j := 0) (k := 0) rfl rfl rfl rfl rfl ⟨Nat.le_of_ble_eq_true rfl, Nat.le_of_ble_eq_true rfl⟩ rfl rfl (Nat.le_of_ble_eq_true rfl) ⟨Nat.zero_le _, Nat.zero_le _⟩ dX8_text_33 (fun H locs hG => ?_)
    refine lv_iconst (v := 0) hx hb dX8_text_36 (by decide) ?_
    refine lv_istore_n (lv' := [(1, .int 0), (0, .ref o)]) hx hb dX8_text_37 rfl hl (by decide) rfl (fun ls hl => ?_)
    refine lp_go (P := fun (t7 : Int32 × MS) => ∀ (H : Heap) (locs : List Loc) (ls : Array Slot), GM g A s.heap H locs [wX8 g o ad t7.2] → lv_has ls 2 [(0, .ref o), (1, .int t7.1)] → W p l e rmX8_text s m args below meth c H locs 0 0 Q (F0 m 38 ls [])) hf (fun K8 hK8 t7 hf H locs ls hG hl => ?_) _ _ _ hG (lv_sub hl [1, 0] rfl)
    refine lv_iload_n hx hb dX8_text_38 rfl (lv_at hl 1 rfl) ?_
    refine lv_iconst (v := 2) hx hb dX8_text_39 (by decide) ?_
    refine jn_use (P := fun (t9 : Unit) => ∀ (H : Heap) (locs : List Loc) (ls : Array Slot), GM g A s.heap H locs [wX8 g o ad t7.2] → lv_has ls 2 [(0, .ref o)] → W p l e rmX8_text s m args below meth c H locs 0 0 Q (F0 m 61 ls [])) hf (fun t9 hf H locs ls hG hl => ?_) (fun K10 hK10 hf => ?_)
    · refine lv_aload_n hx hb dX8_text_61 rfl (lv_at hl 0 rfl) ?_
      refine G_8_187 X hG 0 rfl dX8_text_62 ?_
      refine jn_use (P := fun (t11 : MS) => ∀ (H : Heap) (locs : List Loc) (ls : Array Slot), GM g A s.heap H locs [wX8 g o ad t11] → lv_has ls 2 [(0, .ref o)] → W p l e rmX8_text s m args below meth c H locs 0 0 Q (F0 m 80 ls [])) hf (fun t11 hf H locs ls hG hl => ?_) (fun K12 hK12 hf => ?_)
      · refine lv_aload_n hx hb dX8_text_80 rfl (lv_at hl 0 rfl) ?_
        refine lv_iconst (v := 0) hx hb dX8_text_81 (by decide) ?_
        refine P_8_162 X hG 0 rfl hf (fun t => [wX8 g o ad t]) (fun _ => rfl) dX8_text_82 (fun z13 H locs hf hG => ?_)
        refine lv_aload_n hx hb dX8_text_85 rfl (lv_at hl 0 rfl) ?_
        refine G_8_187 X hG 0 rfl dX8_text_86 ?_
        refine lv_if_lt (tgt := 100) hx hb dX8_text_89 (by decide) (fun hc14 => ?_) (fun hc14 => ?_)
        · replace hf := ite_t hf hc14
          refine lv_iconst (v := 0) hx hb dX8_text_100 (by decide) ?_
          refine lv_istore_n (lv' := [(1, .int 0), (0, .ref o)]) hx hb dX8_text_101 rfl hl (by decide) rfl (fun ls hl => ?_)
          refine lp_go (P := fun (t15 : Int32 × MS) => ∀ (H : Heap) (locs : List Loc) (ls : Array Slot), GM g A s.heap H locs [wX8 g o ad t15.2] → lv_has ls 2 [(0, .ref o), (1, .int t15.1)] → W p l e rmX8_text s m args below meth c H locs 0 0 Q (F0 m 102 ls [])) hf (fun K16 hK16 t15 hf H locs ls hG hl => ?_) _ _ _ hG (lv_sub hl [1, 0] rfl)
          refine lv_iload_n hx hb dX8_text_102 rfl (lv_at hl 1 rfl) ?_
          refine lv_aload_n hx hb dX8_text_103 rfl (lv_at hl 0 rfl) ?_
          refine G_8_190 X hG 0 rfl dX8_text_104 ?_
          refine lv_icmp_ge (tgt := 166) hx hb dX8_text_107 (by decide) (fun hc17 => ?_) (fun hc17 => ?_)
          · replace hf := ite_t hf hc17
            refine lv_iconst (v := 0) hx hb dX8_text_166 (by decide) ?_
            refine lv_istore_n (lv' := [(1, .int 0), (0, .ref o)]) hx hb dX8_text_167 rfl hl (by decide) rfl (fun ls hl => ?_)
            refine lp_go (P := fun (t18 : Int32 × MS) => ∀ (H : Heap) (locs : List Loc) (ls : Array Slot), GM g A s.heap H locs [wX8 g o ad t18.2] → lv_has ls 2 [(0, .ref o), (1, .int t18.1)] → W p l e rmX8_text s m args below meth c H locs 0 0 Q (F0 m 168 ls [])) hf (fun K19 hK19 t18 hf H locs ls hG hl => ?_) _ _ _ hG (lv_sub hl [1, 0] rfl)
            refine lv_iload_n hx hb dX8_text_168 rfl (lv_at hl 1 rfl) ?_
            refine lv_iconst (v := 3) hx hb dX8_text_169 (by decide) ?_
            refine lv_icmp_ge (tgt := 201) hx hb dX8_text_170 (by decide) (fun hc20 => ?_) (fun hc20 => ?_)
            · replace hf := ite_t hf hc20
              refine lv_aload_n hx hb dX8_text_201 rfl (lv_at hl 0 rfl) ?_
              refine lv_dup hx hb dX8_text_202 rfl ?_
              refine G_8_57 X hG 0 rfl dX8_text_203 ?_
              refine lv_iconst (v := 1) hx hb dX8_text_206 (by decide) ?_
              refine lv_iadd hx hb dX8_text_207 ?_
              refine P_8_57 X hG 0 rfl hf (fun t => [wX8 g o ad t]) (fun _ => rfl) dX8_text_208 (fun z21 H locs hf hG => ?_)
              refine lv_aload_n hx hb dX8_text_211 rfl (lv_at hl 0 rfl) ?_
              refine G_8_57 X hG 0 rfl dX8_text_212 ?_
              refine lv_iconst (v := 1) hx hb dX8_text_215 (by decide) ?_
              refine lv_isub hx hb dX8_text_216 ?_
              have hq9 := Option.some.inj hf
              subst hq9
              subst hQ
              exact r_iret X hG dX8_text_217
            · replace hf := ite_f hf hc20
              refine lv_aload_n hx hb dX8_text_173 rfl (lv_at hl 0 rfl) ?_
              refine G_8_66 X hG 0 rfl dX8_text_174 ?_
              refine lv_iconst (v := 3) hx hb dX8_text_177 (by decide) ?_
              refine lv_aload_n hx hb dX8_text_178 rfl (lv_at hl 0 rfl) ?_
              refine G_8_57 X hG 0 rfl dX8_text_179 ?_
              refine lv_imul hx hb dX8_text_182 ?_
              refine lv_iload_n hx hb dX8_text_183 rfl (lv_at hl 1 rfl) ?_
              refine lv_iadd hx hb dX8_text_184 ?_
              refine lv_aload_n hx hb dX8_text_185 rfl (lv_at hl 0 rfl) ?_
              refine G_8_66 X hG 0 rfl dX8_text_186 ?_
              refine lv_bipush (v := 18) hx hb dX8_text_189 (by decide) ?_
              refine lv_iload_n hx hb dX8_text_191 rfl (lv_at hl 1 rfl) ?_
              refine lv_iadd hx hb dX8_text_192 ?_
              refine r_iald X hG 0 15 rfl rfl hf dX8_text_193 (fun x22 hf => ?_)
              refine r_iast X hG 0 15 rfl rfl hf (fun t => [wX8 g o ad t]) rfl dX8_text_194 (fun z23 H locs hf hG => ?_)
              refine lv_iinc (v := (t18.1 + 1)) (lv' := [(1, .int (t18.1 + 1)), (0, .ref o)]) hx hb dX8_text_195 hl (k := 1) rfl rfl (by decide) rfl (fun ls hl => ?_)
              refine lv_goto (tgt := 168) hx hb dX8_text_198 (by decide) ?_
              exact hK19 _ hf _ _ _ hG (lv_sub hl [1, 0] rfl)
          · replace hf := ite_f hf hc17
            refine lv_aload_n hx hb dX8_text_110 rfl (lv_at hl 0 rfl) ?_
            refine G_8_60 X hG 0 rfl dX8_text_111 ?_
            refine lv_sipush (v := 170) hx hb dX8_text_114 (by decide) ?_
            refine lv_aload_n hx hb dX8_text_117 rfl (lv_at hl 0 rfl) ?_
            refine G_8_57 X hG 0 rfl dX8_text_118 ?_
            refine lv_imul hx hb dX8_text_121 ?_
            refine lv_iload_n hx hb dX8_text_122 rfl (lv_at hl 1 rfl) ?_
            refine lv_iadd hx hb dX8_text_123 ?_
            refine lv_aload_n hx hb dX8_text_124 rfl (lv_at hl 0 rfl) ?_
            refine G_8_60 X hG 0 rfl dX8_text_125 ?_
            refine lv_sipush (v := 1020) hx hb dX8_text_128 (by decide) ?_
            refine lv_iload_n hx hb dX8_text_131 rfl (lv_at hl 1 rfl) ?_
            refine lv_iadd hx hb dX8_text_132 ?_
            refine r_iald X hG 0 13 rfl rfl hf dX8_text_133 (fun x24 hf => ?_)
            refine r_iast X hG 0 13 rfl rfl hf (fun t => [wX8 g o ad t]) rfl dX8_text_134 (fun z25 H locs hf hG => ?_)
            refine lv_aload_n hx hb dX8_text_135 rfl (lv_at hl 0 rfl) ?_
            refine G_8_63 X hG 0 rfl dX8_text_136 ?_
            refine lv_sipush (v := 170) hx hb dX8_text_139 (by decide) ?_
            refine lv_aload_n hx hb dX8_text_142 rfl (lv_at hl 0 rfl) ?_
            refine G_8_57 X hG 0 rfl dX8_text_143 ?_
            refine lv_imul hx hb dX8_text_146 ?_
            refine lv_iload_n hx hb dX8_text_147 rfl (lv_at hl 1 rfl) ?_
            refine lv_iadd hx hb dX8_text_148 ?_
            refine lv_aload_n hx hb dX8_text_149 rfl (lv_at hl 0 rfl) ?_
            refine G_8_63 X hG 0 rfl dX8_text_150 ?_
            refine lv_sipush (v := 1020) hx hb dX8_text_153 (by decide) ?_
            refine lv_iload_n hx hb dX8_text_156 rfl (lv_at hl 1 rfl) ?_
            refine lv_iadd hx hb dX8_text_157 ?_
            refine r_iald X hG 0 14 rfl rfl hf dX8_text_158 (fun x26 hf => ?_)
            refine r_iast X hG 0 14 rfl rfl hf (fun t => [wX8 g o ad t]) rfl dX8_text_159 (fun z27 H locs hf hG => ?_)
            refine lv_iinc (v := (t15.1 + 1)) (lv' := [(1, .int (t15.1 + 1)), (0, .ref o)]) hx hb dX8_text_160 hl (k := 1) rfl rfl (by decide) rfl (fun ls hl => ?_)
            refine lv_goto (tgt := 102) hx hb dX8_text_163 (by decide) ?_
            exact hK16 _ hf _ _ _ hG (lv_sub hl [1, 0] rfl)
        · replace hf := ite_f hf hc14
          refine lv_bipush (v := (-100)) hx hb dX8_text_92 (by decide) ?_
          refine lv_aload_n hx hb dX8_text_94 rfl (lv_at hl 0 rfl) ?_
          refine G_8_187 X hG 0 rfl dX8_text_95 ?_
          refine lv_isub hx hb dX8_text_98 ?_
          have hq9 := Option.some.inj hf
          subst hq9
          subst hQ
          exact r_iret X hG dX8_text_99
      refine lv_if_ge (tgt := 80) hx hb dX8_text_65 (by decide) (fun hc28 => ?_) (fun hc28 => ?_)
      · replace hf := ite_t hf hc28
        exact hK12 _ hf _ _ _ hG (lv_sub hl [0] rfl)
      · replace hf := ite_f hf hc28
        refine lv_aload_n hx hb dX8_text_68 rfl (lv_at hl 0 rfl) ?_
        refine G_8_171 X hG 0 rfl dX8_text_69 ?_
        refine lv_iconst (v := 4) hx hb dX8_text_72 (by decide) ?_
        refine lv_icmp_eq (tgt := 80) hx hb dX8_text_73 (by decide) (fun hc29 => ?_) (fun hc29 => ?_)
        · replace hf := ite_t hf hc29
          exact hK12 _ hf _ _ _ hG (lv_sub hl [0] rfl)
        · replace hf := ite_f hf hc29
          refine lv_aload_n hx hb dX8_text_76 rfl (lv_at hl 0 rfl) ?_
          obtain ⟨q30, hq30, hf⟩ := cl_inv hf
          refine r_callVv (bc := [wX8 g o ad t7.2]) (br := []) (bs' := [wX8 g o ad q30]) (As := []) (rest := []) X hG hl.1 (c_X8_faulty g l o ad n t7.2 q30 hq30) (List.Perm.refl _) (List.Perm.refl _) lk_X8_faulty lv_X8_faulty ml_8_196 (j := 0) (k := 0) rfl rfl rfl rfl rfl ⟨Nat.le_of_ble_eq_true rfl, Nat.le_of_ble_eq_true rfl⟩ rfl rfl (Nat.le_of_ble_eq_true rfl) ⟨Nat.zero_le _, Nat.zero_le _⟩ dX8_text_77 (fun H locs hG => ?_)
          exact hK12 _ hf _ _ _ hG (lv_sub hl [0] rfl)
    refine lv_icmp_gt (tgt := 61) hx hb dX8_text_40 (by decide) (fun hc31 => ?_) (fun hc31 => ?_)
    · replace hf := ite_t hf hc31
      exact hK10 _ hf _ _ _ hG (lv_sub hl [0] rfl)
    · replace hf := ite_f hf hc31
      refine lv_aload_n hx hb dX8_text_43 rfl (lv_at hl 0 rfl) ?_
      refine G_8_187 X hG 0 rfl dX8_text_44 ?_
      refine lv_if_ge (tgt := 61) hx hb dX8_text_47 (by decide) (fun hc32 => ?_) (fun hc32 => ?_)
      · replace hf := ite_t hf hc32
        exact hK10 _ hf _ _ _ hG (lv_sub hl [0] rfl)
      · replace hf := ite_f hf hc32
        refine lv_aload_n hx hb dX8_text_50 rfl (lv_at hl 0 rfl) ?_
        refine lv_iload_n hx hb dX8_text_51 rfl (lv_at hl 1 rfl) ?_
        obtain ⟨q33, hq33, hf⟩ := cl_inv hf
        refine r_callVv (bc := [wX8 g o ad t7.2]) (br := []) (bs' := [wX8 g o ad q33]) (As := [.int t7.1]) (rest := []) X hG hl.1 (c_X8_rule g l o ad n t7.1 t7.2 q33 hq33) (List.Perm.refl _) (List.Perm.refl _) lk_X8_rule lv_X8_rule ml_8_234 (j := 0) (k := 0) rfl rfl rfl rfl rfl ⟨Nat.le_of_ble_eq_true rfl, Nat.le_of_ble_eq_true rfl⟩ rfl rfl (Nat.le_of_ble_eq_true rfl) ⟨Nat.zero_le _, Nat.zero_le _⟩ dX8_text_52 (fun H locs hG => ?_)
        refine lv_iinc (v := (t7.1 + 1)) (lv' := [(1, .int (t7.1 + 1)), (0, .ref o)]) hx hb dX8_text_55 hl (k := 1) rfl rfl (by decide) rfl (fun ls hl => ?_)
        refine lv_goto (tgt := 38) hx hb dX8_text_58 (by decide) ?_
        exact hK8 _ hf _ _ _ hG (lv_sub hl [1, 0] rfl)
  · replace hf := ite_t hf hc1
    refine lv_bipush (v := (-4)) hx hb dX8_text_9 (by decide) ?_
    have hq9 := Option.some.inj hf
    subst hq9
    subst hQ
    exact r_iret X hG dX8_text_11
def rmX8_force : Room := { frames := 1, cells := 0, slots := 0, locals := 22 }
set_option maxHeartbeats 4000000 in
set_option maxRecDepth 100000 in
theorem c_X8_force (g : GT) (l : Launch) (o : Nat) (ad : Nat → Nat) (n : Nat) (a1 : Int32) (s0 : MS) (q : Int32 × MS) (hf : f_X8_force n a1 s0 = some q) : CI g l yX8_force cX8_force 3 (some .int) rmX8_force [.ref o, .int a1] [wX8 g o ad s0] q.1 [wX8 g o ad q.2] := by
  refine CI_intro RX8 rfl (by decide +kernel) (Nat.le_of_ble_eq_true rfl) ?_
  intro p e s m args below meth c A ls Q hQ X hl hG
  have hl : lv_has ls 3 [(0, .ref o), (1, .int a1)] := hl
  have hx := X.1
  have hb := X.2.1
  have hown := X.2.2.2.1
  unfold f_X8_force at hf
  refine lv_iload_n hx hb dX8_force_0 rfl (lv_at hl 1 rfl) ?_
  refine lv_iconst (v := 0) hx hb dX8_force_1 (by decide) ?_
  refine lv_aload_n hx hb dX8_force_2 rfl (lv_at hl 0 rfl) ?_
  refine G_8_57 X hG 0 rfl dX8_force_3 ?_
  refine lv_iconst (v := 1) hx hb dX8_force_6 (by decide) ?_
  refine lv_isub hx hb dX8_force_7 ?_
  obtain ⟨q1, hq1, hf⟩ := cl_inv hf
  refine r_callSi (bc := []) (br := [wX8 g o ad s0]) (bs' := [wX8 g o ad s0]) (As := [.int a1, .int 0, .int ((s0.1 21) - 1)]) (rest := []) X hG hl.1 (c_X8_in g l  n a1 0 ((s0.1 21) - 1) q1 hq1) (List.Perm.refl _) (List.Perm.refl _) lk_X8_in ls_X8_in ml_8_132 rfl rfl ⟨Nat.le_of_ble_eq_true rfl, Nat.le_of_ble_eq_true rfl⟩ rfl rfl (Nat.le_of_ble_eq_true rfl) ⟨Nat.zero_le _, Nat.zero_le _⟩ dX8_force_8 (fun H locs hG => ?_)
  refine lv_if_ne (tgt := 17) hx hb dX8_force_11 (by decide) (fun hc2 => ?_) (fun hc2 => ?_)
  · replace hf := ite_f hf hc2
    refine lv_aload_n hx hb dX8_force_17 rfl (lv_at hl 0 rfl) ?_
    refine G_8_238 X hG 0 rfl dX8_force_18 ?_
    refine lv_istore_n (lv' := [(2, .int (s0.1 22)), (0, .ref o), (1, .int a1)]) hx hb dX8_force_21 rfl hl (by decide) rfl (fun ls hl => ?_)
    refine lv_aload_n hx hb dX8_force_22 rfl (lv_at hl 1 rfl) ?_
    refine lv_iload_n hx hb dX8_force_23 rfl (lv_at hl 2 rfl) ?_
    refine P_8_238 X hG 0 rfl hf (fun t => [wX8 g o ad t]) (fun _ => rfl) dX8_force_24 (fun z3 H locs hf hG => ?_)
    refine lv_iload_n hx hb dX8_force_27 rfl (lv_at hl 0 rfl) ?_
    have hq9 := Option.some.inj hf
    subst hq9
    subst hQ
    exact r_iret X hG dX8_force_28
  · replace hf := ite_t hf hc2
    refine lv_bipush (v := (-2)) hx hb dX8_force_14 (by decide) ?_
    have hq9 := Option.some.inj hf
    subst hq9
    subst hQ
    exact r_iret X hG dX8_force_16
def rmX8_twoOf : Room := { frames := 0, cells := 0, slots := 0, locals := 0 }
set_option maxHeartbeats 4000000 in
set_option maxRecDepth 100000 in
theorem c_X8_twoOf (g : GT) (l : Launch) (n : Nat) (a1 : Int32) (a2 : Int32) (a3 : Int32) (q : Int32) (hf : f_X8_twoOf n a1 a2 a3 = some q) : CI g l yX8_twoOf cX8_twoOf 3 (some .int) rmX8_twoOf [.int a1, .int a2, .int a3] [] q [] := by
  refine CI_intro RX8 rfl (by decide +kernel) (Nat.le_of_ble_eq_true rfl) ?_
  intro p e s m args below meth c A ls Q hQ X hl hG
  have hl : lv_has ls 3 [(0, .int a1), (1, .int a2), (2, .int a3)] := hl
  have hx := X.1
  have hb := X.2.1
  have hown := X.2.2.2.1
  unfold f_X8_twoOf at hf
  refine lv_iload_n hx hb dX8_twoOf_0 rfl (lv_at hl 0 rfl) ?_
  by_cases hk1_0 : a1 = 5
  · replace hf := ite_t hf hk1_0
    refine r_lsi (tgt := 60) X dX8_twoOf_1 hk1_0 (by decide) trivial rfl (by decide) ?_
    refine lv_iload_n hx hb dX8_twoOf_60 rfl (lv_at hl 1 rfl) ?_
    refine lv_if_ne (tgt := 68) hx hb dX8_twoOf_61 (by decide) (fun hc2 => ?_) (fun hc2 => ?_)
    · replace hf := ite_f hf hc2
      refine lv_iconst (v := 1) hx hb dX8_twoOf_68 (by decide) ?_
      refine lv_goto (tgt := 73) hx hb dX8_twoOf_69 (by decide) ?_
      have hq9 := Option.some.inj hf
      subst hq9
      subst hQ
      exact r_iret X hG dX8_twoOf_73
    · replace hf := ite_t hf hc2
      refine lv_iload_n hx hb dX8_twoOf_64 rfl (lv_at hl 2 rfl) ?_
      refine lv_if_eq (tgt := 72) hx hb dX8_twoOf_65 (by decide) (fun hc3 => ?_) (fun hc3 => ?_)
      · replace hf := ite_t hf hc3
        refine lv_iconst (v := 0) hx hb dX8_twoOf_72 (by decide) ?_
        have hq9 := Option.some.inj hf
        subst hq9
        subst hQ
        exact r_iret X hG dX8_twoOf_73
      · replace hf := ite_f hf hc3
        refine lv_iconst (v := 1) hx hb dX8_twoOf_68 (by decide) ?_
        refine lv_goto (tgt := 73) hx hb dX8_twoOf_69 (by decide) ?_
        have hq9 := Option.some.inj hf
        subst hq9
        subst hQ
        exact r_iret X hG dX8_twoOf_73
  · replace hf := ite_f hf hk1_0
    by_cases hk1_1 : a1 = 6
    · replace hf := ite_t hf hk1_1
      refine r_lsi (tgt := 74) X dX8_twoOf_1 hk1_1 (by decide) trivial rfl (by decide) ?_
      refine lv_iload_n hx hb dX8_twoOf_74 rfl (lv_at hl 1 rfl) ?_
      refine lv_if_eq (tgt := 86) hx hb dX8_twoOf_75 (by decide) (fun hc4 => ?_) (fun hc4 => ?_)
      · replace hf := ite_t hf hc4
        refine lv_iconst (v := 0) hx hb dX8_twoOf_86 (by decide) ?_
        have hq9 := Option.some.inj hf
        subst hq9
        subst hQ
        exact r_iret X hG dX8_twoOf_87
      · replace hf := ite_f hf hc4
        refine lv_iload_n hx hb dX8_twoOf_78 rfl (lv_at hl 2 rfl) ?_
        refine lv_if_eq (tgt := 86) hx hb dX8_twoOf_79 (by decide) (fun hc5 => ?_) (fun hc5 => ?_)
        · replace hf := ite_t hf hc5
          refine lv_iconst (v := 0) hx hb dX8_twoOf_86 (by decide) ?_
          have hq9 := Option.some.inj hf
          subst hq9
          subst hQ
          exact r_iret X hG dX8_twoOf_87
        · replace hf := ite_f hf hc5
          refine lv_iconst (v := 1) hx hb dX8_twoOf_82 (by decide) ?_
          refine lv_goto (tgt := 87) hx hb dX8_twoOf_83 (by decide) ?_
          have hq9 := Option.some.inj hf
          subst hq9
          subst hQ
          exact r_iret X hG dX8_twoOf_87
    · replace hf := ite_f hf hk1_1
      by_cases hk1_2 : a1 = 43
      · replace hf := ite_t hf hk1_2
        refine r_lsi (tgt := 110) X dX8_twoOf_1 hk1_2 (by decide) trivial rfl (by decide) ?_
        refine lv_iload_n hx hb dX8_twoOf_110 rfl (lv_at hl 1 rfl) ?_
        refine lv_iload_n hx hb dX8_twoOf_111 rfl (lv_at hl 2 rfl) ?_
        refine lv_iadd hx hb dX8_twoOf_112 ?_
        have hq9 := Option.some.inj hf
        subst hq9
        subst hQ
        exact r_iret X hG dX8_twoOf_113
      · replace hf := ite_f hf hk1_2
        by_cases hk1_3 : a1 = 45
        · replace hf := ite_t hf hk1_3
          refine r_lsi (tgt := 114) X dX8_twoOf_1 hk1_3 (by decide) trivial rfl (by decide) ?_
          refine lv_iload_n hx hb dX8_twoOf_114 rfl (lv_at hl 1 rfl) ?_
          refine lv_iload_n hx hb dX8_twoOf_115 rfl (lv_at hl 2 rfl) ?_
          refine lv_isub hx hb dX8_twoOf_116 ?_
          have hq9 := Option.some.inj hf
          subst hq9
          subst hQ
          exact r_iret X hG dX8_twoOf_117
        · replace hf := ite_f hf hk1_3
          by_cases hk1_4 : a1 = 60
          · replace hf := ite_t hf hk1_4
            refine r_lsi (tgt := 88) X dX8_twoOf_1 hk1_4 (by decide) trivial rfl (by decide) ?_
            refine lv_iload_n hx hb dX8_twoOf_88 rfl (lv_at hl 1 rfl) ?_
            refine lv_iload_n hx hb dX8_twoOf_89 rfl (lv_at hl 2 rfl) ?_
            refine lv_icmp_ge (tgt := 97) hx hb dX8_twoOf_90 (by decide) (fun hc6 => ?_) (fun hc6 => ?_)
            · replace hf := ite_t hf hc6
              refine lv_iconst (v := 0) hx hb dX8_twoOf_97 (by decide) ?_
              have hq9 := Option.some.inj hf
              subst hq9
              subst hQ
              exact r_iret X hG dX8_twoOf_98
            · replace hf := ite_f hf hc6
              refine lv_iconst (v := 1) hx hb dX8_twoOf_93 (by decide) ?_
              refine lv_goto (tgt := 98) hx hb dX8_twoOf_94 (by decide) ?_
              have hq9 := Option.some.inj hf
              subst hq9
              subst hQ
              exact r_iret X hG dX8_twoOf_98
          · replace hf := ite_f hf hk1_4
            by_cases hk1_5 : a1 = 61
            · replace hf := ite_t hf hk1_5
              refine r_lsi (tgt := 99) X dX8_twoOf_1 hk1_5 (by decide) trivial rfl (by decide) ?_
              refine lv_iload_n hx hb dX8_twoOf_99 rfl (lv_at hl 1 rfl) ?_
              refine lv_iload_n hx hb dX8_twoOf_100 rfl (lv_at hl 2 rfl) ?_
              refine lv_icmp_ne (tgt := 108) hx hb dX8_twoOf_101 (by decide) (fun hc7 => ?_) (fun hc7 => ?_)
              · replace hf := ite_f hf hc7
                refine lv_iconst (v := 0) hx hb dX8_twoOf_108 (by decide) ?_
                have hq9 := Option.some.inj hf
                subst hq9
                subst hQ
                exact r_iret X hG dX8_twoOf_109
              · replace hf := ite_t hf hc7
                refine lv_iconst (v := 1) hx hb dX8_twoOf_104 (by decide) ?_
                refine lv_goto (tgt := 109) hx hb dX8_twoOf_105 (by decide) ?_
                have hq9 := Option.some.inj hf
                subst hq9
                subst hQ
                exact r_iret X hG dX8_twoOf_109
            · replace hf := ite_f hf hk1_5
              refine r_lso (tgt := 118) X dX8_twoOf_1 (ks := [5, 6, 43, 45, 60, 61]) (List.forall_mem_cons.mpr ⟨hk1_0, List.forall_mem_cons.mpr ⟨hk1_1, List.forall_mem_cons.mpr ⟨hk1_2, List.forall_mem_cons.mpr ⟨hk1_3, List.forall_mem_cons.mpr ⟨hk1_4, List.forall_mem_cons.mpr ⟨hk1_5, List.forall_mem_nil _⟩⟩⟩⟩⟩⟩) (by decide) (by decide) (by decide) ?_
              refine lv_iload_n hx hb dX8_twoOf_118 rfl (lv_at hl 1 rfl) ?_
              refine lv_iload_n hx hb dX8_twoOf_119 rfl (lv_at hl 2 rfl) ?_
              refine lv_imul hx hb dX8_twoOf_120 ?_
              have hq9 := Option.some.inj hf
              subst hq9
              subst hQ
              exact r_iret X hG dX8_twoOf_121
def rmX8_gives : Room := { frames := 1, cells := 0, slots := 0, locals := 22 }
set_option maxHeartbeats 4000000 in
set_option maxRecDepth 100000 in
theorem c_X8_gives (g : GT) (l : Launch) (o : Nat) (ad : Nat → Nat) (n : Nat) (a1 : Int32) (s0 : MS) (q : Int32 × MS) (hf : f_X8_gives n a1 s0 = some q) : CI g l yX8_gives cX8_gives 5 (some .int) rmX8_gives [.ref o, .int a1] [wX8 g o ad s0] q.1 [wX8 g o ad q.2] := by
  refine CI_intro RX8 rfl (by decide +kernel) (Nat.le_of_ble_eq_true rfl) ?_
  intro p e s m args below meth c A ls Q hQ X hl hG
  have hl : lv_has ls 5 [(0, .ref o), (1, .int a1)] := hl
  have hx := X.1
  have hb := X.2.1
  have hown := X.2.2.2.1
  unfold f_X8_gives at hf
  refine lv_aload_n hx hb dX8_gives_0 rfl (lv_at hl 0 rfl) ?_
  refine G_8_238 X hG 0 rfl dX8_gives_1 ?_
  refine lv_if_ne (tgt := 40) hx hb dX8_gives_4 (by decide) (fun hc1 => ?_) (fun hc1 => ?_)
  · replace hf := ite_f hf hc1
    refine lv_iconst (v := 0) hx hb dX8_gives_40 (by decide) ?_
    refine lv_istore_n (lv' := [(2, .int 0), (0, .ref o), (1, .int a1)]) hx hb dX8_gives_41 rfl hl (by decide) rfl (fun ls hl => ?_)
    refine lv_iload_n hx hb dX8_gives_42 rfl (lv_at hl 2 rfl) ?_
    refine jn_use (P := fun (t2 : Int32) => ∀ (H : Heap) (locs : List Loc) (ls : Array Slot), GM g A s.heap H locs [wX8 g o ad s0] → lv_has ls 5 [(0, .ref o), (1, .int a1), (2, .int 0)] → W p l e rmX8_gives s m args below meth c H locs 0 0 Q (F0 m 65 ls [.int t2])) hf (fun t2 hf H locs ls hG hl => ?_) (fun K3 hK3 hf => ?_)
    · refine lv_istore_n (lv' := [(3, .int t2), (0, .ref o), (1, .int a1), (2, .int 0)]) hx hb dX8_gives_65 rfl hl (by decide) rfl (fun ls hl => ?_)
      refine lv_sipush (v := 170) hx hb dX8_gives_66 (by decide) ?_
      refine lv_aload_n hx hb dX8_gives_69 rfl (lv_at hl 1 rfl) ?_
      refine G_8_238 X hG 0 rfl dX8_gives_70 ?_
      refine lv_imul hx hb dX8_gives_73 ?_
      refine lv_iload_n hx hb dX8_gives_74 rfl (lv_at hl 0 rfl) ?_
      refine lv_iadd hx hb dX8_gives_75 ?_
      refine r_bni hf (fun x4 hf => ?_)
      refine lv_istore (lv' := [(4, .int x4), (3, .int t2), (0, .ref o), (1, .int a1), (2, .int 0)]) hx hb dX8_gives_76 hl (by decide) rfl (fun ls hl => ?_)
      refine lp_go (P := fun (t5 : Int32 × Int32 × MS) => ∀ (H : Heap) (locs : List Loc) (ls : Array Slot), GM g A s.heap H locs [wX8 g o ad t5.2.2] → lv_has ls 5 [(0, .ref o), (1, .int a1), (2, .int t5.1), (4, .int t5.2.1)] → W p l e rmX8_gives s m args below meth c H locs 0 0 Q (F0 m 78 ls [])) hf (fun K6 hK6 t5 hf H locs ls hG hl => ?_) _ _ _ hG (lv_sub hl [2, 3, 4, 0] rfl)
      refine lv_iload hx hb dX8_gives_78 (lv_at hl 3 rfl) ?_
      refine lv_sipush (v := 170) hx hb dX8_gives_80 (by decide) ?_
      refine lv_aload_n hx hb dX8_gives_83 rfl (lv_at hl 0 rfl) ?_
      refine G_8_238 X hG 0 rfl dX8_gives_84 ?_
      refine lv_imul hx hb dX8_gives_87 ?_
      refine lv_aload_n hx hb dX8_gives_88 rfl (lv_at hl 0 rfl) ?_
      refine G_8_66 X hG 0 rfl dX8_gives_89 ?_
      refine lv_iconst (v := 3) hx hb dX8_gives_92 (by decide) ?_
      refine lv_aload_n hx hb dX8_gives_93 rfl (lv_at hl 0 rfl) ?_
      refine G_8_238 X hG 0 rfl dX8_gives_94 ?_
      refine lv_imul hx hb dX8_gives_97 ?_
      refine lv_iload_n hx hb dX8_gives_98 rfl (lv_at hl 1 rfl) ?_
      refine lv_iadd hx hb dX8_gives_99 ?_
      refine r_iald X hG 0 15 rfl rfl hf dX8_gives_100 (fun x7 hf => ?_)
      refine lv_iadd hx hb dX8_gives_101 ?_
      refine lv_icmp_ge (tgt := 277) hx hb dX8_gives_102 (by decide) (fun hc8 => ?_) (fun hc8 => ?_)
      · replace hf := ite_t hf hc8
        refine lv_aload_n hx hb dX8_gives_277 rfl (lv_at hl 0 rfl) ?_
        refine G_8_69 X hG 0 rfl dX8_gives_278 ?_
        refine lv_iconst (v := 0) hx hb dX8_gives_281 (by decide) ?_
        refine r_iald X hG 0 16 rfl rfl hf dX8_gives_282 (fun x9 hf => ?_)
        have hq9 := Option.some.inj hf
        subst hq9
        subst hQ
        exact r_iret X hG dX8_gives_283
      · replace hf := ite_f hf hc8
        refine lv_aload_n hx hb dX8_gives_105 rfl (lv_at hl 0 rfl) ?_
        refine G_8_60 X hG 0 rfl dX8_gives_106 ?_
        refine lv_iload hx hb dX8_gives_109 (lv_at hl 3 rfl) ?_
        refine r_iald X hG 0 13 rfl rfl hf dX8_gives_111 (fun x10 hf => ?_)
        refine jn_use (P := fun (t11 : Int32 × MS) => ∀ (H : Heap) (locs : List Loc) (ls : Array Slot), GM g A s.heap H locs [wX8 g o ad t11.2] → lv_has ls 5 [(0, .ref o), (1, .int a1), (2, .int t11.1), (4, .int t5.2.1)] → W p l e rmX8_gives s m args below meth c H locs 0 0 Q (F0 m 271 ls [])) hf (fun t11 hf H locs ls hG hl => ?_) (fun K12 hK12 hf => ?_)
        · refine lv_iinc (v := (t5.2.1 + 1)) (lv' := [(4, .int (t5.2.1 + 1)), (0, .ref o), (1, .int a1), (2, .int t11.1)]) hx hb dX8_gives_271 hl (k := 3) rfl rfl (by decide) rfl (fun ls hl => ?_)
          refine lv_goto (tgt := 78) hx hb dX8_gives_274 (by decide) ?_
          exact hK6 _ hf _ _ _ hG (lv_sub hl [1, 2, 3, 0] rfl)
        by_cases hk13_0 : x10 = 1
        · replace hf := ite_t hf hk13_0
          refine r_tsi (tgt := 144) (off := 32) X dX8_gives_112 hk13_0 (by decide +kernel) (by decide +kernel) (by decide) ?_
          refine lv_aload_n hx hb dX8_gives_144 rfl (lv_at hl 0 rfl) ?_
          refine G_8_69 X hG 0 rfl dX8_gives_145 ?_
          refine lv_iload_n hx hb dX8_gives_148 rfl (lv_at hl 2 rfl) ?_
          refine lv_aload_n hx hb dX8_gives_149 rfl (lv_at hl 0 rfl) ?_
          refine G_8_63 X hG 0 rfl dX8_gives_150 ?_
          refine lv_iload hx hb dX8_gives_153 (lv_at hl 3 rfl) ?_
          refine r_iald X hG 0 14 rfl rfl hf dX8_gives_155 (fun x14 hf => ?_)
          refine r_iast X hG 0 16 rfl rfl hf (fun t => [wX8 g o ad t]) rfl dX8_gives_156 (fun z15 H locs hf hG => ?_)
          refine lv_iinc (v := (t5.1 + 1)) (lv' := [(2, .int (t5.1 + 1)), (0, .ref o), (1, .int a1), (4, .int t5.2.1)]) hx hb dX8_gives_157 hl (k := 2) rfl rfl (by decide) rfl (fun ls hl => ?_)
          refine lv_goto (tgt := 271) hx hb dX8_gives_160 (by decide) ?_
          exact hK12 _ hf _ _ _ hG (lv_sub hl [1, 2, 0, 3] rfl)
        · replace hf := ite_f hf hk13_0
          by_cases hk13_1 : x10 = 2
          · replace hf := ite_t hf hk13_1
            refine r_tsi (tgt := 163) (off := 51) X dX8_gives_112 hk13_1 (by decide +kernel) (by decide +kernel) (by decide) ?_
            refine lv_aload_n hx hb dX8_gives_163 rfl (lv_at hl 0 rfl) ?_
            refine G_8_69 X hG 0 rfl dX8_gives_164 ?_
            refine lv_iload_n hx hb dX8_gives_167 rfl (lv_at hl 2 rfl) ?_
            refine lv_aload_n hx hb dX8_gives_168 rfl (lv_at hl 0 rfl) ?_
            refine G_8_72 X hG 0 rfl dX8_gives_169 ?_
            refine lv_aload_n hx hb dX8_gives_172 rfl (lv_at hl 0 rfl) ?_
            refine G_8_63 X hG 0 rfl dX8_gives_173 ?_
            refine lv_iload hx hb dX8_gives_176 (lv_at hl 3 rfl) ?_
            refine r_iald X hG 0 14 rfl rfl hf dX8_gives_178 (fun x16 hf => ?_)
            refine r_iald X hG 0 17 rfl rfl hf dX8_gives_179 (fun x17 hf => ?_)
            refine r_iast X hG 0 16 rfl rfl hf (fun t => [wX8 g o ad t]) rfl dX8_gives_180 (fun z18 H locs hf hG => ?_)
            refine lv_iinc (v := (t5.1 + 1)) (lv' := [(2, .int (t5.1 + 1)), (0, .ref o), (1, .int a1), (4, .int t5.2.1)]) hx hb dX8_gives_181 hl (k := 2) rfl rfl (by decide) rfl (fun ls hl => ?_)
            refine lv_goto (tgt := 271) hx hb dX8_gives_184 (by decide) ?_
            exact hK12 _ hf _ _ _ hG (lv_sub hl [1, 2, 0, 3] rfl)
          · replace hf := ite_f hf hk13_1
            by_cases hk13_2 : x10 = 3
            · replace hf := ite_t hf hk13_2
              refine r_tsi (tgt := 187) (off := 75) X dX8_gives_112 hk13_2 (by decide +kernel) (by decide +kernel) (by decide) ?_
              refine lv_aload_n hx hb dX8_gives_187 rfl (lv_at hl 0 rfl) ?_
              refine G_8_69 X hG 0 rfl dX8_gives_188 ?_
              refine lv_iload_n hx hb dX8_gives_191 rfl (lv_at hl 2 rfl) ?_
              refine lv_iconst (v := 1) hx hb dX8_gives_192 (by decide) ?_
              refine lv_isub hx hb dX8_gives_193 ?_
              refine lv_aload_n hx hb dX8_gives_194 rfl (lv_at hl 0 rfl) ?_
              refine G_8_69 X hG 0 rfl dX8_gives_195 ?_
              refine lv_iload_n hx hb dX8_gives_198 rfl (lv_at hl 2 rfl) ?_
              refine lv_iconst (v := 1) hx hb dX8_gives_199 (by decide) ?_
              refine lv_isub hx hb dX8_gives_200 ?_
              refine r_iald X hG 0 16 rfl rfl hf dX8_gives_201 (fun x19 hf => ?_)
              refine jn_use (P := fun (t20 : Int32) => ∀ (H : Heap) (locs : List Loc) (ls : Array Slot), GM g A s.heap H locs [wX8 g o ad t5.2.2] → lv_has ls 5 [(0, .ref o), (1, .int a1), (2, .int t5.1), (4, .int t5.2.1)] → W p l e rmX8_gives s m args below meth c H locs 0 0 Q (F0 m 210 ls [.int t20, .int (t5.1 - 1), .ref (ad 33)])) hf (fun t20 hf H locs ls hG hl => ?_) (fun K21 hK21 hf => ?_)
              · refine r_iast X hG 0 16 rfl rfl hf (fun t => [wX8 g o ad t]) rfl dX8_gives_210 (fun z22 H locs hf hG => ?_)
                refine lv_goto (tgt := 271) hx hb dX8_gives_211 (by decide) ?_
                exact hK12 _ hf _ _ _ hG (lv_sub hl [0, 1, 2, 3] rfl)
              refine lv_if_ne (tgt := 209) hx hb dX8_gives_202 (by decide) (fun hc23 => ?_) (fun hc23 => ?_)
              · replace hf := ite_f hf hc23
                refine lv_iconst (v := 0) hx hb dX8_gives_209 (by decide) ?_
                exact hK21 _ hf _ _ _ hG (lv_sub hl [0, 1, 2, 3] rfl)
              · replace hf := ite_t hf hc23
                refine lv_iconst (v := 1) hx hb dX8_gives_205 (by decide) ?_
                refine lv_goto (tgt := 210) hx hb dX8_gives_206 (by decide) ?_
                exact hK21 _ hf _ _ _ hG (lv_sub hl [0, 1, 2, 3] rfl)
            · replace hf := ite_f hf hk13_2
              by_cases hk13_3 : x10 = 4
              · replace hf := ite_t hf hk13_3
                refine r_tsi (tgt := 214) (off := 102) X dX8_gives_112 hk13_3 (by decide +kernel) (by decide +kernel) (by decide) ?_
                refine lv_aload_n hx hb dX8_gives_214 rfl (lv_at hl 0 rfl) ?_
                refine G_8_69 X hG 0 rfl dX8_gives_215 ?_
                refine lv_iload_n hx hb dX8_gives_218 rfl (lv_at hl 2 rfl) ?_
                refine lv_iconst (v := 1) hx hb dX8_gives_219 (by decide) ?_
                refine lv_isub hx hb dX8_gives_220 ?_
                refine lv_aload_n hx hb dX8_gives_221 rfl (lv_at hl 0 rfl) ?_
                refine G_8_69 X hG 0 rfl dX8_gives_222 ?_
                refine lv_iload_n hx hb dX8_gives_225 rfl (lv_at hl 2 rfl) ?_
                refine lv_iconst (v := 1) hx hb dX8_gives_226 (by decide) ?_
                refine lv_isub hx hb dX8_gives_227 ?_
                refine r_iald X hG 0 16 rfl rfl hf dX8_gives_228 (fun x24 hf => ?_)
                refine lv_ineg hx hb dX8_gives_229 ?_
                refine r_iast X hG 0 16 rfl rfl hf (fun t => [wX8 g o ad t]) rfl dX8_gives_230 (fun z25 H locs hf hG => ?_)
                refine lv_goto (tgt := 271) hx hb dX8_gives_231 (by decide) ?_
                exact hK12 _ hf _ _ _ hG (lv_sub hl [0, 1, 2, 3] rfl)
              · replace hf := ite_f hf hk13_3
                refine r_tso (tgt := 234) X dX8_gives_112 (ks := [1, 2, 3, 4]) (List.forall_mem_cons.mpr ⟨hk13_0, List.forall_mem_cons.mpr ⟨hk13_1, List.forall_mem_cons.mpr ⟨hk13_2, List.forall_mem_cons.mpr ⟨hk13_3, List.forall_mem_nil _⟩⟩⟩⟩) (by decide +kernel) (by decide) ?_
                refine lv_aload_n hx hb dX8_gives_234 rfl (lv_at hl 0 rfl) ?_
                refine G_8_69 X hG 0 rfl dX8_gives_235 ?_
                refine lv_iload_n hx hb dX8_gives_238 rfl (lv_at hl 2 rfl) ?_
                refine lv_iconst (v := 2) hx hb dX8_gives_239 (by decide) ?_
                refine lv_isub hx hb dX8_gives_240 ?_
                refine lv_aload_n hx hb dX8_gives_241 rfl (lv_at hl 0 rfl) ?_
                refine G_8_60 X hG 0 rfl dX8_gives_242 ?_
                refine lv_iload hx hb dX8_gives_245 (lv_at hl 3 rfl) ?_
                refine r_iald X hG 0 13 rfl rfl hf dX8_gives_247 (fun x26 hf => ?_)
                refine lv_aload_n hx hb dX8_gives_248 rfl (lv_at hl 0 rfl) ?_
                refine G_8_69 X hG 0 rfl dX8_gives_249 ?_
                refine lv_iload_n hx hb dX8_gives_252 rfl (lv_at hl 2 rfl) ?_
                refine lv_iconst (v := 2) hx hb dX8_gives_253 (by decide) ?_
                refine lv_isub hx hb dX8_gives_254 ?_
                refine r_iald X hG 0 16 rfl rfl hf dX8_gives_255 (fun x27 hf => ?_)
                refine lv_aload_n hx hb dX8_gives_256 rfl (lv_at hl 0 rfl) ?_
                refine G_8_69 X hG 0 rfl dX8_gives_257 ?_
                refine lv_iload_n hx hb dX8_gives_260 rfl (lv_at hl 2 rfl) ?_
                refine lv_iconst (v := 1) hx hb dX8_gives_261 (by decide) ?_
                refine lv_isub hx hb dX8_gives_262 ?_
                refine r_iald X hG 0 16 rfl rfl hf dX8_gives_263 (fun x28 hf => ?_)
                obtain ⟨q29, hq29, hf⟩ := cl_inv hf
                refine r_callSi (bc := []) (br := [wX8 g o ad t5.2.2]) (bs' := [wX8 g o ad t5.2.2]) (As := [.int x26, .int x27, .int x28]) (rest := [.int (t5.1 - 2), .ref (ad 33)]) X hG hl.1 (c_X8_twoOf g l  n x26 x27 x28 q29 hq29) (List.Perm.refl _) (List.Perm.refl _) lk_X8_twoOf ls_X8_twoOf ml_8_241 rfl rfl ⟨Nat.le_of_ble_eq_true rfl, Nat.le_of_ble_eq_true rfl⟩ rfl rfl (Nat.le_of_ble_eq_true rfl) ⟨Nat.zero_le _, Nat.zero_le _⟩ dX8_gives_264 (fun H locs hG => ?_)
                refine r_iast X hG 0 16 rfl rfl hf (fun t => [wX8 g o ad t]) rfl dX8_gives_267 (fun z30 H locs hf hG => ?_)
                refine lv_iinc (v := (t5.1 + (-1))) (lv' := [(2, .int (t5.1 + (-1))), (0, .ref o), (1, .int a1), (4, .int t5.2.1)]) hx hb dX8_gives_268 hl (k := 2) rfl rfl (by decide) rfl (fun ls hl => ?_)
                exact hK12 _ hf _ _ _ hG (lv_sub hl [1, 2, 0, 3] rfl)
    refine lv_if_ne (tgt := 50) hx hb dX8_gives_43 (by decide) (fun hc31 => ?_) (fun hc31 => ?_)
    · replace hf := ite_f hf hc31
      refine lv_aload_n hx hb dX8_gives_50 rfl (lv_at hl 1 rfl) ?_
      refine G_8_66 X hG 0 rfl dX8_gives_51 ?_
      refine lv_iconst (v := 3) hx hb dX8_gives_54 (by decide) ?_
      refine lv_aload_n hx hb dX8_gives_55 rfl (lv_at hl 1 rfl) ?_
      refine G_8_238 X hG 0 rfl dX8_gives_56 ?_
      refine lv_imul hx hb dX8_gives_59 ?_
      refine lv_iload_n hx hb dX8_gives_60 rfl (lv_at hl 2 rfl) ?_
      refine lv_iadd hx hb dX8_gives_61 ?_
      refine lv_iconst (v := 1) hx hb dX8_gives_62 (by decide) ?_
      refine lv_isub hx hb dX8_gives_63 ?_
      refine r_iald X hG 0 15 rfl rfl hf dX8_gives_64 (fun x32 hf => ?_)
      exact hK3 _ hf _ _ _ hG (lv_sub hl [1, 2, 0] rfl)
    · replace hf := ite_t hf hc31
      refine lv_iconst (v := 0) hx hb dX8_gives_46 (by decide) ?_
      refine lv_goto (tgt := 65) hx hb dX8_gives_47 (by decide) ?_
      exact hK3 _ hf _ _ _ hG (lv_sub hl [1, 2, 0] rfl)
  · replace hf := ite_t hf hc1
    refine lv_iload_n hx hb dX8_gives_7 rfl (lv_at hl 1 rfl) ?_
    refine lv_if_ne (tgt := 29) hx hb dX8_gives_8 (by decide) (fun hc33 => ?_) (fun hc33 => ?_)
    · replace hf := ite_f hf hc33
      refine lv_iload_n hx hb dX8_gives_29 rfl (lv_at hl 1 rfl) ?_
      refine lv_iconst (v := 1) hx hb dX8_gives_30 (by decide) ?_
      refine lv_icmp_ne (tgt := 38) hx hb dX8_gives_31 (by decide) (fun hc34 => ?_) (fun hc34 => ?_)
      · replace hf := ite_f hf hc34
        refine lv_iconst (v := 1) hx hb dX8_gives_38 (by decide) ?_
        have hq9 := Option.some.inj hf
        subst hq9
        subst hQ
        exact r_iret X hG dX8_gives_39
      · replace hf := ite_t hf hc34
        refine lv_iconst (v := 0) hx hb dX8_gives_34 (by decide) ?_
        refine lv_goto (tgt := 39) hx hb dX8_gives_35 (by decide) ?_
        have hq9 := Option.some.inj hf
        subst hq9
        subst hQ
        exact r_iret X hG dX8_gives_39
    · replace hf := ite_t hf hc33
      refine lv_aload_n hx hb dX8_gives_11 rfl (lv_at hl 0 rfl) ?_
      refine G_8_72 X hG 0 rfl dX8_gives_12 ?_
      refine lv_iconst (v := 4) hx hb dX8_gives_15 (by decide) ?_
      refine r_iald X hG 0 17 rfl rfl hf dX8_gives_16 (fun x35 hf => ?_)
      refine lv_iconst (v := 3) hx hb dX8_gives_17 (by decide) ?_
      refine lv_imul hx hb dX8_gives_18 ?_
      refine lv_aload_n hx hb dX8_gives_19 rfl (lv_at hl 0 rfl) ?_
      refine G_8_72 X hG 0 rfl dX8_gives_20 ?_
      refine lv_iconst (v := 5) hx hb dX8_gives_23 (by decide) ?_
      refine r_iald X hG 0 17 rfl rfl hf dX8_gives_24 (fun x36 hf => ?_)
      refine lv_isub hx hb dX8_gives_25 ?_
      refine lv_goto (tgt := 39) hx hb dX8_gives_26 (by decide) ?_
      have hq9 := Option.some.inj hf
      subst hq9
      subst hQ
      exact r_iret X hG dX8_gives_39
def rmX8_waitingNow : Room := { frames := 0, cells := 0, slots := 0, locals := 0 }
set_option maxHeartbeats 4000000 in
set_option maxRecDepth 100000 in
theorem c_X8_waitingNow (g : GT) (l : Launch) (o : Nat) (ad : Nat → Nat) (n : Nat) (s0 : MS) (q : Int32) (hf : f_X8_waitingNow n s0 = some q) : CI g l yX8_waitingNow cX8_waitingNow 3 (some .int) rmX8_waitingNow [.ref o] [wX8 g o ad s0] q [wX8 g o ad s0] := by
  refine CI_intro RX8 rfl (by decide +kernel) (Nat.le_of_ble_eq_true rfl) ?_
  intro p e s m args below meth c A ls Q hQ X hl hG
  have hl : lv_has ls 3 [(0, .ref o)] := hl
  have hx := X.1
  have hb := X.2.1
  have hown := X.2.2.2.1
  unfold f_X8_waitingNow at hf
  refine lv_iconst (v := 0) hx hb dX8_waitingNow_0 (by decide) ?_
  refine lv_istore_n (lv' := [(1, .int 0), (0, .ref o)]) hx hb dX8_waitingNow_1 rfl hl (by decide) rfl (fun ls hl => ?_)
  refine lv_iconst (v := 0) hx hb dX8_waitingNow_2 (by decide) ?_
  refine lv_istore_n (lv' := [(2, .int 0), (1, .int 0), (0, .ref o)]) hx hb dX8_waitingNow_3 rfl hl (by decide) rfl (fun ls hl => ?_)
  refine lp_go (P := fun (t1 : Int32 × Int32) => ∀ (H : Heap) (locs : List Loc) (ls : Array Slot), GM g A s.heap H locs [wX8 g o ad s0] → lv_has ls 3 [(0, .ref o), (1, .int t1.1), (2, .int t1.2)] → W p l e rmX8_waitingNow s m args below meth c H locs 0 0 Q (F0 m 4 ls [])) hf (fun K2 hK2 t1 hf H locs ls hG hl => ?_) _ _ _ hG (lv_sub hl [2, 1, 0] rfl)
  refine lv_iload_n hx hb dX8_waitingNow_4 rfl (lv_at hl 2 rfl) ?_
  refine lv_bipush (v := 120) hx hb dX8_waitingNow_5 (by decide) ?_
  refine lv_aload_n hx hb dX8_waitingNow_7 rfl (lv_at hl 0 rfl) ?_
  refine G_8_129 X hG 0 rfl dX8_waitingNow_8 ?_
  refine lv_imul hx hb dX8_waitingNow_11 ?_
  refine lv_icmp_ge (tgt := 30) hx hb dX8_waitingNow_12 (by decide) (fun hc3 => ?_) (fun hc3 => ?_)
  · replace hf := ite_t hf hc3
    refine lv_iload_n hx hb dX8_waitingNow_30 rfl (lv_at hl 1 rfl) ?_
    have hq9 := Option.some.inj hf
    subst hq9
    subst hQ
    exact r_iret X hG dX8_waitingNow_31
  · replace hf := ite_f hf hc3
    refine lv_iload_n hx hb dX8_waitingNow_15 rfl (lv_at hl 1 rfl) ?_
    refine lv_aload_n hx hb dX8_waitingNow_16 rfl (lv_at hl 0 rfl) ?_
    refine G_8_87 X hG 0 rfl dX8_waitingNow_17 ?_
    refine lv_iload_n hx hb dX8_waitingNow_20 rfl (lv_at hl 2 rfl) ?_
    refine r_iald X hG 0 22 rfl rfl hf dX8_waitingNow_21 (fun x4 hf => ?_)
    refine lv_iadd hx hb dX8_waitingNow_22 ?_
    refine r_bni hf (fun x5 hf => ?_)
    refine lv_istore_n (lv' := [(1, .int x5), (0, .ref o), (2, .int t1.2)]) hx hb dX8_waitingNow_23 rfl hl (by decide) rfl (fun ls hl => ?_)
    refine lv_iinc (v := (t1.2 + 1)) (lv' := [(2, .int (t1.2 + 1)), (1, .int x5), (0, .ref o)]) hx hb dX8_waitingNow_24 hl (k := 2) rfl rfl (by decide) rfl (fun ls hl => ?_)
    refine lv_goto (tgt := 4) hx hb dX8_waitingNow_27 (by decide) ?_
    exact hK2 _ hf _ _ _ hG (lv_sub hl [2, 1, 0] rfl)
def rmX8_findFacts : Room := { frames := 1, cells := 0, slots := 0, locals := 24 }
set_option maxHeartbeats 4000000 in
set_option maxRecDepth 100000 in
theorem c_X8_findFacts (g : GT) (l : Launch) (o : Nat) (ad : Nat → Nat) (n : Nat) (a1 : Int32) (a2 : Int32) (a3 : Int32) (a4 : Int32) (a5 : Int32) (s0 : MS) (q : MS) (hf : f_X8_findFacts n a1 a2 a3 a4 a5 s0 = some q) : CV g l yX8_findFacts cX8_findFacts 6 none rmX8_findFacts [.ref o, .int a1, .int a2, .int a3, .int a4, .int a5] [wX8 g o ad s0] [wX8 g o ad q] := by
  refine CV_intro RX8 rfl (by decide +kernel) (Nat.le_of_ble_eq_true rfl) ?_
  intro p e s m args below meth c A ls Q hQ X hl hG
  have hl : lv_has ls 6 [(0, .ref o), (1, .int a1), (2, .int a2), (3, .int a3), (4, .int a4), (5, .int a5)] := hl
  have hx := X.1
  have hb := X.2.1
  have hown := X.2.2.2.1
  unfold f_X8_findFacts at hf
  refine lv_aload_n hx hb dX8_findFacts_0 rfl (lv_at hl 0 rfl) ?_
  refine G_8_72 X hG 0 rfl dX8_findFacts_1 ?_
  refine lv_iconst (v := 0) hx hb dX8_findFacts_4 (by decide) ?_
  refine lv_aload_n hx hb dX8_findFacts_5 rfl (lv_at hl 0 rfl) ?_
  refine G_8_129 X hG 0 rfl dX8_findFacts_6 ?_
  refine jn_use (P := fun (t1 : Int32) => ∀ (H : Heap) (locs : List Loc) (ls : Array Slot), GM g A s.heap H locs [wX8 g o ad s0] → lv_has ls 6 [(0, .ref o), (1, .int a1), (2, .int a2), (3, .int a3), (4, .int a4), (5, .int a5)] → W p l e rmX8_findFacts s m args below meth c H locs 0 0 Q (F0 m 22 ls [.int t1, .int 0, .ref (ad 34)])) hf (fun t1 hf H locs ls hG hl => ?_) (fun K2 hK2 hf => ?_)
  · refine r_iast X hG 0 17 rfl rfl hf (fun t => [wX8 g o ad t]) rfl dX8_findFacts_22 (fun z3 H locs hf hG => ?_)
    refine lv_aload_n hx hb dX8_findFacts_23 rfl (lv_at hl 0 rfl) ?_
    refine G_8_72 X hG 0 rfl dX8_findFacts_24 ?_
    refine lv_iconst (v := 1) hx hb dX8_findFacts_27 (by decide) ?_
    refine lv_iload hx hb dX8_findFacts_28 (lv_at hl 4 rfl) ?_
    refine r_iast X hG 0 17 rfl rfl hf (fun t => [wX8 g o ad t]) rfl dX8_findFacts_30 (fun z4 H locs hf hG => ?_)
    refine lv_aload_n hx hb dX8_findFacts_31 rfl (lv_at hl 0 rfl) ?_
    refine G_8_72 X hG 0 rfl dX8_findFacts_32 ?_
    refine lv_iconst (v := 2) hx hb dX8_findFacts_35 (by decide) ?_
    refine lv_iload hx hb dX8_findFacts_36 (lv_at hl 5 rfl) ?_
    refine r_iast X hG 0 17 rfl rfl hf (fun t => [wX8 g o ad t]) rfl dX8_findFacts_38 (fun z5 H locs hf hG => ?_)
    refine lv_aload_n hx hb dX8_findFacts_39 rfl (lv_at hl 0 rfl) ?_
    refine G_8_72 X hG 0 rfl dX8_findFacts_40 ?_
    refine lv_iconst (v := 3) hx hb dX8_findFacts_43 (by decide) ?_
    refine lv_aload_n hx hb dX8_findFacts_44 rfl (lv_at hl 0 rfl) ?_
    refine lv_iload_n hx hb dX8_findFacts_45 rfl (lv_at hl 1 rfl) ?_
    refine lv_iload_n hx hb dX8_findFacts_46 rfl (lv_at hl 3 rfl) ?_
    obtain ⟨q6, hq6, hf⟩ := cl_inv hf
    refine r_callVi (bc := [wX8 g o ad z5]) (br := []) (bs' := [wX8 g o ad z5]) (As := [.int a1, .int a3]) (rest := [.int 3, .ref (ad 34)]) X hG hl.1 (c_X8_asks g l o ad n a1 a3 z5 q6 hq6) (List.Perm.refl _) (List.Perm.refl _) lk_X8_asks lv_X8_asks ml_8_159 (j := 0) (k := 0) rfl rfl rfl rfl rfl ⟨Nat.le_of_ble_eq_true rfl, Nat.le_of_ble_eq_true rfl⟩ rfl rfl (Nat.le_of_ble_eq_true rfl) ⟨Nat.zero_le _, Nat.zero_le _⟩ dX8_findFacts_47 (fun H locs hG => ?_)
    refine r_iast X hG 0 17 rfl rfl hf (fun t => [wX8 g o ad t]) rfl dX8_findFacts_50 (fun z7 H locs hf hG => ?_)
    refine lv_aload_n hx hb dX8_findFacts_51 rfl (lv_at hl 0 rfl) ?_
    refine G_8_72 X hG 0 rfl dX8_findFacts_52 ?_
    refine lv_iconst (v := 4) hx hb dX8_findFacts_55 (by decide) ?_
    refine lv_aload_n hx hb dX8_findFacts_56 rfl (lv_at hl 0 rfl) ?_
    refine G_8_129 X hG 0 rfl dX8_findFacts_57 ?_
    refine jn_use (P := fun (t8 : Int32) => ∀ (H : Heap) (locs : List Loc) (ls : Array Slot), GM g A s.heap H locs [wX8 g o ad z7] → lv_has ls 6 [(0, .ref o), (3, .int a3)] → W p l e rmX8_findFacts s m args below meth c H locs 0 0 Q (F0 m 83 ls [.int t8, .int 4, .ref (ad 34)])) hf (fun t8 hf H locs ls hG hl => ?_) (fun K9 hK9 hf => ?_)
    · refine r_iast X hG 0 17 rfl rfl hf (fun t => [wX8 g o ad t]) rfl dX8_findFacts_83 (fun z10 H locs hf hG => ?_)
      refine lv_aload_n hx hb dX8_findFacts_84 rfl (lv_at hl 0 rfl) ?_
      refine G_8_72 X hG 0 rfl dX8_findFacts_85 ?_
      refine lv_iconst (v := 5) hx hb dX8_findFacts_88 (by decide) ?_
      refine lv_aload_n hx hb dX8_findFacts_89 rfl (lv_at hl 0 rfl) ?_
      refine G_8_40 X hG 0 rfl dX8_findFacts_90 ?_
      refine lv_iload_n hx hb dX8_findFacts_93 rfl (lv_at hl 1 rfl) ?_
      refine r_iald X hG 0 11 rfl rfl hf dX8_findFacts_94 (fun x11 hf => ?_)
      refine r_iast X hG 0 17 rfl rfl hf (fun t => [wX8 g o ad t]) rfl dX8_findFacts_95 (fun z12 H locs hf hG => ?_)
      have hq9 := Option.some.inj hf
      subst hq9
      subst hQ
      exact r_vret X hG dX8_findFacts_96
    refine lv_if_ne (tgt := 67) hx hb dX8_findFacts_60 (by decide) (fun hc13 => ?_) (fun hc13 => ?_)
    · replace hf := ite_f hf hc13
      refine lv_aload_n hx hb dX8_findFacts_67 rfl (lv_at hl 0 rfl) ?_
      refine G_8_19 X hG 0 rfl dX8_findFacts_68 ?_
      refine lv_iload_n hx hb dX8_findFacts_71 rfl (lv_at hl 2 rfl) ?_
      refine r_iald X hG 0 4 rfl rfl hf dX8_findFacts_72 (fun x14 hf => ?_)
      refine lv_aload_n hx hb dX8_findFacts_73 rfl (lv_at hl 0 rfl) ?_
      refine lv_iload_n hx hb dX8_findFacts_74 rfl (lv_at hl 1 rfl) ?_
      refine lv_iload_n hx hb dX8_findFacts_75 rfl (lv_at hl 3 rfl) ?_
      obtain ⟨q15, hq15, hf⟩ := cl_inv hf
      refine r_callVi (bc := [wX8 g o ad z7]) (br := []) (bs' := [wX8 g o ad z7]) (As := [.int a1, .int a3]) (rest := [.int x14, .int 4, .ref (ad 34)]) X hG hl.1 (c_X8_calls g l o ad n a1 a3 z7 q15 hq15) (List.Perm.refl _) (List.Perm.refl _) lk_X8_calls lv_X8_calls ml_8_155 (j := 0) (k := 0) rfl rfl rfl rfl rfl ⟨Nat.le_of_ble_eq_true rfl, Nat.le_of_ble_eq_true rfl⟩ rfl rfl (Nat.le_of_ble_eq_true rfl) ⟨Nat.zero_le _, Nat.zero_le _⟩ dX8_findFacts_76 (fun H locs hG => ?_)
      refine lv_imul hx hb dX8_findFacts_79 ?_
      refine lv_bipush (v := 10) hx hb dX8_findFacts_80 (by decide) ?_
      refine r_idiv X hf dX8_findFacts_82 (fun hf => ?_)
      exact hK9 _ hf _ _ _ hG (lv_sub hl [0, 3] rfl)
    · replace hf := ite_t hf hc13
      refine lv_iconst (v := 0) hx hb dX8_findFacts_63 (by decide) ?_
      refine lv_goto (tgt := 83) hx hb dX8_findFacts_64 (by decide) ?_
      exact hK9 _ hf _ _ _ hG (lv_sub hl [0, 3] rfl)
  refine lv_if_ne (tgt := 16) hx hb dX8_findFacts_9 (by decide) (fun hc16 => ?_) (fun hc16 => ?_)
  · replace hf := ite_f hf hc16
    refine lv_aload_n hx hb dX8_findFacts_16 rfl (lv_at hl 0 rfl) ?_
    refine G_8_81 X hG 0 rfl dX8_findFacts_17 ?_
    refine lv_iload_n hx hb dX8_findFacts_20 rfl (lv_at hl 2 rfl) ?_
    refine r_iald X hG 0 20 rfl rfl hf dX8_findFacts_21 (fun x17 hf => ?_)
    exact hK2 _ hf _ _ _ hG (lv_sub hl [0, 1, 2, 3, 4, 5] rfl)
  · replace hf := ite_t hf hc16
    refine lv_iconst (v := 0) hx hb dX8_findFacts_12 (by decide) ?_
    refine lv_goto (tgt := 22) hx hb dX8_findFacts_13 (by decide) ?_
    exact hK2 _ hf _ _ _ hG (lv_sub hl [0, 1, 2, 3, 4, 5] rfl)
def rmX8_goes : Room := { frames := 1, cells := 0, slots := 0, locals := 21 }
set_option maxHeartbeats 4000000 in
set_option maxRecDepth 100000 in
theorem c_X8_goes (g : GT) (l : Launch) (o : Nat) (ad : Nat → Nat) (n : Nat) (a1 : Int32) (a2 : Int32) (s0 : MS) (q : Int32) (hf : f_X8_goes n a1 a2 s0 = some q) : CI g l yX8_goes cX8_goes 3 (some .boolean) rmX8_goes [.ref o, .int a1, .int a2] [wX8 g o ad s0] q [wX8 g o ad s0] := by
  refine CI_intro RX8 rfl (by decide +kernel) (Nat.le_of_ble_eq_true rfl) ?_
  intro p e s m args below meth c A ls Q hQ X hl hG
  have hl : lv_has ls 3 [(0, .ref o), (1, .int a1), (2, .int a2)] := hl
  have hx := X.1
  have hb := X.2.1
  have hown := X.2.2.2.1
  unfold f_X8_goes at hf
  refine lv_iload_n hx hb dX8_goes_0 rfl (lv_at hl 2 rfl) ?_
  refine lv_aload_n hx hb dX8_goes_1 rfl (lv_at hl 0 rfl) ?_
  refine G_8_28 X hG 0 rfl dX8_goes_2 ?_
  refine lv_iload_n hx hb dX8_goes_5 rfl (lv_at hl 1 rfl) ?_
  refine r_iald X hG 0 7 rfl rfl hf dX8_goes_6 (fun x1 hf => ?_)
  refine lv_icmp_lt (tgt := 40) hx hb dX8_goes_7 (by decide) (fun hc2 => ?_) (fun hc2 => ?_)
  · replace hf := ite_t hf hc2
    refine lv_iconst (v := 0) hx hb dX8_goes_40 (by decide) ?_
    obtain ⟨hz, hf⟩ := ck_inv hf
    have hq9 := Option.some.inj hf
    subst hq9
    subst hQ
    exact r_zret X hG (of_decide_eq_true hz) dX8_goes_41
  · replace hf := ite_f hf hc2
    refine lv_iload_n hx hb dX8_goes_10 rfl (lv_at hl 2 rfl) ?_
    refine lv_aload_n hx hb dX8_goes_11 rfl (lv_at hl 0 rfl) ?_
    refine G_8_28 X hG 0 rfl dX8_goes_12 ?_
    refine lv_iload_n hx hb dX8_goes_15 rfl (lv_at hl 1 rfl) ?_
    refine r_iald X hG 0 7 rfl rfl hf dX8_goes_16 (fun x3 hf => ?_)
    refine lv_isub hx hb dX8_goes_17 ?_
    refine lv_aload_n hx hb dX8_goes_18 rfl (lv_at hl 0 rfl) ?_
    refine G_8_25 X hG 0 rfl dX8_goes_19 ?_
    refine lv_iload_n hx hb dX8_goes_22 rfl (lv_at hl 1 rfl) ?_
    refine r_iald X hG 0 6 rfl rfl hf dX8_goes_23 (fun x4 hf => ?_)
    refine r_irem X hf dX8_goes_24 (fun hf => ?_)
    refine lv_if_ne (tgt := 40) hx hb dX8_goes_25 (by decide) (fun hc5 => ?_) (fun hc5 => ?_)
    · replace hf := ite_f hf hc5
      refine lv_iconst (v := 0) hx hb dX8_goes_40 (by decide) ?_
      obtain ⟨hz, hf⟩ := ck_inv hf
      have hq9 := Option.some.inj hf
      subst hq9
      subst hQ
      exact r_zret X hG (of_decide_eq_true hz) dX8_goes_41
    · replace hf := ite_t hf hc5
      refine lv_aload_n hx hb dX8_goes_28 rfl (lv_at hl 0 rfl) ?_
      refine lv_iload_n hx hb dX8_goes_29 rfl (lv_at hl 2 rfl) ?_
      obtain ⟨q6, hq6, hf⟩ := cl_inv hf
      refine r_callVi (bc := [wX8 g o ad s0]) (br := []) (bs' := [wX8 g o ad s0]) (As := [.int a2]) (rest := []) X hG hl.1 (c_X8_isShut g l o ad n a2 s0 q6 hq6) (List.Perm.refl _) (List.Perm.refl _) lk_X8_isShut lv_X8_isShut ml_8_245 (j := 0) (k := 0) rfl rfl rfl rfl rfl ⟨Nat.le_of_ble_eq_true rfl, Nat.le_of_ble_eq_true rfl⟩ rfl rfl (Nat.le_of_ble_eq_true rfl) ⟨Nat.zero_le _, Nat.zero_le _⟩ dX8_goes_30 (fun H locs hG => ?_)
      refine lv_if_ne (tgt := 40) hx hb dX8_goes_33 (by decide) (fun hc7 => ?_) (fun hc7 => ?_)
      · replace hf := ite_f hf hc7
        refine lv_iconst (v := 0) hx hb dX8_goes_40 (by decide) ?_
        obtain ⟨hz, hf⟩ := ck_inv hf
        have hq9 := Option.some.inj hf
        subst hq9
        subst hQ
        exact r_zret X hG (of_decide_eq_true hz) dX8_goes_41
      · replace hf := ite_t hf hc7
        refine lv_iconst (v := 1) hx hb dX8_goes_36 (by decide) ?_
        refine lv_goto (tgt := 41) hx hb dX8_goes_37 (by decide) ?_
        obtain ⟨hz, hf⟩ := ck_inv hf
        have hq9 := Option.some.inj hf
        subst hq9
        subst hQ
        exact r_zret X hG (of_decide_eq_true hz) dX8_goes_41
def rmX8_isAhead : Room := { frames := 0, cells := 0, slots := 0, locals := 0 }
set_option maxHeartbeats 4000000 in
set_option maxRecDepth 100000 in
theorem c_X8_isAhead (g : GT) (l : Launch) (o : Nat) (ad : Nat → Nat) (n : Nat) (a1 : Int32) (a2 : Int32) (a3 : Int32) (a4 : Int32) (a5 : Int32) (s0 : MS) (q : Int32) (hf : f_X8_isAhead n a1 a2 a3 a4 a5 s0 = some q) : CI g l yX8_isAhead cX8_isAhead 6 (some .boolean) rmX8_isAhead [.ref o, .int a1, .int a2, .int a3, .int a4, .int a5] [wX8 g o ad s0] q [wX8 g o ad s0] := by
  refine CI_intro RX8 rfl (by decide +kernel) (Nat.le_of_ble_eq_true rfl) ?_
  intro p e s m args below meth c A ls Q hQ X hl hG
  have hl : lv_has ls 6 [(0, .ref o), (1, .int a1), (2, .int a2), (3, .int a3), (4, .int a4), (5, .int a5)] := hl
  have hx := X.1
  have hb := X.2.1
  have hown := X.2.2.2.1
  unfold f_X8_isAhead at hf
  refine lv_iload_n hx hb dX8_isAhead_0 rfl (lv_at hl 1 rfl) ?_
  refine lv_iconst (v := 1) hx hb dX8_isAhead_1 (by decide) ?_
  refine jn_use (P := fun (t1 : Unit) => ∀ (H : Heap) (locs : List Loc) (ls : Array Slot), GM g A s.heap H locs [wX8 g o ad s0] → lv_has ls 6 [(1, .int a1), (2, .int a2), (3, .int a3), (4, .int a4), (5, .int a5)] → W p l e rmX8_isAhead s m args below meth c H locs 0 0 Q (F0 m 43 ls [])) hf (fun t1 hf H locs ls hG hl => ?_) (fun K2 hK2 hf => ?_)
  · refine lv_iload_n hx hb dX8_isAhead_43 rfl (lv_at hl 0 rfl) ?_
    refine lv_iconst (v := 2) hx hb dX8_isAhead_44 (by decide) ?_
    refine jn_use (P := fun (t3 : Unit) => ∀ (H : Heap) (locs : List Loc) (ls : Array Slot), GM g A s.heap H locs [wX8 g o ad s0] → lv_has ls 6 [(2, .int a2), (3, .int a3), (4, .int a4), (5, .int a5)] → W p l e rmX8_isAhead s m args below meth c H locs 0 0 Q (F0 m 66 ls [])) hf (fun t3 hf H locs ls hG hl => ?_) (fun K4 hK4 hf => ?_)
    · refine lv_iload_n hx hb dX8_isAhead_66 rfl (lv_at hl 1 rfl) ?_
      refine lv_iload hx hb dX8_isAhead_67 (lv_at hl 3 rfl) ?_
      refine lv_icmp_eq (tgt := 86) hx hb dX8_isAhead_69 (by decide) (fun hc5 => ?_) (fun hc5 => ?_)
      · replace hf := ite_t hf hc5
        refine lv_iload_n hx hb dX8_isAhead_86 rfl (lv_at hl 0 rfl) ?_
        refine lv_iload hx hb dX8_isAhead_87 (lv_at hl 2 rfl) ?_
        refine lv_icmp_ge (tgt := 96) hx hb dX8_isAhead_89 (by decide) (fun hc6 => ?_) (fun hc6 => ?_)
        · replace hf := ite_t hf hc6
          refine lv_iconst (v := 0) hx hb dX8_isAhead_96 (by decide) ?_
          obtain ⟨hz, hf⟩ := ck_inv hf
          have hq9 := Option.some.inj hf
          subst hq9
          subst hQ
          exact r_zret X hG (of_decide_eq_true hz) dX8_isAhead_97
        · replace hf := ite_f hf hc6
          refine lv_iconst (v := 1) hx hb dX8_isAhead_92 (by decide) ?_
          refine lv_goto (tgt := 97) hx hb dX8_isAhead_93 (by decide) ?_
          obtain ⟨hz, hf⟩ := ck_inv hf
          have hq9 := Option.some.inj hf
          subst hq9
          subst hQ
          exact r_zret X hG (of_decide_eq_true hz) dX8_isAhead_97
      · replace hf := ite_f hf hc5
        refine lv_iload_n hx hb dX8_isAhead_72 rfl (lv_at hl 1 rfl) ?_
        refine lv_iload hx hb dX8_isAhead_73 (lv_at hl 3 rfl) ?_
        refine lv_icmp_ge (tgt := 82) hx hb dX8_isAhead_75 (by decide) (fun hc7 => ?_) (fun hc7 => ?_)
        · replace hf := ite_t hf hc7
          refine lv_iconst (v := 0) hx hb dX8_isAhead_82 (by decide) ?_
          refine lv_goto (tgt := 97) hx hb dX8_isAhead_83 (by decide) ?_
          obtain ⟨hz, hf⟩ := ck_inv hf
          have hq9 := Option.some.inj hf
          subst hq9
          subst hQ
          exact r_zret X hG (of_decide_eq_true hz) dX8_isAhead_97
        · replace hf := ite_f hf hc7
          refine lv_iconst (v := 1) hx hb dX8_isAhead_78 (by decide) ?_
          refine lv_goto (tgt := 97) hx hb dX8_isAhead_79 (by decide) ?_
          obtain ⟨hz, hf⟩ := ck_inv hf
          have hq9 := Option.some.inj hf
          subst hq9
          subst hQ
          exact r_zret X hG (of_decide_eq_true hz) dX8_isAhead_97
    refine lv_icmp_ne (tgt := 66) hx hb dX8_isAhead_45 (by decide) (fun hc8 => ?_) (fun hc8 => ?_)
    · replace hf := ite_f hf hc8
      exact hK4 _ hf _ _ _ hG (lv_sub hl [1, 2, 3, 4] rfl)
    · replace hf := ite_t hf hc8
      refine lv_iload_n hx hb dX8_isAhead_48 rfl (lv_at hl 1 rfl) ?_
      refine lv_iload hx hb dX8_isAhead_49 (lv_at hl 3 rfl) ?_
      refine lv_icmp_eq (tgt := 66) hx hb dX8_isAhead_51 (by decide) (fun hc9 => ?_) (fun hc9 => ?_)
      · replace hf := ite_t hf hc9
        exact hK4 _ hf _ _ _ hG (lv_sub hl [1, 2, 3, 4] rfl)
      · replace hf := ite_f hf hc9
        refine lv_iload_n hx hb dX8_isAhead_54 rfl (lv_at hl 1 rfl) ?_
        refine lv_iload hx hb dX8_isAhead_55 (lv_at hl 3 rfl) ?_
        refine lv_icmp_ge (tgt := 64) hx hb dX8_isAhead_57 (by decide) (fun hc10 => ?_) (fun hc10 => ?_)
        · replace hf := ite_t hf hc10
          refine lv_iconst (v := 0) hx hb dX8_isAhead_64 (by decide) ?_
          obtain ⟨hz, hf⟩ := ck_inv hf
          have hq9 := Option.some.inj hf
          subst hq9
          subst hQ
          exact r_zret X hG (of_decide_eq_true hz) dX8_isAhead_65
        · replace hf := ite_f hf hc10
          refine lv_iconst (v := 1) hx hb dX8_isAhead_60 (by decide) ?_
          refine lv_goto (tgt := 65) hx hb dX8_isAhead_61 (by decide) ?_
          obtain ⟨hz, hf⟩ := ck_inv hf
          have hq9 := Option.some.inj hf
          subst hq9
          subst hQ
          exact r_zret X hG (of_decide_eq_true hz) dX8_isAhead_65
  refine lv_icmp_ne (tgt := 43) hx hb dX8_isAhead_2 (by decide) (fun hc11 => ?_) (fun hc11 => ?_)
  · replace hf := ite_f hf hc11
    exact hK2 _ hf _ _ _ hG (lv_sub hl [1, 2, 3, 4, 5] rfl)
  · replace hf := ite_t hf hc11
    refine lv_aload_n hx hb dX8_isAhead_5 rfl (lv_at hl 0 rfl) ?_
    refine G_8_13 X hG 0 rfl dX8_isAhead_6 ?_
    refine lv_iload_n hx hb dX8_isAhead_9 rfl (lv_at hl 2 rfl) ?_
    refine r_iald X hG 0 2 rfl rfl hf dX8_isAhead_10 (fun x12 hf => ?_)
    refine lv_aload_n hx hb dX8_isAhead_11 rfl (lv_at hl 0 rfl) ?_
    refine G_8_13 X hG 0 rfl dX8_isAhead_12 ?_
    refine lv_iload hx hb dX8_isAhead_15 (lv_at hl 4 rfl) ?_
    refine r_iald X hG 0 2 rfl rfl hf dX8_isAhead_17 (fun x13 hf => ?_)
    refine lv_icmp_eq (tgt := 43) hx hb dX8_isAhead_18 (by decide) (fun hc14 => ?_) (fun hc14 => ?_)
    · replace hf := ite_t hf hc14
      exact hK2 _ hf _ _ _ hG (lv_sub hl [1, 2, 3, 4, 5] rfl)
    · replace hf := ite_f hf hc14
      refine lv_aload_n hx hb dX8_isAhead_21 rfl (lv_at hl 0 rfl) ?_
      refine G_8_13 X hG 0 rfl dX8_isAhead_22 ?_
      refine lv_iload_n hx hb dX8_isAhead_25 rfl (lv_at hl 2 rfl) ?_
      refine r_iald X hG 0 2 rfl rfl hf dX8_isAhead_26 (fun x15 hf => ?_)
      refine lv_aload_n hx hb dX8_isAhead_27 rfl (lv_at hl 0 rfl) ?_
      refine G_8_13 X hG 0 rfl dX8_isAhead_28 ?_
      refine lv_iload hx hb dX8_isAhead_31 (lv_at hl 4 rfl) ?_
      refine r_iald X hG 0 2 rfl rfl hf dX8_isAhead_33 (fun x16 hf => ?_)
      refine lv_icmp_le (tgt := 41) hx hb dX8_isAhead_34 (by decide) (fun hc17 => ?_) (fun hc17 => ?_)
      · replace hf := ite_t hf hc17
        refine lv_iconst (v := 0) hx hb dX8_isAhead_41 (by decide) ?_
        obtain ⟨hz, hf⟩ := ck_inv hf
        have hq9 := Option.some.inj hf
        subst hq9
        subst hQ
        exact r_zret X hG (of_decide_eq_true hz) dX8_isAhead_42
      · replace hf := ite_f hf hc17
        refine lv_iconst (v := 1) hx hb dX8_isAhead_37 (by decide) ?_
        refine lv_goto (tgt := 42) hx hb dX8_isAhead_38 (by decide) ?_
        obtain ⟨hz, hf⟩ := ck_inv hf
        have hq9 := Option.some.inj hf
        subst hq9
        subst hQ
        exact r_zret X hG (of_decide_eq_true hz) dX8_isAhead_42
def rmX8_load : Room := { frames := 1, cells := 0, slots := 0, locals := 25 }
set_option maxHeartbeats 4000000 in
set_option maxRecDepth 100000 in
theorem c_X8_load (g : GT) (l : Launch) (o : Nat) (ad : Nat → Nat) (n : Nat) (a1 : Int32) (a2 : Int32) (a3 : Int32) (a4 : Int32) (s0 : MS) (q : MS) (hf : f_X8_load n a1 a2 a3 a4 s0 = some q) : CV g l yX8_load cX8_load 8 none rmX8_load [.ref o, .int a1, .int a2, .int a3, .int a4] [wX8 g o ad s0] [wX8 g o ad q] := by
  refine CV_intro RX8 rfl (by decide +kernel) (Nat.le_of_ble_eq_true rfl) ?_
  intro p e s m args below meth c A ls Q hQ X hl hG
  have hl : lv_has ls 8 [(0, .ref o), (1, .int a1), (2, .int a2), (3, .int a3), (4, .int a4)] := hl
  have hx := X.1
  have hb := X.2.1
  have hown := X.2.2.2.1
  unfold f_X8_load at hf
  refine lv_iload_n hx hb dX8_load_0 rfl (lv_at hl 2 rfl) ?_
  refine lv_istore (lv' := [(5, .int a2), (0, .ref o), (1, .int a1), (2, .int a2), (3, .int a3), (4, .int a4)]) hx hb dX8_load_1 hl (by decide) rfl (fun ls hl => ?_)
  refine lp_go (P := fun (t1 : Int32 × MS) => ∀ (H : Heap) (locs : List Loc) (ls : Array Slot), GM g A s.heap H locs [wX8 g o ad t1.2] → lv_has ls 8 [(0, .ref o), (1, .int a1), (3, .int a3), (5, .int t1.1)] → W p l e rmX8_load s m args below meth c H locs 0 0 Q (F0 m 3 ls [])) hf (fun K2 hK2 t1 hf H locs ls hG hl => ?_) _ _ _ hG (lv_sub hl [1, 2, 4, 0] rfl)
  refine lv_iload hx hb dX8_load_3 (lv_at hl 3 rfl) ?_
  refine lv_if_le (tgt := 159) hx hb dX8_load_5 (by decide) (fun hc3 => ?_) (fun hc3 => ?_)
  · replace hf := ite_t hf hc3
    have hq9 := Option.some.inj hf
    subst hq9
    subst hQ
    exact r_vret X hG dX8_load_159
  · replace hf := ite_f hf hc3
    refine lv_iconst (v := (-1)) hx hb dX8_load_8 (by decide) ?_
    refine lv_istore (lv' := [(6, .int (-1)), (0, .ref o), (1, .int a1), (3, .int a3), (5, .int t1.1)]) hx hb dX8_load_9 hl (by decide) rfl (fun ls hl => ?_)
    refine lv_iconst (v := 0) hx hb dX8_load_11 (by decide) ?_
    refine lv_istore (lv' := [(7, .int 0), (6, .int (-1)), (0, .ref o), (1, .int a1), (3, .int a3), (5, .int t1.1)]) hx hb dX8_load_12 hl (by decide) rfl (fun ls hl => ?_)
    refine lp_go (P := fun (t4 : Int32 × Int32) => ∀ (H : Heap) (locs : List Loc) (ls : Array Slot), GM g A s.heap H locs [wX8 g o ad t1.2] → lv_has ls 8 [(0, .ref o), (1, .int a1), (3, .int a3), (5, .int t1.1), (6, .int t4.1), (7, .int t4.2)] → W p l e rmX8_load s m args below meth c H locs 0 0 Q (F0 m 14 ls [])) hf (fun K5 hK5 t4 hf H locs ls hG hl => ?_) _ _ _ hG (lv_sub hl [2, 3, 4, 5, 1, 0] rfl)
    refine lv_iload hx hb dX8_load_14 (lv_at hl 5 rfl) ?_
    refine lv_bipush (v := 120) hx hb dX8_load_16 (by decide) ?_
    refine lv_aload_n hx hb dX8_load_18 rfl (lv_at hl 0 rfl) ?_
    refine G_8_129 X hG 0 rfl dX8_load_19 ?_
    refine lv_imul hx hb dX8_load_22 ?_
    refine lv_icmp_ge (tgt := 79) hx hb dX8_load_23 (by decide) (fun hc6 => ?_) (fun hc6 => ?_)
    · replace hf := ite_t hf hc6
      refine lv_iload hx hb dX8_load_79 (lv_at hl 4 rfl) ?_
      refine lv_if_ge (tgt := 85) hx hb dX8_load_81 (by decide) (fun hc7 => ?_) (fun hc7 => ?_)
      · replace hf := ite_t hf hc7
        refine lv_aload_n hx hb dX8_load_85 rfl (lv_at hl 0 rfl) ?_
        refine G_8_87 X hG 0 rfl dX8_load_86 ?_
        refine lv_iload hx hb dX8_load_89 (lv_at hl 4 rfl) ?_
        refine r_iald X hG 0 22 rfl rfl hf dX8_load_91 (fun x8 hf => ?_)
        refine lv_iload hx hb dX8_load_92 (lv_at hl 3 rfl) ?_
        refine jn_use (P := fun (t9 : Int32) => ∀ (H : Heap) (locs : List Loc) (ls : Array Slot), GM g A s.heap H locs [wX8 g o ad t1.2] → lv_has ls 8 [(0, .ref o), (1, .int a1), (3, .int a3), (5, .int t1.1), (6, .int t4.1)] → W p l e rmX8_load s m args below meth c H locs 0 0 Q (F0 m 109 ls [.int t9])) hf (fun t9 hf H locs ls hG hl => ?_) (fun K10 hK10 hf => ?_)
        · refine lv_istore (lv' := [(7, .int t9), (0, .ref o), (1, .int a1), (3, .int a3), (5, .int t1.1), (6, .int t4.1)]) hx hb dX8_load_109 hl (by decide) rfl (fun ls hl => ?_)
          refine lv_aload_n hx hb dX8_load_111 rfl (lv_at hl 1 rfl) ?_
          refine G_8_87 X hG 0 rfl dX8_load_112 ?_
          refine lv_iload hx hb dX8_load_115 (lv_at hl 5 rfl) ?_
          refine lv_dup2_11 hx hb dX8_load_117 rfl rfl ?_
          refine r_iald X hG 0 22 rfl rfl hf dX8_load_118 (fun x11 hf => ?_)
          refine lv_iload hx hb dX8_load_119 (lv_at hl 0 rfl) ?_
          refine lv_isub hx hb dX8_load_121 ?_
          refine r_iast X hG 0 22 rfl rfl hf (fun t => [wX8 g o ad t]) rfl dX8_load_122 (fun z12 H locs hf hG => ?_)
          refine lv_aload_n hx hb dX8_load_123 rfl (lv_at hl 1 rfl) ?_
          refine G_8_96 X hG 0 rfl dX8_load_124 ?_
          refine lv_iload hx hb dX8_load_127 (lv_at hl 5 rfl) ?_
          refine lv_bipush (v := 120) hx hb dX8_load_129 (by decide) ?_
          refine r_idiv X hf dX8_load_131 (fun hf => ?_)
          refine lv_dup2_11 hx hb dX8_load_132 rfl rfl ?_
          refine r_iald X hG 0 25 rfl rfl hf dX8_load_133 (fun x13 hf => ?_)
          refine lv_iload hx hb dX8_load_134 (lv_at hl 0 rfl) ?_
          refine lv_iadd hx hb dX8_load_136 ?_
          refine r_iast X hG 0 25 rfl rfl hf (fun t => [wX8 g o ad t]) rfl dX8_load_137 (fun z14 H locs hf hG => ?_)
          refine lv_aload_n hx hb dX8_load_138 rfl (lv_at hl 1 rfl) ?_
          refine G_8_90 X hG 0 rfl dX8_load_139 ?_
          refine lv_iload_n hx hb dX8_load_142 rfl (lv_at hl 2 rfl) ?_
          refine lv_dup2_11 hx hb dX8_load_143 rfl rfl ?_
          refine r_iald X hG 0 23 rfl rfl hf dX8_load_144 (fun x15 hf => ?_)
          refine lv_iload hx hb dX8_load_145 (lv_at hl 0 rfl) ?_
          refine lv_iadd hx hb dX8_load_147 ?_
          refine r_iast X hG 0 23 rfl rfl hf (fun t => [wX8 g o ad t]) rfl dX8_load_148 (fun z16 H locs hf hG => ?_)
          refine lv_iload hx hb dX8_load_149 (lv_at hl 4 rfl) ?_
          refine lv_iload hx hb dX8_load_151 (lv_at hl 0 rfl) ?_
          refine lv_isub hx hb dX8_load_153 ?_
          refine r_bni hf (fun x17 hf => ?_)
          refine lv_istore (lv' := [(5, .int x17), (7, .int t9), (0, .ref o), (1, .int a1), (3, .int a3), (6, .int t4.1)]) hx hb dX8_load_154 hl (by decide) rfl (fun ls hl => ?_)
          refine lv_goto (tgt := 3) hx hb dX8_load_156 (by decide) ?_
          exact hK2 _ hf _ _ _ hG (lv_sub hl [2, 3, 4, 0] rfl)
        refine lv_icmp_ge (tgt := 107) hx hb dX8_load_94 (by decide) (fun hc18 => ?_) (fun hc18 => ?_)
        · replace hf := ite_t hf hc18
          refine lv_iload hx hb dX8_load_107 (lv_at hl 3 rfl) ?_
          exact hK10 _ hf _ _ _ hG (lv_sub hl [0, 1, 2, 3, 4] rfl)
        · replace hf := ite_f hf hc18
          refine lv_aload_n hx hb dX8_load_97 rfl (lv_at hl 0 rfl) ?_
          refine G_8_87 X hG 0 rfl dX8_load_98 ?_
          refine lv_iload hx hb dX8_load_101 (lv_at hl 4 rfl) ?_
          refine r_iald X hG 0 22 rfl rfl hf dX8_load_103 (fun x19 hf => ?_)
          refine lv_goto (tgt := 109) hx hb dX8_load_104 (by decide) ?_
          exact hK10 _ hf _ _ _ hG (lv_sub hl [0, 1, 2, 3, 4] rfl)
      · replace hf := ite_f hf hc7
        have hq9 := Option.some.inj hf
        subst hq9
        subst hQ
        exact r_vret X hG dX8_load_84
    · replace hf := ite_f hf hc6
      refine lv_aload_n hx hb dX8_load_26 rfl (lv_at hl 0 rfl) ?_
      refine G_8_87 X hG 0 rfl dX8_load_27 ?_
      refine lv_iload hx hb dX8_load_30 (lv_at hl 5 rfl) ?_
      refine r_iald X hG 0 22 rfl rfl hf dX8_load_32 (fun x20 hf => ?_)
      refine jn_use (P := fun (t21 : Int32) => ∀ (H : Heap) (locs : List Loc) (ls : Array Slot), GM g A s.heap H locs [wX8 g o ad t1.2] → lv_has ls 8 [(0, .ref o), (1, .int a1), (3, .int a3), (5, .int t1.1), (6, .int t21), (7, .int t4.2)] → W p l e rmX8_load s m args below meth c H locs 0 0 Q (F0 m 73 ls [])) hf (fun t21 hf H locs ls hG hl => ?_) (fun K22 hK22 hf => ?_)
      · refine lv_iinc (v := (t4.2 + 1)) (lv' := [(7, .int (t4.2 + 1)), (0, .ref o), (1, .int a1), (3, .int a3), (5, .int t1.1), (6, .int t21)]) hx hb dX8_load_73 hl (k := 5) rfl rfl (by decide) rfl (fun ls hl => ?_)
        refine lv_goto (tgt := 14) hx hb dX8_load_76 (by decide) ?_
        exact hK5 _ hf _ _ _ hG (lv_sub hl [1, 2, 3, 4, 5, 0] rfl)
      refine lv_if_le (tgt := 73) hx hb dX8_load_33 (by decide) (fun hc23 => ?_) (fun hc23 => ?_)
      · replace hf := ite_t hf hc23
        exact hK22 _ hf _ _ _ hG (lv_sub hl [0, 1, 2, 3, 4, 5] rfl)
      · replace hf := ite_f hf hc23
        refine lv_iload hx hb dX8_load_36 (lv_at hl 4 rfl) ?_
        refine jn_use (P := fun (t24 : Unit) => ∀ (H : Heap) (locs : List Loc) (ls : Array Slot), GM g A s.heap H locs [wX8 g o ad t1.2] → lv_has ls 8 [(0, .ref o), (1, .int a1), (3, .int a3), (5, .int t1.1), (7, .int t4.2)] → W p l e rmX8_load s m args below meth c H locs 0 0 Q (F0 m 69 ls [])) hf (fun t24 hf H locs ls hG hl => ?_) (fun K25 hK25 hf => ?_)
        · refine lv_iload hx hb dX8_load_69 (lv_at hl 4 rfl) ?_
          refine lv_istore (lv' := [(6, .int t4.2), (0, .ref o), (1, .int a1), (3, .int a3), (5, .int t1.1), (7, .int t4.2)]) hx hb dX8_load_71 hl (by decide) rfl (fun ls hl => ?_)
          exact hK22 _ hf _ _ _ hG (lv_sub hl [1, 2, 3, 4, 0, 5] rfl)
        refine lv_if_lt (tgt := 69) hx hb dX8_load_38 (by decide) (fun hc26 => ?_) (fun hc26 => ?_)
        · replace hf := ite_t hf hc26
          exact hK25 _ hf _ _ _ hG (lv_sub hl [0, 1, 2, 3, 5] rfl)
        · replace hf := ite_f hf hc26
          refine lv_aload_n hx hb dX8_load_41 rfl (lv_at hl 0 rfl) ?_
          refine lv_iload_n hx hb dX8_load_42 rfl (lv_at hl 2 rfl) ?_
          refine lv_iload hx hb dX8_load_43 (lv_at hl 5 rfl) ?_
          refine lv_bipush (v := 120) hx hb dX8_load_45 (by decide) ?_
          refine r_idiv X hf dX8_load_47 (fun hf => ?_)
          refine lv_iload hx hb dX8_load_48 (lv_at hl 5 rfl) ?_
          refine lv_bipush (v := 120) hx hb dX8_load_50 (by decide) ?_
          refine r_irem X hf dX8_load_52 (fun hf => ?_)
          refine lv_iload hx hb dX8_load_53 (lv_at hl 4 rfl) ?_
          refine lv_bipush (v := 120) hx hb dX8_load_55 (by decide) ?_
          refine r_idiv X hf dX8_load_57 (fun hf => ?_)
          refine lv_iload hx hb dX8_load_58 (lv_at hl 4 rfl) ?_
          refine lv_bipush (v := 120) hx hb dX8_load_60 (by decide) ?_
          refine r_irem X hf dX8_load_62 (fun hf => ?_)
          obtain ⟨q27, hq27, hf⟩ := cl_inv hf
          refine r_callVi (bc := [wX8 g o ad t1.2]) (br := []) (bs' := [wX8 g o ad t1.2]) (As := [.int a3, .int (t4.2 / 120), .int (t4.2 - t4.2 / 120 * 120), .int (t4.1 / 120), .int (t4.1 - t4.1 / 120 * 120)]) (rest := []) X hG hl.1 (c_X8_isAhead g l o ad n a3 (t4.2 / 120) (t4.2 - t4.2 / 120 * 120) (t4.1 / 120) (t4.1 - t4.1 / 120 * 120) t1.2 q27 hq27) (List.Perm.refl _) (List.Perm.refl _) lk_X8_isAhead lv_X8_isAhead ml_8_248 (j := 0) (k := 0) rfl rfl rfl rfl rfl ⟨Nat.le_of_ble_eq_true rfl, Nat.le_of_ble_eq_true rfl⟩ rfl rfl (Nat.le_of_ble_eq_true rfl) ⟨Nat.zero_le _, Nat.zero_le _⟩ dX8_load_63 (fun H locs hG => ?_)
          refine lv_if_eq (tgt := 73) hx hb dX8_load_66 (by decide) (fun hc28 => ?_) (fun hc28 => ?_)
          · replace hf := ite_t hf hc28
            exact hK22 _ hf _ _ _ hG (lv_sub hl [0, 1, 2, 3, 4, 5] rfl)
          · replace hf := ite_f hf hc28
            exact hK25 _ hf _ _ _ hG (lv_sub hl [0, 1, 2, 3, 5] rfl)
def rmX8_goMinute : Room := { frames := 2, cells := 0, slots := 0, locals := 52 }
set_option maxHeartbeats 4000000 in
set_option maxRecDepth 100000 in
theorem c_X8_goMinute (g : GT) (l : Launch) (o : Nat) (ad : Nat → Nat) (n : Nat) (a1 : Int32) (a2 : Int32) (s0 : MS) (q : MS) (hf : f_X8_goMinute n a1 a2 s0 = some q) : CV g l yX8_goMinute cX8_goMinute 6 none rmX8_goMinute [.ref o, .int a1, .int a2] [wX8 g o ad s0] [wX8 g o ad q] := by
  refine CV_intro RX8 rfl (by decide +kernel) (Nat.le_of_ble_eq_true rfl) ?_
  intro p e s m args below meth c A ls Q hQ X hl hG
  have hl : lv_has ls 6 [(0, .ref o), (1, .int a1), (2, .int a2)] := hl
  have hx := X.1
  have hb := X.2.1
  have hown := X.2.2.2.1
  unfold f_X8_goMinute at hf
  refine lv_aload_n hx hb dX8_goMinute_0 rfl (lv_at hl 0 rfl) ?_
  obtain ⟨q1, hq1, hf⟩ := cl_inv hf
  refine r_callVi (bc := [wX8 g o ad s0]) (br := []) (bs' := [wX8 g o ad s0]) (As := []) (rest := []) X hG hl.1 (c_X8_waitingNow g l o ad n s0 q1 hq1) (List.Perm.refl _) (List.Perm.refl _) lk_X8_waitingNow lv_X8_waitingNow ml_8_252 (j := 0) (k := 0) rfl rfl rfl rfl rfl ⟨Nat.le_of_ble_eq_true rfl, Nat.le_of_ble_eq_true rfl⟩ rfl rfl (Nat.le_of_ble_eq_true rfl) ⟨Nat.zero_le _, Nat.zero_le _⟩ dX8_goMinute_1 (fun H locs hG => ?_)
  refine lv_istore_n (lv' := [(3, .int q1), (0, .ref o), (1, .int a1), (2, .int a2)]) hx hb dX8_goMinute_4 rfl hl (by decide) rfl (fun ls hl => ?_)
  refine lv_iconst (v := 0) hx hb dX8_goMinute_5 (by decide) ?_
  refine lv_istore (lv' := [(4, .int 0), (3, .int q1), (0, .ref o), (1, .int a1), (2, .int a2)]) hx hb dX8_goMinute_6 hl (by decide) rfl (fun ls hl => ?_)
  refine lp_go (P := fun (t2 : Int32 × MS) => ∀ (H : Heap) (locs : List Loc) (ls : Array Slot), GM g A s.heap H locs [wX8 g o ad t2.2] → lv_has ls 6 [(0, .ref o), (1, .int a1), (2, .int a2), (3, .int q1), (4, .int t2.1)] → W p l e rmX8_goMinute s m args below meth c H locs 0 0 Q (F0 m 8 ls [])) hf (fun K3 hK3 t2 hf H locs ls hG hl => ?_) _ _ _ hG (lv_sub hl [2, 3, 4, 1, 0] rfl)
  refine lv_iload hx hb dX8_goMinute_8 (lv_at hl 4 rfl) ?_
  refine lv_aload_n hx hb dX8_goMinute_10 rfl (lv_at hl 0 rfl) ?_
  refine G_8_129 X hG 0 rfl dX8_goMinute_11 ?_
  refine lv_icmp_ge (tgt := 118) hx hb dX8_goMinute_14 (by decide) (fun hc4 => ?_) (fun hc4 => ?_)
  · replace hf := ite_t hf hc4
    refine lv_iconst (v := 0) hx hb dX8_goMinute_118 (by decide) ?_
    refine lv_istore (lv' := [(4, .int 0), (0, .ref o), (1, .int a1), (2, .int a2), (3, .int q1)]) hx hb dX8_goMinute_119 hl (by decide) rfl (fun ls hl => ?_)
    refine lp_go (P := fun (t5 : Int32 × MS) => ∀ (H : Heap) (locs : List Loc) (ls : Array Slot), GM g A s.heap H locs [wX8 g o ad t5.2] → lv_has ls 6 [(0, .ref o), (1, .int a1), (2, .int a2), (4, .int t5.1)] → W p l e rmX8_goMinute s m args below meth c H locs 0 0 Q (F0 m 121 ls [])) hf (fun K6 hK6 t5 hf H locs ls hG hl => ?_) _ _ _ hG (lv_sub hl [1, 2, 3, 0] rfl)
    refine lv_iload hx hb dX8_goMinute_121 (lv_at hl 3 rfl) ?_
    refine lv_aload_n hx hb dX8_goMinute_123 rfl (lv_at hl 0 rfl) ?_
    refine G_8_129 X hG 0 rfl dX8_goMinute_124 ?_
    refine lv_icmp_ge (tgt := 178) hx hb dX8_goMinute_127 (by decide) (fun hc7 => ?_) (fun hc7 => ?_)
    · replace hf := ite_t hf hc7
      refine lv_iconst (v := 0) hx hb dX8_goMinute_178 (by decide) ?_
      refine lv_istore (lv' := [(4, .int 0), (0, .ref o), (1, .int a1), (2, .int a2)]) hx hb dX8_goMinute_179 hl (by decide) rfl (fun ls hl => ?_)
      refine lp_go (P := fun (t8 : Int32 × MS) => ∀ (H : Heap) (locs : List Loc) (ls : Array Slot), GM g A s.heap H locs [wX8 g o ad t8.2] → lv_has ls 6 [(0, .ref o), (1, .int a1), (2, .int a2), (4, .int t8.1)] → W p l e rmX8_goMinute s m args below meth c H locs 0 0 Q (F0 m 181 ls [])) hf (fun K9 hK9 t8 hf H locs ls hG hl => ?_) _ _ _ hG (lv_sub hl [1, 2, 3, 0] rfl)
      refine lv_iload hx hb dX8_goMinute_181 (lv_at hl 3 rfl) ?_
      refine lv_aload_n hx hb dX8_goMinute_183 rfl (lv_at hl 0 rfl) ?_
      refine G_8_266 X hG 0 rfl dX8_goMinute_184 ?_
      refine lv_icmp_ge (tgt := 266) hx hb dX8_goMinute_187 (by decide) (fun hc10 => ?_) (fun hc10 => ?_)
      · replace hf := ite_t hf hc10
        refine lv_aload_n hx hb dX8_goMinute_266 rfl (lv_at hl 0 rfl) ?_
        obtain ⟨q11, hq11, hf⟩ := cl_inv hf
        refine r_callVi (bc := [wX8 g o ad t8.2]) (br := []) (bs' := [wX8 g o ad t8.2]) (As := []) (rest := []) X hG hl.1 (c_X8_waitingNow g l o ad n t8.2 q11 hq11) (List.Perm.refl _) (List.Perm.refl _) lk_X8_waitingNow lv_X8_waitingNow ml_8_252 (j := 0) (k := 0) rfl rfl rfl rfl rfl ⟨Nat.le_of_ble_eq_true rfl, Nat.le_of_ble_eq_true rfl⟩ rfl rfl (Nat.le_of_ble_eq_true rfl) ⟨Nat.zero_le _, Nat.zero_le _⟩ dX8_goMinute_267 (fun H locs hG => ?_)
        refine lv_istore (lv' := [(4, .int q11), (0, .ref o), (1, .int a1), (2, .int a2)]) hx hb dX8_goMinute_270 hl (by decide) rfl (fun ls hl => ?_)
        refine lv_iload hx hb dX8_goMinute_272 (lv_at hl 0 rfl) ?_
        refine lv_aload_n hx hb dX8_goMinute_274 rfl (lv_at hl 1 rfl) ?_
        refine G_8_280 X hG 0 rfl dX8_goMinute_275 ?_
        refine jn_use (P := fun (t12 : MS) => ∀ (H : Heap) (locs : List Loc) (ls : Array Slot), GM g A s.heap H locs [wX8 g o ad t12] → lv_has ls 6 [(0, .ref o), (2, .int a2)] → W p l e rmX8_goMinute s m args below meth c H locs 0 0 Q (F0 m 292 ls [])) hf (fun t12 hf H locs ls hG hl => ?_) (fun K13 hK13 hf => ?_)
        · refine lv_iconst (v := 0) hx hb dX8_goMinute_292 (by decide) ?_
          refine lv_istore (lv' := [(5, .int 0), (0, .ref o), (2, .int a2)]) hx hb dX8_goMinute_293 hl (by decide) rfl (fun ls hl => ?_)
          refine lp_go (P := fun (t14 : Int32 × MS) => ∀ (H : Heap) (locs : List Loc) (ls : Array Slot), GM g A s.heap H locs [wX8 g o ad t14.2] → lv_has ls 6 [(0, .ref o), (2, .int a2), (5, .int t14.1)] → W p l e rmX8_goMinute s m args below meth c H locs 0 0 Q (F0 m 295 ls [])) hf (fun K15 hK15 t14 hf H locs ls hG hl => ?_) _ _ _ hG (lv_sub hl [1, 2, 0] rfl)
          refine lv_iload hx hb dX8_goMinute_295 (lv_at hl 2 rfl) ?_
          refine lv_aload_n hx hb dX8_goMinute_297 rfl (lv_at hl 0 rfl) ?_
          refine G_8_129 X hG 0 rfl dX8_goMinute_298 ?_
          refine lv_icmp_ge (tgt := 329) hx hb dX8_goMinute_301 (by decide) (fun hc16 => ?_) (fun hc16 => ?_)
          · replace hf := ite_t hf hc16
            have hq9 := Option.some.inj hf
            subst hq9
            subst hQ
            exact r_vret X hG dX8_goMinute_329
          · replace hf := ite_f hf hc16
            refine lv_aload_n hx hb dX8_goMinute_304 rfl (lv_at hl 0 rfl) ?_
            refine G_8_93 X hG 0 rfl dX8_goMinute_305 ?_
            refine lv_bipush (v := 120) hx hb dX8_goMinute_308 (by decide) ?_
            refine lv_iload hx hb dX8_goMinute_310 (lv_at hl 2 rfl) ?_
            refine lv_imul hx hb dX8_goMinute_312 ?_
            refine lv_iload_n hx hb dX8_goMinute_313 rfl (lv_at hl 1 rfl) ?_
            refine lv_iadd hx hb dX8_goMinute_314 ?_
            refine lv_aload_n hx hb dX8_goMinute_315 rfl (lv_at hl 0 rfl) ?_
            refine G_8_96 X hG 0 rfl dX8_goMinute_316 ?_
            refine lv_iload hx hb dX8_goMinute_319 (lv_at hl 2 rfl) ?_
            refine r_iald X hG 0 25 rfl rfl hf dX8_goMinute_321 (fun x17 hf => ?_)
            refine r_iast X hG 0 24 rfl rfl hf (fun t => [wX8 g o ad t]) rfl dX8_goMinute_322 (fun z18 H locs hf hG => ?_)
            refine lv_iinc (v := (t14.1 + 1)) (lv' := [(5, .int (t14.1 + 1)), (0, .ref o), (2, .int a2)]) hx hb dX8_goMinute_323 hl (k := 2) rfl rfl (by decide) rfl (fun ls hl => ?_)
            refine lv_goto (tgt := 295) hx hb dX8_goMinute_326 (by decide) ?_
            exact hK15 _ hf _ _ _ hG (lv_sub hl [1, 2, 0] rfl)
        refine lv_icmp_le (tgt := 292) hx hb dX8_goMinute_278 (by decide) (fun hc19 => ?_) (fun hc19 => ?_)
        · replace hf := ite_t hf hc19
          exact hK13 _ hf _ _ _ hG (lv_sub hl [1, 3] rfl)
        · replace hf := ite_f hf hc19
          refine lv_aload_n hx hb dX8_goMinute_281 rfl (lv_at hl 1 rfl) ?_
          refine lv_iload hx hb dX8_goMinute_282 (lv_at hl 0 rfl) ?_
          refine P_8_280 X hG 0 rfl hf (fun t => [wX8 g o ad t]) (fun _ => rfl) dX8_goMinute_284 (fun z20 H locs hf hG => ?_)
          refine lv_aload_n hx hb dX8_goMinute_287 rfl (lv_at hl 1 rfl) ?_
          refine lv_iload_n hx hb dX8_goMinute_288 rfl (lv_at hl 3 rfl) ?_
          refine P_8_283 X hG 0 rfl hf (fun t => [wX8 g o ad t]) (fun _ => rfl) dX8_goMinute_289 (fun z21 H locs hf hG => ?_)
          exact hK13 _ hf _ _ _ hG (lv_sub hl [1, 3] rfl)
      · replace hf := ite_f hf hc10
        refine lv_aload_n hx hb dX8_goMinute_190 rfl (lv_at hl 0 rfl) ?_
        refine lv_iload hx hb dX8_goMinute_191 (lv_at hl 3 rfl) ?_
        refine lv_iload_n hx hb dX8_goMinute_193 rfl (lv_at hl 2 rfl) ?_
        obtain ⟨q22, hq22, hf⟩ := cl_inv hf
        refine r_callVi (bc := [wX8 g o ad t8.2]) (br := []) (bs' := [wX8 g o ad t8.2]) (As := [.int t8.1, .int a2]) (rest := []) X hG hl.1 (c_X8_goes g l o ad n t8.1 a2 t8.2 q22 hq22) (List.Perm.refl _) (List.Perm.refl _) lk_X8_goes lv_X8_goes ml_8_269 (j := 0) (k := 0) rfl rfl rfl rfl rfl ⟨Nat.le_of_ble_eq_true rfl, Nat.le_of_ble_eq_true rfl⟩ rfl rfl (Nat.le_of_ble_eq_true rfl) ⟨Nat.zero_le _, Nat.zero_le _⟩ dX8_goMinute_194 (fun H locs hG => ?_)
        refine jn_use (P := fun (t23 : MS) => ∀ (H : Heap) (locs : List Loc) (ls : Array Slot), GM g A s.heap H locs [wX8 g o ad t23] → lv_has ls 6 [(0, .ref o), (1, .int a1), (2, .int a2), (4, .int t8.1)] → W p l e rmX8_goMinute s m args below meth c H locs 0 0 Q (F0 m 260 ls [])) hf (fun t23 hf H locs ls hG hl => ?_) (fun K24 hK24 hf => ?_)
        · refine lv_iinc (v := (t8.1 + 1)) (lv' := [(4, .int (t8.1 + 1)), (0, .ref o), (1, .int a1), (2, .int a2)]) hx hb dX8_goMinute_260 hl (k := 3) rfl rfl (by decide) rfl (fun ls hl => ?_)
          refine lv_goto (tgt := 181) hx hb dX8_goMinute_263 (by decide) ?_
          exact hK9 _ hf _ _ _ hG (lv_sub hl [1, 2, 3, 0] rfl)
        refine lv_if_ne (tgt := 203) hx hb dX8_goMinute_197 (by decide) (fun hc25 => ?_) (fun hc25 => ?_)
        · replace hf := ite_f hf hc25
          refine lv_aload_n hx hb dX8_goMinute_203 rfl (lv_at hl 0 rfl) ?_
          refine lv_iload_n hx hb dX8_goMinute_204 rfl (lv_at hl 1 rfl) ?_
          refine lv_iconst (v := 0) hx hb dX8_goMinute_205 (by decide) ?_
          refine lv_iload_n hx hb dX8_goMinute_206 rfl (lv_at hl 2 rfl) ?_
          refine lv_aload_n hx hb dX8_goMinute_207 rfl (lv_at hl 0 rfl) ?_
          obtain ⟨q26, hq26, hf⟩ := cl_inv hf
          refine r_callVi (bc := [wX8 g o ad t8.2]) (br := []) (bs' := [wX8 g o ad t8.2]) (As := []) (rest := [.int a2, .int 0, .int a1, .ref o]) X hG hl.1 (c_X8_waitingNow g l o ad n t8.2 q26 hq26) (List.Perm.refl _) (List.Perm.refl _) lk_X8_waitingNow lv_X8_waitingNow ml_8_252 (j := 0) (k := 0) rfl rfl rfl rfl rfl ⟨Nat.le_of_ble_eq_true rfl, Nat.le_of_ble_eq_true rfl⟩ rfl rfl (Nat.le_of_ble_eq_true rfl) ⟨Nat.zero_le _, Nat.zero_le _⟩ dX8_goMinute_208 (fun H locs hG => ?_)
          refine lv_aload_n hx hb dX8_goMinute_211 rfl (lv_at hl 0 rfl) ?_
          refine G_8_43 X hG 0 rfl dX8_goMinute_212 ?_
          refine lv_iload_n hx hb dX8_goMinute_215 rfl (lv_at hl 2 rfl) ?_
          refine lv_isub hx hb dX8_goMinute_216 ?_
          obtain ⟨q27, hq27, hf⟩ := cl_inv hf
          refine r_callVv (bc := [wX8 g o ad t8.2]) (br := []) (bs' := [wX8 g o ad q27]) (As := [.int a1, .int 0, .int a2, .int q26, .int ((t8.2.1 15) - a2)]) (rest := []) X hG hl.1 (c_X8_findFacts g l o ad n a1 0 a2 q26 ((t8.2.1 15) - a2) t8.2 q27 hq27) (List.Perm.refl _) (List.Perm.refl _) lk_X8_findFacts lv_X8_findFacts ml_8_255 (j := 0) (k := 0) rfl rfl rfl rfl rfl ⟨Nat.le_of_ble_eq_true rfl, Nat.le_of_ble_eq_true rfl⟩ rfl rfl (Nat.le_of_ble_eq_true rfl) ⟨Nat.zero_le _, Nat.zero_le _⟩ dX8_goMinute_217 (fun H locs hG => ?_)
          refine lv_aload_n hx hb dX8_goMinute_220 rfl (lv_at hl 0 rfl) ?_
          refine G_8_22 X hG 0 rfl dX8_goMinute_221 ?_
          refine lv_iload hx hb dX8_goMinute_224 (lv_at hl 3 rfl) ?_
          refine r_iald X hG 0 5 rfl rfl hf dX8_goMinute_226 (fun x28 hf => ?_)
          refine lv_aload_n hx hb dX8_goMinute_227 rfl (lv_at hl 0 rfl) ?_
          refine lv_iconst (v := 1) hx hb dX8_goMinute_228 (by decide) ?_
          obtain ⟨q29, hq29, hf⟩ := cl_inv hf
          refine r_callVi (bc := [wX8 g o ad q27]) (br := []) (bs' := [wX8 g o ad q29.2]) (As := [.int 1]) (rest := [.int x28]) X hG hl.1 (c_X8_gives g l o ad n 1 q27 q29 hq29) (List.Perm.refl _) (List.Perm.refl _) lk_X8_gives lv_X8_gives ml_8_259 (j := 0) (k := 0) rfl rfl rfl rfl rfl ⟨Nat.le_of_ble_eq_true rfl, Nat.le_of_ble_eq_true rfl⟩ rfl rfl (Nat.le_of_ble_eq_true rfl) ⟨Nat.zero_le _, Nat.zero_le _⟩ dX8_goMinute_229 (fun H locs hG => ?_)
          refine lv_iconst (v := 0) hx hb dX8_goMinute_232 (by decide) ?_
          refine lv_bipush (v := 60) hx hb dX8_goMinute_233 (by decide) ?_
          obtain ⟨q30, hq30, hf⟩ := cl_inv hf
          refine r_callSi (bc := []) (br := [wX8 g o ad q29.2]) (bs' := [wX8 g o ad q29.2]) (As := [.int q29.1, .int 0, .int 60]) (rest := [.int x28]) X hG hl.1 (c_X8_held g l  n q29.1 0 60 q30 hq30) (List.Perm.refl _) (List.Perm.refl _) lk_X8_held ls_X8_held ml_8_263 rfl rfl ⟨Nat.le_of_ble_eq_true rfl, Nat.le_of_ble_eq_true rfl⟩ rfl rfl (Nat.le_of_ble_eq_true rfl) ⟨Nat.zero_le _, Nat.zero_le _⟩ dX8_goMinute_235 (fun H locs hG => ?_)
          refine lv_isub hx hb dX8_goMinute_238 ?_
          refine r_bni hf (fun x31 hf => ?_)
          refine lv_istore (lv' := [(5, .int x31), (0, .ref o), (1, .int a1), (2, .int a2), (4, .int t8.1)]) hx hb dX8_goMinute_239 hl (by decide) rfl (fun ls hl => ?_)
          refine lv_iload hx hb dX8_goMinute_241 (lv_at hl 0 rfl) ?_
          refine lv_if_le (tgt := 260) hx hb dX8_goMinute_243 (by decide) (fun hc32 => ?_) (fun hc32 => ?_)
          · replace hf := ite_t hf hc32
            exact hK24 _ hf _ _ _ hG (lv_sub hl [1, 2, 3, 4] rfl)
          · replace hf := ite_f hf hc32
            refine lv_aload_n hx hb dX8_goMinute_246 rfl (lv_at hl 1 rfl) ?_
            refine lv_iload hx hb dX8_goMinute_247 (lv_at hl 4 rfl) ?_
            refine lv_iload hx hb dX8_goMinute_249 (lv_at hl 0 rfl) ?_
            refine lv_aload_n hx hb dX8_goMinute_251 rfl (lv_at hl 1 rfl) ?_
            refine lv_iload_n hx hb dX8_goMinute_252 rfl (lv_at hl 2 rfl) ?_
            obtain ⟨q33, hq33, hf⟩ := cl_inv hf
            refine r_callVi (bc := [wX8 g o ad q29.2]) (br := []) (bs' := [wX8 g o ad q29.2]) (As := [.int a1]) (rest := [.int x31, .int t8.1, .ref o]) X hG hl.1 (c_X8_orderOf g l o ad n a1 q29.2 q33 hq33) (List.Perm.refl _) (List.Perm.refl _) lk_X8_orderOf lv_X8_orderOf ml_8_273 (j := 0) (k := 0) rfl rfl rfl rfl rfl ⟨Nat.le_of_ble_eq_true rfl, Nat.le_of_ble_eq_true rfl⟩ rfl rfl (Nat.le_of_ble_eq_true rfl) ⟨Nat.zero_le _, Nat.zero_le _⟩ dX8_goMinute_253 (fun H locs hG => ?_)
            refine lv_iload_n hx hb dX8_goMinute_256 rfl (lv_at hl 3 rfl) ?_
            obtain ⟨q34, hq34, hf⟩ := cl_inv hf
            refine r_callVv (bc := [wX8 g o ad q29.2]) (br := []) (bs' := [wX8 g o ad q34]) (As := [.int t8.1, .int x31, .int q33, .int a2]) (rest := []) X hG hl.1 (c_X8_load g l o ad n t8.1 x31 q33 a2 q29.2 q34 hq34) (List.Perm.refl _) (List.Perm.refl _) lk_X8_load lv_X8_load ml_8_276 (j := 0) (k := 0) rfl rfl rfl rfl rfl ⟨Nat.le_of_ble_eq_true rfl, Nat.le_of_ble_eq_true rfl⟩ rfl rfl (Nat.le_of_ble_eq_true rfl) ⟨Nat.zero_le _, Nat.zero_le _⟩ dX8_goMinute_257 (fun H locs hG => ?_)
            exact hK24 _ hf _ _ _ hG (lv_sub hl [1, 2, 3, 4] rfl)
        · replace hf := ite_t hf hc25
          refine lv_goto (tgt := 260) hx hb dX8_goMinute_200 (by decide) ?_
          exact hK24 _ hf _ _ _ hG (lv_sub hl [0, 1, 2, 3] rfl)
    · replace hf := ite_f hf hc7
      refine lv_aload_n hx hb dX8_goMinute_130 rfl (lv_at hl 0 rfl) ?_
      refine G_8_87 X hG 0 rfl dX8_goMinute_131 ?_
      refine lv_bipush (v := 120) hx hb dX8_goMinute_134 (by decide) ?_
      refine lv_iload hx hb dX8_goMinute_136 (lv_at hl 3 rfl) ?_
      refine lv_imul hx hb dX8_goMinute_138 ?_
      refine lv_iload_n hx hb dX8_goMinute_139 rfl (lv_at hl 2 rfl) ?_
      refine lv_iadd hx hb dX8_goMinute_140 ?_
      refine lv_dup2_11 hx hb dX8_goMinute_141 rfl rfl ?_
      refine r_iald X hG 0 22 rfl rfl hf dX8_goMinute_142 (fun x35 hf => ?_)
      refine lv_aload_n hx hb dX8_goMinute_143 rfl (lv_at hl 0 rfl) ?_
      refine G_8_84 X hG 0 rfl dX8_goMinute_144 ?_
      refine lv_sipush (v := 160) hx hb dX8_goMinute_147 (by decide) ?_
      refine lv_iload hx hb dX8_goMinute_150 (lv_at hl 3 rfl) ?_
      refine lv_imul hx hb dX8_goMinute_152 ?_
      refine lv_iload_n hx hb dX8_goMinute_153 rfl (lv_at hl 2 rfl) ?_
      refine lv_iadd hx hb dX8_goMinute_154 ?_
      refine r_iald X hG 0 21 rfl rfl hf dX8_goMinute_155 (fun x36 hf => ?_)
      refine lv_iadd hx hb dX8_goMinute_156 ?_
      refine r_iast X hG 0 22 rfl rfl hf (fun t => [wX8 g o ad t]) rfl dX8_goMinute_157 (fun z37 H locs hf hG => ?_)
      refine lv_aload_n hx hb dX8_goMinute_158 rfl (lv_at hl 0 rfl) ?_
      refine G_8_84 X hG 0 rfl dX8_goMinute_159 ?_
      refine lv_sipush (v := 160) hx hb dX8_goMinute_162 (by decide) ?_
      refine lv_iload hx hb dX8_goMinute_165 (lv_at hl 3 rfl) ?_
      refine lv_imul hx hb dX8_goMinute_167 ?_
      refine lv_iload_n hx hb dX8_goMinute_168 rfl (lv_at hl 2 rfl) ?_
      refine lv_iadd hx hb dX8_goMinute_169 ?_
      refine lv_iconst (v := 0) hx hb dX8_goMinute_170 (by decide) ?_
      refine r_iast X hG 0 21 rfl rfl hf (fun t => [wX8 g o ad t]) rfl dX8_goMinute_171 (fun z38 H locs hf hG => ?_)
      refine lv_iinc (v := (t5.1 + 1)) (lv' := [(4, .int (t5.1 + 1)), (0, .ref o), (1, .int a1), (2, .int a2)]) hx hb dX8_goMinute_172 hl (k := 3) rfl rfl (by decide) rfl (fun ls hl => ?_)
      refine lv_goto (tgt := 121) hx hb dX8_goMinute_175 (by decide) ?_
      exact hK6 _ hf _ _ _ hG (lv_sub hl [1, 2, 3, 0] rfl)
  · replace hf := ite_f hf hc4
    refine lv_aload_n hx hb dX8_goMinute_17 rfl (lv_at hl 0 rfl) ?_
    refine lv_iload_n hx hb dX8_goMinute_18 rfl (lv_at hl 1 rfl) ?_
    refine lv_iload hx hb dX8_goMinute_19 (lv_at hl 4 rfl) ?_
    refine lv_iload_n hx hb dX8_goMinute_21 rfl (lv_at hl 2 rfl) ?_
    refine lv_iload_n hx hb dX8_goMinute_22 rfl (lv_at hl 3 rfl) ?_
    refine lv_aload_n hx hb dX8_goMinute_23 rfl (lv_at hl 0 rfl) ?_
    refine G_8_43 X hG 0 rfl dX8_goMinute_24 ?_
    refine lv_iload_n hx hb dX8_goMinute_27 rfl (lv_at hl 2 rfl) ?_
    refine lv_isub hx hb dX8_goMinute_28 ?_
    obtain ⟨q39, hq39, hf⟩ := cl_inv hf
    refine r_callVv (bc := [wX8 g o ad t2.2]) (br := []) (bs' := [wX8 g o ad q39]) (As := [.int a1, .int t2.1, .int a2, .int q1, .int ((t2.2.1 15) - a2)]) (rest := []) X hG hl.1 (c_X8_findFacts g l o ad n a1 t2.1 a2 q1 ((t2.2.1 15) - a2) t2.2 q39 hq39) (List.Perm.refl _) (List.Perm.refl _) lk_X8_findFacts lv_X8_findFacts ml_8_255 (j := 0) (k := 0) rfl rfl rfl rfl rfl ⟨Nat.le_of_ble_eq_true rfl, Nat.le_of_ble_eq_true rfl⟩ rfl rfl (Nat.le_of_ble_eq_true rfl) ⟨Nat.zero_le _, Nat.zero_le _⟩ dX8_goMinute_29 (fun H locs hG => ?_)
    refine lv_aload_n hx hb dX8_goMinute_32 rfl (lv_at hl 0 rfl) ?_
    refine G_8_81 X hG 0 rfl dX8_goMinute_33 ?_
    refine lv_iload hx hb dX8_goMinute_36 (lv_at hl 4 rfl) ?_
    refine r_iald X hG 0 20 rfl rfl hf dX8_goMinute_38 (fun x40 hf => ?_)
    refine lv_aload_n hx hb dX8_goMinute_39 rfl (lv_at hl 0 rfl) ?_
    refine G_8_16 X hG 0 rfl dX8_goMinute_40 ?_
    refine lv_iload hx hb dX8_goMinute_43 (lv_at hl 4 rfl) ?_
    refine r_iald X hG 0 3 rfl rfl hf dX8_goMinute_45 (fun x41 hf => ?_)
    refine r_idiv X hf dX8_goMinute_46 (fun hf => ?_)
    refine lv_aload_n hx hb dX8_goMinute_47 rfl (lv_at hl 0 rfl) ?_
    refine lv_iconst (v := 0) hx hb dX8_goMinute_48 (by decide) ?_
    obtain ⟨q42, hq42, hf⟩ := cl_inv hf
    refine r_callVi (bc := [wX8 g o ad q39]) (br := []) (bs' := [wX8 g o ad q42.2]) (As := [.int 0]) (rest := [.int (x40 / x41)]) X hG hl.1 (c_X8_gives g l o ad n 0 q39 q42 hq42) (List.Perm.refl _) (List.Perm.refl _) lk_X8_gives lv_X8_gives ml_8_259 (j := 0) (k := 0) rfl rfl rfl rfl rfl ⟨Nat.le_of_ble_eq_true rfl, Nat.le_of_ble_eq_true rfl⟩ rfl rfl (Nat.le_of_ble_eq_true rfl) ⟨Nat.zero_le _, Nat.zero_le _⟩ dX8_goMinute_49 (fun H locs hG => ?_)
    refine lv_bipush (v := (-99)) hx hb dX8_goMinute_52 (by decide) ?_
    refine lv_sipush (v := 400) hx hb dX8_goMinute_54 (by decide) ?_
    obtain ⟨q43, hq43, hf⟩ := cl_inv hf
    refine r_callSi (bc := []) (br := [wX8 g o ad q42.2]) (bs' := [wX8 g o ad q42.2]) (As := [.int q42.1, .int (-99), .int 400]) (rest := [.int (x40 / x41)]) X hG hl.1 (c_X8_held g l  n q42.1 (-99) 400 q43 hq43) (List.Perm.refl _) (List.Perm.refl _) lk_X8_held ls_X8_held ml_8_263 rfl rfl ⟨Nat.le_of_ble_eq_true rfl, Nat.le_of_ble_eq_true rfl⟩ rfl rfl (Nat.le_of_ble_eq_true rfl) ⟨Nat.zero_le _, Nat.zero_le _⟩ dX8_goMinute_57 (fun H locs hG => ?_)
    refine lv_iadd hx hb dX8_goMinute_60 ?_
    refine lv_iconst (v := 0) hx hb dX8_goMinute_61 (by decide) ?_
    refine lv_aload_n hx hb dX8_goMinute_62 rfl (lv_at hl 0 rfl) ?_
    refine G_8_81 X hG 0 rfl dX8_goMinute_63 ?_
    refine lv_iload hx hb dX8_goMinute_66 (lv_at hl 4 rfl) ?_
    refine r_iald X hG 0 20 rfl rfl hf dX8_goMinute_68 (fun x44 hf => ?_)
    obtain ⟨q45, hq45, hf⟩ := cl_inv hf
    refine r_callSi (bc := []) (br := [wX8 g o ad q42.2]) (bs' := [wX8 g o ad q42.2]) (As := [.int ((x40 / x41) + q43), .int 0, .int x44]) (rest := []) X hG hl.1 (c_X8_held g l  n ((x40 / x41) + q43) 0 x44 q45 hq45) (List.Perm.refl _) (List.Perm.refl _) lk_X8_held ls_X8_held ml_8_263 rfl rfl ⟨Nat.le_of_ble_eq_true rfl, Nat.le_of_ble_eq_true rfl⟩ rfl rfl (Nat.le_of_ble_eq_true rfl) ⟨Nat.zero_le _, Nat.zero_le _⟩ dX8_goMinute_69 (fun H locs hG => ?_)
    refine lv_istore (lv' := [(5, .int q45), (0, .ref o), (1, .int a1), (2, .int a2), (3, .int q1), (4, .int t2.1)]) hx hb dX8_goMinute_72 hl (by decide) rfl (fun ls hl => ?_)
    refine lv_aload_n hx hb dX8_goMinute_74 rfl (lv_at hl 1 rfl) ?_
    refine G_8_81 X hG 0 rfl dX8_goMinute_75 ?_
    refine lv_iload hx hb dX8_goMinute_78 (lv_at hl 5 rfl) ?_
    refine lv_dup2_11 hx hb dX8_goMinute_80 rfl rfl ?_
    refine r_iald X hG 0 20 rfl rfl hf dX8_goMinute_81 (fun x46 hf => ?_)
    refine lv_iload hx hb dX8_goMinute_82 (lv_at hl 0 rfl) ?_
    refine lv_isub hx hb dX8_goMinute_84 ?_
    refine r_iast X hG 0 20 rfl rfl hf (fun t => [wX8 g o ad t]) rfl dX8_goMinute_85 (fun z47 H locs hf hG => ?_)
    refine lv_aload_n hx hb dX8_goMinute_86 rfl (lv_at hl 1 rfl) ?_
    refine G_8_84 X hG 0 rfl dX8_goMinute_87 ?_
    refine lv_sipush (v := 160) hx hb dX8_goMinute_90 (by decide) ?_
    refine lv_iload hx hb dX8_goMinute_93 (lv_at hl 5 rfl) ?_
    refine lv_imul hx hb dX8_goMinute_95 ?_
    refine lv_iload_n hx hb dX8_goMinute_96 rfl (lv_at hl 3 rfl) ?_
    refine lv_iadd hx hb dX8_goMinute_97 ?_
    refine lv_aload_n hx hb dX8_goMinute_98 rfl (lv_at hl 1 rfl) ?_
    refine G_8_13 X hG 0 rfl dX8_goMinute_99 ?_
    refine lv_iload hx hb dX8_goMinute_102 (lv_at hl 5 rfl) ?_
    refine r_iald X hG 0 2 rfl rfl hf dX8_goMinute_104 (fun x48 hf => ?_)
    refine lv_iadd hx hb dX8_goMinute_105 ?_
    refine lv_dup2_11 hx hb dX8_goMinute_106 rfl rfl ?_
    refine r_iald X hG 0 21 rfl rfl hf dX8_goMinute_107 (fun x49 hf => ?_)
    refine lv_iload hx hb dX8_goMinute_108 (lv_at hl 0 rfl) ?_
    refine lv_iadd hx hb dX8_goMinute_110 ?_
    refine r_iast X hG 0 21 rfl rfl hf (fun t => [wX8 g o ad t]) rfl dX8_goMinute_111 (fun z50 H locs hf hG => ?_)
    refine lv_iinc (v := (t2.1 + 1)) (lv' := [(4, .int (t2.1 + 1)), (5, .int q45), (0, .ref o), (1, .int a1), (2, .int a2), (3, .int q1)]) hx hb dX8_goMinute_112 hl (k := 5) rfl rfl (by decide) rfl (fun ls hl => ?_)
    refine lv_goto (tgt := 8) hx hb dX8_goMinute_115 (by decide) ?_
    exact hK3 _ hf _ _ _ hG (lv_sub hl [2, 3, 4, 5, 0] rfl)
def rmX8_day : Room := { frames := 3, cells := 0, slots := 0, locals := 77 }
set_option maxHeartbeats 4000000 in
set_option maxRecDepth 100000 in
theorem c_X8_day (g : GT) (l : Launch) (o : Nat) (ad : Nat → Nat) (n : Nat) (a1 : Int32) (a2 : Int32) (s0 : MS) (q : MS) (hf : f_X8_day n a1 a2 s0 = some q) : CV g l yX8_day cX8_day 4 none rmX8_day [.ref o, .int a1, .int a2] [wX8 g o ad s0] [wX8 g o ad q] := by
  refine CV_intro RX8 rfl (by decide +kernel) (Nat.le_of_ble_eq_true rfl) ?_
  intro p e s m args below meth c A ls Q hQ X hl hG
  have hl : lv_has ls 4 [(0, .ref o), (1, .int a1), (2, .int a2)] := hl
  have hx := X.1
  have hb := X.2.1
  have hown := X.2.2.2.1
  unfold f_X8_day at hf
  refine lv_aload_n hx hb dX8_day_0 rfl (lv_at hl 0 rfl) ?_
  refine lv_iload_n hx hb dX8_day_1 rfl (lv_at hl 2 rfl) ?_
  refine P_8_266 X hG 0 rfl hf (fun t => [wX8 g o ad t]) (fun _ => rfl) dX8_day_2 (fun z1 H locs hf hG => ?_)
  refine lv_aload_n hx hb dX8_day_5 rfl (lv_at hl 0 rfl) ?_
  refine lv_iconst (v := 0) hx hb dX8_day_6 (by decide) ?_
  refine P_8_280 X hG 0 rfl hf (fun t => [wX8 g o ad t]) (fun _ => rfl) dX8_day_7 (fun z2 H locs hf hG => ?_)
  refine lv_aload_n hx hb dX8_day_10 rfl (lv_at hl 0 rfl) ?_
  refine lv_iconst (v := 0) hx hb dX8_day_11 (by decide) ?_
  refine P_8_283 X hG 0 rfl hf (fun t => [wX8 g o ad t]) (fun _ => rfl) dX8_day_12 (fun z3 H locs hf hG => ?_)
  refine lv_iconst (v := 0) hx hb dX8_day_15 (by decide) ?_
  refine lv_istore_n (lv' := [(3, .int 0), (0, .ref o), (1, .int a1), (2, .int a2)]) hx hb dX8_day_16 rfl hl (by decide) rfl (fun ls hl => ?_)
  refine lp_go (P := fun (t4 : Int32 × MS) => ∀ (H : Heap) (locs : List Loc) (ls : Array Slot), GM g A s.heap H locs [wX8 g o ad t4.2] → lv_has ls 4 [(0, .ref o), (1, .int a1), (3, .int t4.1)] → W p l e rmX8_day s m args below meth c H locs 0 0 Q (F0 m 17 ls [])) hf (fun K5 hK5 t4 hf H locs ls hG hl => ?_) _ _ _ hG (lv_sub hl [1, 2, 0] rfl)
  refine lv_iload_n hx hb dX8_day_17 rfl (lv_at hl 2 rfl) ?_
  refine lv_sipush (v := 960) hx hb dX8_day_18 (by decide) ?_
  refine lv_icmp_ge (tgt := 37) hx hb dX8_day_21 (by decide) (fun hc6 => ?_) (fun hc6 => ?_)
  · replace hf := ite_t hf hc6
    refine lv_iconst (v := 0) hx hb dX8_day_37 (by decide) ?_
    refine lv_istore_n (lv' := [(3, .int 0), (0, .ref o), (1, .int a1)]) hx hb dX8_day_38 rfl hl (by decide) rfl (fun ls hl => ?_)
    refine lp_go (P := fun (t7 : Int32 × MS) => ∀ (H : Heap) (locs : List Loc) (ls : Array Slot), GM g A s.heap H locs [wX8 g o ad t7.2] → lv_has ls 4 [(0, .ref o), (1, .int a1), (3, .int t7.1)] → W p l e rmX8_day s m args below meth c H locs 0 0 Q (F0 m 39 ls [])) hf (fun K8 hK8 t7 hf H locs ls hG hl => ?_) _ _ _ hG (lv_sub hl [1, 2, 0] rfl)
    refine lv_iload_n hx hb dX8_day_39 rfl (lv_at hl 2 rfl) ?_
    refine lv_sipush (v := 720) hx hb dX8_day_40 (by decide) ?_
    refine lv_icmp_ge (tgt := 59) hx hb dX8_day_43 (by decide) (fun hc9 => ?_) (fun hc9 => ?_)
    · replace hf := ite_t hf hc9
      refine lv_iconst (v := 0) hx hb dX8_day_59 (by decide) ?_
      refine lv_istore_n (lv' := [(3, .int 0), (0, .ref o), (1, .int a1)]) hx hb dX8_day_60 rfl hl (by decide) rfl (fun ls hl => ?_)
      refine lp_go (P := fun (t10 : Int32 × MS) => ∀ (H : Heap) (locs : List Loc) (ls : Array Slot), GM g A s.heap H locs [wX8 g o ad t10.2] → lv_has ls 4 [(0, .ref o), (1, .int a1), (3, .int t10.1)] → W p l e rmX8_day s m args below meth c H locs 0 0 Q (F0 m 61 ls [])) hf (fun K11 hK11 t10 hf H locs ls hG hl => ?_) _ _ _ hG (lv_sub hl [1, 2, 0] rfl)
      refine lv_iload_n hx hb dX8_day_61 rfl (lv_at hl 2 rfl) ?_
      refine lv_bipush (v := 24) hx hb dX8_day_62 (by decide) ?_
      refine lv_icmp_ge (tgt := 80) hx hb dX8_day_64 (by decide) (fun hc12 => ?_) (fun hc12 => ?_)
      · replace hf := ite_t hf hc12
        refine lv_iconst (v := 0) hx hb dX8_day_80 (by decide) ?_
        refine lv_istore_n (lv' := [(3, .int 0), (0, .ref o), (1, .int a1)]) hx hb dX8_day_81 rfl hl (by decide) rfl (fun ls hl => ?_)
        refine lp_go (P := fun (t13 : Int32 × MS) => ∀ (H : Heap) (locs : List Loc) (ls : Array Slot), GM g A s.heap H locs [wX8 g o ad t13.2] → lv_has ls 4 [(0, .ref o), (1, .int a1), (3, .int t13.1)] → W p l e rmX8_day s m args below meth c H locs 0 0 Q (F0 m 82 ls [])) hf (fun K14 hK14 t13 hf H locs ls hG hl => ?_) _ _ _ hG (lv_sub hl [1, 2, 0] rfl)
        refine lv_iload_n hx hb dX8_day_82 rfl (lv_at hl 2 rfl) ?_
        refine lv_aload_n hx hb dX8_day_83 rfl (lv_at hl 0 rfl) ?_
        refine G_8_129 X hG 0 rfl dX8_day_84 ?_
        refine lv_icmp_ge (tgt := 115) hx hb dX8_day_87 (by decide) (fun hc15 => ?_) (fun hc15 => ?_)
        · replace hf := ite_t hf hc15
          refine lv_iconst (v := 0) hx hb dX8_day_115 (by decide) ?_
          refine lv_istore_n (lv' := [(3, .int 0), (0, .ref o), (1, .int a1)]) hx hb dX8_day_116 rfl hl (by decide) rfl (fun ls hl => ?_)
          refine lp_go (P := fun (t16 : Int32 × MS) => ∀ (H : Heap) (locs : List Loc) (ls : Array Slot), GM g A s.heap H locs [wX8 g o ad t16.2] → lv_has ls 4 [(0, .ref o), (1, .int a1), (3, .int t16.1)] → W p l e rmX8_day s m args below meth c H locs 0 0 Q (F0 m 117 ls [])) hf (fun K17 hK17 t16 hf H locs ls hG hl => ?_) _ _ _ hG (lv_sub hl [1, 2, 0] rfl)
          refine lv_iload_n hx hb dX8_day_117 rfl (lv_at hl 2 rfl) ?_
          refine lv_aload_n hx hb dX8_day_118 rfl (lv_at hl 0 rfl) ?_
          refine G_8_43 X hG 0 rfl dX8_day_119 ?_
          refine lv_icmp_ge (tgt := 137) hx hb dX8_day_122 (by decide) (fun hc18 => ?_) (fun hc18 => ?_)
          · replace hf := ite_t hf hc18
            have hq9 := Option.some.inj hf
            subst hq9
            subst hQ
            exact r_vret X hG dX8_day_137
          · replace hf := ite_f hf hc18
            refine lv_aload_n hx hb dX8_day_125 rfl (lv_at hl 0 rfl) ?_
            refine lv_iload_n hx hb dX8_day_126 rfl (lv_at hl 1 rfl) ?_
            refine lv_iload_n hx hb dX8_day_127 rfl (lv_at hl 2 rfl) ?_
            obtain ⟨q19, hq19, hf⟩ := cl_inv hf
            refine r_callVv (bc := [wX8 g o ad t16.2]) (br := []) (bs' := [wX8 g o ad q19]) (As := [.int a1, .int t16.1]) (rest := []) X hG hl.1 (c_X8_goMinute g l o ad n a1 t16.1 t16.2 q19 hq19) (List.Perm.refl _) (List.Perm.refl _) lk_X8_goMinute lv_X8_goMinute ml_8_286 (j := 0) (k := 0) rfl rfl rfl rfl rfl ⟨Nat.le_of_ble_eq_true rfl, Nat.le_of_ble_eq_true rfl⟩ rfl rfl (Nat.le_of_ble_eq_true rfl) ⟨Nat.zero_le _, Nat.zero_le _⟩ dX8_day_128 (fun H locs hG => ?_)
            refine lv_iinc (v := (t16.1 + 1)) (lv' := [(3, .int (t16.1 + 1)), (0, .ref o), (1, .int a1)]) hx hb dX8_day_131 hl (k := 2) rfl rfl (by decide) rfl (fun ls hl => ?_)
            refine lv_goto (tgt := 117) hx hb dX8_day_134 (by decide) ?_
            exact hK17 _ hf _ _ _ hG (lv_sub hl [1, 2, 0] rfl)
        · replace hf := ite_f hf hc15
          refine lv_aload_n hx hb dX8_day_90 rfl (lv_at hl 0 rfl) ?_
          refine G_8_81 X hG 0 rfl dX8_day_91 ?_
          refine lv_iload_n hx hb dX8_day_94 rfl (lv_at hl 2 rfl) ?_
          refine lv_aload_n hx hb dX8_day_95 rfl (lv_at hl 0 rfl) ?_
          refine G_8_7 X hG 0 rfl dX8_day_96 ?_
          refine lv_iload_n hx hb dX8_day_99 rfl (lv_at hl 2 rfl) ?_
          refine r_iald X hG 0 1 rfl rfl hf dX8_day_100 (fun x20 hf => ?_)
          refine r_iast X hG 0 20 rfl rfl hf (fun t => [wX8 g o ad t]) rfl dX8_day_101 (fun z21 H locs hf hG => ?_)
          refine lv_aload_n hx hb dX8_day_102 rfl (lv_at hl 0 rfl) ?_
          refine G_8_96 X hG 0 rfl dX8_day_103 ?_
          refine lv_iload_n hx hb dX8_day_106 rfl (lv_at hl 2 rfl) ?_
          refine lv_iconst (v := 0) hx hb dX8_day_107 (by decide) ?_
          refine r_iast X hG 0 25 rfl rfl hf (fun t => [wX8 g o ad t]) rfl dX8_day_108 (fun z22 H locs hf hG => ?_)
          refine lv_iinc (v := (t13.1 + 1)) (lv' := [(3, .int (t13.1 + 1)), (0, .ref o), (1, .int a1)]) hx hb dX8_day_109 hl (k := 2) rfl rfl (by decide) rfl (fun ls hl => ?_)
          refine lv_goto (tgt := 82) hx hb dX8_day_112 (by decide) ?_
          exact hK14 _ hf _ _ _ hG (lv_sub hl [1, 2, 0] rfl)
      · replace hf := ite_f hf hc12
        refine lv_aload_n hx hb dX8_day_67 rfl (lv_at hl 0 rfl) ?_
        refine G_8_90 X hG 0 rfl dX8_day_68 ?_
        refine lv_iload_n hx hb dX8_day_71 rfl (lv_at hl 2 rfl) ?_
        refine lv_iconst (v := 0) hx hb dX8_day_72 (by decide) ?_
        refine r_iast X hG 0 23 rfl rfl hf (fun t => [wX8 g o ad t]) rfl dX8_day_73 (fun z23 H locs hf hG => ?_)
        refine lv_iinc (v := (t10.1 + 1)) (lv' := [(3, .int (t10.1 + 1)), (0, .ref o), (1, .int a1)]) hx hb dX8_day_74 hl (k := 2) rfl rfl (by decide) rfl (fun ls hl => ?_)
        refine lv_goto (tgt := 61) hx hb dX8_day_77 (by decide) ?_
        exact hK11 _ hf _ _ _ hG (lv_sub hl [1, 2, 0] rfl)
    · replace hf := ite_f hf hc9
      refine lv_aload_n hx hb dX8_day_46 rfl (lv_at hl 0 rfl) ?_
      refine G_8_87 X hG 0 rfl dX8_day_47 ?_
      refine lv_iload_n hx hb dX8_day_50 rfl (lv_at hl 2 rfl) ?_
      refine lv_iconst (v := 0) hx hb dX8_day_51 (by decide) ?_
      refine r_iast X hG 0 22 rfl rfl hf (fun t => [wX8 g o ad t]) rfl dX8_day_52 (fun z24 H locs hf hG => ?_)
      refine lv_iinc (v := (t7.1 + 1)) (lv' := [(3, .int (t7.1 + 1)), (0, .ref o), (1, .int a1)]) hx hb dX8_day_53 hl (k := 2) rfl rfl (by decide) rfl (fun ls hl => ?_)
      refine lv_goto (tgt := 39) hx hb dX8_day_56 (by decide) ?_
      exact hK8 _ hf _ _ _ hG (lv_sub hl [1, 2, 0] rfl)
  · replace hf := ite_f hf hc6
    refine lv_aload_n hx hb dX8_day_24 rfl (lv_at hl 0 rfl) ?_
    refine G_8_84 X hG 0 rfl dX8_day_25 ?_
    refine lv_iload_n hx hb dX8_day_28 rfl (lv_at hl 2 rfl) ?_
    refine lv_iconst (v := 0) hx hb dX8_day_29 (by decide) ?_
    refine r_iast X hG 0 21 rfl rfl hf (fun t => [wX8 g o ad t]) rfl dX8_day_30 (fun z25 H locs hf hG => ?_)
    refine lv_iinc (v := (t4.1 + 1)) (lv' := [(3, .int (t4.1 + 1)), (0, .ref o), (1, .int a1)]) hx hb dX8_day_31 hl (k := 2) rfl rfl (by decide) rfl (fun ls hl => ?_)
    refine lv_goto (tgt := 17) hx hb dX8_day_34 (by decide) ?_
    exact hK5 _ hf _ _ _ hG (lv_sub hl [1, 2, 0] rfl)
def rmX8_leftOf : Room := { frames := 0, cells := 0, slots := 0, locals := 0 }
set_option maxHeartbeats 4000000 in
set_option maxRecDepth 100000 in
theorem c_X8_leftOf (g : GT) (l : Launch) (o : Nat) (ad : Nat → Nat) (n : Nat) (a1 : Int32) (s0 : MS) (q : Int32) (hf : f_X8_leftOf n a1 s0 = some q) : CI g l yX8_leftOf cX8_leftOf 2 (some .int) rmX8_leftOf [.ref o, .int a1] [wX8 g o ad s0] q [wX8 g o ad s0] := by
  refine CI_intro RX8 rfl (by decide +kernel) (Nat.le_of_ble_eq_true rfl) ?_
  intro p e s m args below meth c A ls Q hQ X hl hG
  have hl : lv_has ls 2 [(0, .ref o), (1, .int a1)] := hl
  have hx := X.1
  have hb := X.2.1
  have hown := X.2.2.2.1
  unfold f_X8_leftOf at hf
  refine lv_aload_n hx hb dX8_leftOf_0 rfl (lv_at hl 0 rfl) ?_
  refine G_8_7 X hG 0 rfl dX8_leftOf_1 ?_
  refine lv_iload_n hx hb dX8_leftOf_4 rfl (lv_at hl 1 rfl) ?_
  refine r_iald X hG 0 1 rfl rfl hf dX8_leftOf_5 (fun x1 hf => ?_)
  refine lv_aload_n hx hb dX8_leftOf_6 rfl (lv_at hl 0 rfl) ?_
  refine G_8_96 X hG 0 rfl dX8_leftOf_7 ?_
  refine lv_iload_n hx hb dX8_leftOf_10 rfl (lv_at hl 1 rfl) ?_
  refine r_iald X hG 0 25 rfl rfl hf dX8_leftOf_11 (fun x2 hf => ?_)
  refine lv_isub hx hb dX8_leftOf_12 ?_
  have hq9 := Option.some.inj hf
  subst hq9
  subst hQ
  exact r_iret X hG dX8_leftOf_13
def rmX8_leftOfAll : Room := { frames := 1, cells := 0, slots := 0, locals := 21 }
set_option maxHeartbeats 4000000 in
set_option maxRecDepth 100000 in
theorem c_X8_leftOfAll (g : GT) (l : Launch) (o : Nat) (ad : Nat → Nat) (n : Nat) (s0 : MS) (q : Int32) (hf : f_X8_leftOfAll n s0 = some q) : CI g l yX8_leftOfAll cX8_leftOfAll 3 (some .int) rmX8_leftOfAll [.ref o] [wX8 g o ad s0] q [wX8 g o ad s0] := by
  refine CI_intro RX8 rfl (by decide +kernel) (Nat.le_of_ble_eq_true rfl) ?_
  intro p e s m args below meth c A ls Q hQ X hl hG
  have hl : lv_has ls 3 [(0, .ref o)] := hl
  have hx := X.1
  have hb := X.2.1
  have hown := X.2.2.2.1
  unfold f_X8_leftOfAll at hf
  refine lv_iconst (v := 0) hx hb dX8_leftOfAll_0 (by decide) ?_
  refine lv_istore_n (lv' := [(1, .int 0), (0, .ref o)]) hx hb dX8_leftOfAll_1 rfl hl (by decide) rfl (fun ls hl => ?_)
  refine lv_iconst (v := 0) hx hb dX8_leftOfAll_2 (by decide) ?_
  refine lv_istore_n (lv' := [(2, .int 0), (1, .int 0), (0, .ref o)]) hx hb dX8_leftOfAll_3 rfl hl (by decide) rfl (fun ls hl => ?_)
  refine lp_go (P := fun (t1 : Int32 × Int32) => ∀ (H : Heap) (locs : List Loc) (ls : Array Slot), GM g A s.heap H locs [wX8 g o ad s0] → lv_has ls 3 [(0, .ref o), (1, .int t1.1), (2, .int t1.2)] → W p l e rmX8_leftOfAll s m args below meth c H locs 0 0 Q (F0 m 4 ls [])) hf (fun K2 hK2 t1 hf H locs ls hG hl => ?_) _ _ _ hG (lv_sub hl [2, 1, 0] rfl)
  refine lv_iload_n hx hb dX8_leftOfAll_4 rfl (lv_at hl 2 rfl) ?_
  refine lv_aload_n hx hb dX8_leftOfAll_5 rfl (lv_at hl 0 rfl) ?_
  refine G_8_129 X hG 0 rfl dX8_leftOfAll_6 ?_
  refine lv_icmp_ge (tgt := 26) hx hb dX8_leftOfAll_9 (by decide) (fun hc3 => ?_) (fun hc3 => ?_)
  · replace hf := ite_t hf hc3
    refine lv_iload_n hx hb dX8_leftOfAll_26 rfl (lv_at hl 1 rfl) ?_
    have hq9 := Option.some.inj hf
    subst hq9
    subst hQ
    exact r_iret X hG dX8_leftOfAll_27
  · replace hf := ite_f hf hc3
    refine lv_iload_n hx hb dX8_leftOfAll_12 rfl (lv_at hl 1 rfl) ?_
    refine lv_aload_n hx hb dX8_leftOfAll_13 rfl (lv_at hl 0 rfl) ?_
    refine lv_iload_n hx hb dX8_leftOfAll_14 rfl (lv_at hl 2 rfl) ?_
    obtain ⟨q4, hq4, hf⟩ := cl_inv hf
    refine r_callVi (bc := [wX8 g o ad s0]) (br := []) (bs' := [wX8 g o ad s0]) (As := [.int t1.2]) (rest := [.int t1.1]) X hG hl.1 (c_X8_leftOf g l o ad n t1.2 s0 q4 hq4) (List.Perm.refl _) (List.Perm.refl _) lk_X8_leftOf lv_X8_leftOf ml_8_289 (j := 0) (k := 0) rfl rfl rfl rfl rfl ⟨Nat.le_of_ble_eq_true rfl, Nat.le_of_ble_eq_true rfl⟩ rfl rfl (Nat.le_of_ble_eq_true rfl) ⟨Nat.zero_le _, Nat.zero_le _⟩ dX8_leftOfAll_15 (fun H locs hG => ?_)
    refine lv_iadd hx hb dX8_leftOfAll_18 ?_
    refine r_bni hf (fun x5 hf => ?_)
    refine lv_istore_n (lv' := [(1, .int x5), (0, .ref o), (2, .int t1.2)]) hx hb dX8_leftOfAll_19 rfl hl (by decide) rfl (fun ls hl => ?_)
    refine lv_iinc (v := (t1.2 + 1)) (lv' := [(2, .int (t1.2 + 1)), (1, .int x5), (0, .ref o)]) hx hb dX8_leftOfAll_20 hl (k := 2) rfl rfl (by decide) rfl (fun ls hl => ?_)
    refine lv_goto (tgt := 4) hx hb dX8_leftOfAll_23 (by decide) ?_
    exact hK2 _ hf _ _ _ hG (lv_sub hl [2, 1, 0] rfl)
def rmX8_left : Room := { frames := 4, cells := 0, slots := 0, locals := 100 }
set_option maxHeartbeats 4000000 in
set_option maxRecDepth 100000 in
theorem c_X8_left (g : GT) (l : Launch) (o : Nat) (ad : Nat → Nat) (n : Nat) (a1 : Int32) (a2 : Int32) (s0 : MS) (q : Int32 × MS) (hf : f_X8_left n a1 a2 s0 = some q) : CI g l yX8_left cX8_left 3 (some .int) rmX8_left [.ref o, .int a1, .int a2] [wX8 g o ad s0] q.1 [wX8 g o ad q.2] := by
  refine CI_intro RX8 rfl (by decide +kernel) (Nat.le_of_ble_eq_true rfl) ?_
  intro p e s m args below meth c A ls Q hQ X hl hG
  have hl : lv_has ls 3 [(0, .ref o), (1, .int a1), (2, .int a2)] := hl
  have hx := X.1
  have hb := X.2.1
  have hown := X.2.2.2.1
  unfold f_X8_left at hf
  refine lv_aload_n hx hb dX8_left_0 rfl (lv_at hl 0 rfl) ?_
  refine lv_iload_n hx hb dX8_left_1 rfl (lv_at hl 1 rfl) ?_
  obtain ⟨q1, hq1, hf⟩ := cl_inv hf
  refine r_callVi (bc := [wX8 g o ad s0]) (br := []) (bs' := [wX8 g o ad s0]) (As := [.int a1]) (rest := []) X hG hl.1 (c_X8_isWay g l o ad n a1 s0 q1 hq1) (List.Perm.refl _) (List.Perm.refl _) lk_X8_isWay lv_X8_isWay ml_8_152 (j := 0) (k := 0) rfl rfl rfl rfl rfl ⟨Nat.le_of_ble_eq_true rfl, Nat.le_of_ble_eq_true rfl⟩ rfl rfl (Nat.le_of_ble_eq_true rfl) ⟨Nat.zero_le _, Nat.zero_le _⟩ dX8_left_2 (fun H locs hG => ?_)
  refine lv_if_eq (tgt := 21) hx hb dX8_left_5 (by decide) (fun hc2 => ?_) (fun hc2 => ?_)
  · replace hf := ite_t hf hc2
    refine lv_bipush (v := (-2)) hx hb dX8_left_21 (by decide) ?_
    have hq9 := Option.some.inj hf
    subst hq9
    subst hQ
    exact r_iret X hG dX8_left_23
  · replace hf := ite_f hf hc2
    refine lv_iload_n hx hb dX8_left_8 rfl (lv_at hl 2 rfl) ?_
    refine lv_iconst (v := (-1)) hx hb dX8_left_9 (by decide) ?_
    refine jn_use (P := fun (t3 : Unit) => ∀ (H : Heap) (locs : List Loc) (ls : Array Slot), GM g A s.heap H locs [wX8 g o ad s0] → lv_has ls 3 [(0, .ref o), (1, .int a1), (2, .int a2)] → W p l e rmX8_left s m args below meth c H locs 0 0 Q (F0 m 24 ls [])) hf (fun t3 hf H locs ls hG hl => ?_) (fun K4 hK4 hf => ?_)
    · refine lv_aload_n hx hb dX8_left_24 rfl (lv_at hl 0 rfl) ?_
      refine lv_iload_n hx hb dX8_left_25 rfl (lv_at hl 1 rfl) ?_
      refine lv_aload_n hx hb dX8_left_26 rfl (lv_at hl 0 rfl) ?_
      refine G_8_143 X hG 0 rfl dX8_left_27 ?_
      obtain ⟨q5, hq5, hf⟩ := cl_inv hf
      refine r_callVv (bc := [wX8 g o ad s0]) (br := []) (bs' := [wX8 g o ad q5]) (As := [.int a1, .int (s0.1 6)]) (rest := []) X hG hl.1 (c_X8_day g l o ad n a1 (s0.1 6) s0 q5 hq5) (List.Perm.refl _) (List.Perm.refl _) lk_X8_day lv_X8_day ml_8_292 (j := 0) (k := 0) rfl rfl rfl rfl rfl ⟨Nat.le_of_ble_eq_true rfl, Nat.le_of_ble_eq_true rfl⟩ rfl rfl (Nat.le_of_ble_eq_true rfl) ⟨Nat.zero_le _, Nat.zero_le _⟩ dX8_left_30 (fun H locs hG => ?_)
      refine lv_iload_n hx hb dX8_left_33 rfl (lv_at hl 2 rfl) ?_
      refine lv_iconst (v := (-1)) hx hb dX8_left_34 (by decide) ?_
      refine lv_icmp_ne (tgt := 45) hx hb dX8_left_35 (by decide) (fun hc6 => ?_) (fun hc6 => ?_)
      · replace hf := ite_f hf hc6
        refine lv_aload_n hx hb dX8_left_45 rfl (lv_at hl 0 rfl) ?_
        refine lv_iload_n hx hb dX8_left_46 rfl (lv_at hl 2 rfl) ?_
        obtain ⟨q7, hq7, hf⟩ := cl_inv hf
        refine r_callVi (bc := [wX8 g o ad q5]) (br := []) (bs' := [wX8 g o ad q5]) (As := [.int a2]) (rest := []) X hG hl.1 (c_X8_leftOf g l o ad n a2 q5 q7 hq7) (List.Perm.refl _) (List.Perm.refl _) lk_X8_leftOf lv_X8_leftOf ml_8_289 (j := 0) (k := 0) rfl rfl rfl rfl rfl ⟨Nat.le_of_ble_eq_true rfl, Nat.le_of_ble_eq_true rfl⟩ rfl rfl (Nat.le_of_ble_eq_true rfl) ⟨Nat.zero_le _, Nat.zero_le _⟩ dX8_left_47 (fun H locs hG => ?_)
        have hq9 := Option.some.inj hf
        subst hq9
        subst hQ
        exact r_iret X hG dX8_left_50
      · replace hf := ite_t hf hc6
        refine lv_aload_n hx hb dX8_left_38 rfl (lv_at hl 0 rfl) ?_
        obtain ⟨q8, hq8, hf⟩ := cl_inv hf
        refine r_callVi (bc := [wX8 g o ad q5]) (br := []) (bs' := [wX8 g o ad q5]) (As := []) (rest := []) X hG hl.1 (c_X8_leftOfAll g l o ad n q5 q8 hq8) (List.Perm.refl _) (List.Perm.refl _) lk_X8_leftOfAll lv_X8_leftOfAll ml_8_295 (j := 0) (k := 0) rfl rfl rfl rfl rfl ⟨Nat.le_of_ble_eq_true rfl, Nat.le_of_ble_eq_true rfl⟩ rfl rfl (Nat.le_of_ble_eq_true rfl) ⟨Nat.zero_le _, Nat.zero_le _⟩ dX8_left_39 (fun H locs hG => ?_)
        refine lv_goto (tgt := 50) hx hb dX8_left_42 (by decide) ?_
        have hq9 := Option.some.inj hf
        subst hq9
        subst hQ
        exact r_iret X hG dX8_left_50
    refine lv_icmp_eq (tgt := 24) hx hb dX8_left_10 (by decide) (fun hc9 => ?_) (fun hc9 => ?_)
    · replace hf := ite_t hf hc9
      exact hK4 _ hf _ _ _ hG (lv_sub hl [0, 1, 2] rfl)
    · replace hf := ite_f hf hc9
      refine lv_aload_n hx hb dX8_left_13 rfl (lv_at hl 0 rfl) ?_
      refine lv_iload_n hx hb dX8_left_14 rfl (lv_at hl 2 rfl) ?_
      obtain ⟨q10, hq10, hf⟩ := cl_inv hf
      refine r_callVi (bc := [wX8 g o ad s0]) (br := []) (bs' := [wX8 g o ad s0]) (As := [.int a2]) (rest := []) X hG hl.1 (c_X8_isSort g l o ad n a2 s0 q10 hq10) (List.Perm.refl _) (List.Perm.refl _) lk_X8_isSort lv_X8_isSort ml_8_146 (j := 0) (k := 0) rfl rfl rfl rfl rfl ⟨Nat.le_of_ble_eq_true rfl, Nat.le_of_ble_eq_true rfl⟩ rfl rfl (Nat.le_of_ble_eq_true rfl) ⟨Nat.zero_le _, Nat.zero_le _⟩ dX8_left_15 (fun H locs hG => ?_)
      refine lv_if_ne (tgt := 24) hx hb dX8_left_18 (by decide) (fun hc11 => ?_) (fun hc11 => ?_)
      · replace hf := ite_f hf hc11
        exact hK4 _ hf _ _ _ hG (lv_sub hl [0, 1, 2] rfl)
      · replace hf := ite_t hf hc11
        refine lv_bipush (v := (-2)) hx hb dX8_left_21 (by decide) ?_
        have hq9 := Option.some.inj hf
        subst hq9
        subst hQ
        exact r_iret X hG dX8_left_23
def rmX8_harmOf : Room := { frames := 4, cells := 0, slots := 0, locals := 100 }
set_option maxHeartbeats 4000000 in
set_option maxRecDepth 100000 in
theorem c_X8_harmOf (g : GT) (l : Launch) (o : Nat) (ad : Nat → Nat) (n : Nat) (a1 : Int32) (s0 : MS) (q : Int64 × MS) (hf : f_X8_harmOf n a1 s0 = some q) : CL g l yX8_harmOf cX8_harmOf 7 (some .long) rmX8_harmOf [.ref o, .int a1] [wX8 g o ad s0] q.1 [wX8 g o ad q.2] := by
  refine CL_intro RX8 rfl (by decide +kernel) (Nat.le_of_ble_eq_true rfl) ?_
  intro p e s m args below meth c A ls Q hQ X hl hG
  have hl : lv_has ls 7 [(0, .ref o), (1, .int a1)] := hl
  have hx := X.1
  have hb := X.2.1
  have hown := X.2.2.2.1
  unfold f_X8_harmOf at hf
  refine lv_aload_n hx hb dX8_harmOf_0 rfl (lv_at hl 0 rfl) ?_
  refine lv_iload_n hx hb dX8_harmOf_1 rfl (lv_at hl 1 rfl) ?_
  refine lv_aload_n hx hb dX8_harmOf_2 rfl (lv_at hl 0 rfl) ?_
  refine G_8_143 X hG 0 rfl dX8_harmOf_3 ?_
  obtain ⟨q1, hq1, hf⟩ := cl_inv hf
  refine r_callVv (bc := [wX8 g o ad s0]) (br := []) (bs' := [wX8 g o ad q1]) (As := [.int a1, .int (s0.1 6)]) (rest := []) X hG hl.1 (c_X8_day g l o ad n a1 (s0.1 6) s0 q1 hq1) (List.Perm.refl _) (List.Perm.refl _) lk_X8_day lv_X8_day ml_8_292 (j := 0) (k := 0) rfl rfl rfl rfl rfl ⟨Nat.le_of_ble_eq_true rfl, Nat.le_of_ble_eq_true rfl⟩ rfl rfl (Nat.le_of_ble_eq_true rfl) ⟨Nat.zero_le _, Nat.zero_le _⟩ dX8_harmOf_6 (fun H locs hG => ?_)
  refine lv_aload_n hx hb dX8_harmOf_9 rfl (lv_at hl 0 rfl) ?_
  obtain ⟨q2, hq2, hf⟩ := cl_inv hf
  refine r_callVi (bc := [wX8 g o ad q1]) (br := []) (bs' := [wX8 g o ad q1]) (As := []) (rest := []) X hG hl.1 (c_X8_waitingNow g l o ad n q1 q2 hq2) (List.Perm.refl _) (List.Perm.refl _) lk_X8_waitingNow lv_X8_waitingNow ml_8_252 (j := 0) (k := 0) rfl rfl rfl rfl rfl ⟨Nat.le_of_ble_eq_true rfl, Nat.le_of_ble_eq_true rfl⟩ rfl rfl (Nat.le_of_ble_eq_true rfl) ⟨Nat.zero_le _, Nat.zero_le _⟩ dX8_harmOf_10 (fun H locs hG => ?_)
  refine lv_istore_n (lv' := [(2, .int q2), (0, .ref o), (1, .int a1)]) hx hb dX8_harmOf_13 rfl hl (by decide) rfl (fun ls hl => ?_)
  refine lv_lconst (v := 0) hx hb dX8_harmOf_14 (by decide) ?_
  refine lv_lstore_n (lv' := [(3, .long 0), (2, .int q2), (0, .ref o), (1, .int a1)]) hx hb dX8_harmOf_15 rfl hl (by decide) rfl (fun ls hl => ?_)
  refine lv_iconst (v := 0) hx hb dX8_harmOf_16 (by decide) ?_
  refine lv_istore (lv' := [(5, .int 0), (3, .long 0), (2, .int q2), (0, .ref o), (1, .int a1)]) hx hb dX8_harmOf_17 hl (by decide) rfl (fun ls hl => ?_)
  refine lp_go (P := fun (t3 : Int64 × Int32 × MS) => ∀ (H : Heap) (locs : List Loc) (ls : Array Slot), GM g A s.heap H locs [wX8 g o ad t3.2.2] → lv_has ls 7 [(0, .ref o), (2, .int q2), (3, .long t3.1), (5, .int t3.2.1)] → W p l e rmX8_harmOf s m args below meth c H locs 0 0 Q (F0 m 19 ls [])) hf (fun K4 hK4 t3 hf H locs ls hG hl => ?_) _ _ _ hG (lv_sub hl [3, 2, 1, 0] rfl)
  refine lv_iload hx hb dX8_harmOf_19 (lv_at hl 3 rfl) ?_
  refine lv_aload_n hx hb dX8_harmOf_21 rfl (lv_at hl 0 rfl) ?_
  refine G_8_129 X hG 0 rfl dX8_harmOf_22 ?_
  refine lv_icmp_ge (tgt := 101) hx hb dX8_harmOf_25 (by decide) (fun hc5 => ?_) (fun hc5 => ?_)
  · replace hf := ite_t hf hc5
    refine lv_lload_n hx hb dX8_harmOf_101 rfl (lv_at hl 2 rfl) ?_
    have hq9 := Option.some.inj hf
    subst hq9
    subst hQ
    exact r_lret X hG dX8_harmOf_102
  · replace hf := ite_f hf hc5
    refine lv_iconst (v := 0) hx hb dX8_harmOf_28 (by decide) ?_
    refine lv_istore (lv' := [(6, .int 0), (0, .ref o), (2, .int q2), (3, .long t3.1), (5, .int t3.2.1)]) hx hb dX8_harmOf_29 hl (by decide) rfl (fun ls hl => ?_)
    refine lp_go (P := fun (t6 : Int32 × MS) => ∀ (H : Heap) (locs : List Loc) (ls : Array Slot), GM g A s.heap H locs [wX8 g o ad t6.2] → lv_has ls 7 [(0, .ref o), (2, .int q2), (3, .long t3.1), (5, .int t3.2.1), (6, .int t6.1)] → W p l e rmX8_harmOf s m args below meth c H locs 0 0 Q (F0 m 31 ls [])) hf (fun K7 hK7 t6 hf H locs ls hG hl => ?_) _ _ _ hG (lv_sub hl [1, 2, 3, 4, 0] rfl)
    refine lv_iload hx hb dX8_harmOf_31 (lv_at hl 4 rfl) ?_
    refine lv_bipush (v := 6) hx hb dX8_harmOf_33 (by decide) ?_
    refine lv_icmp_ge (tgt := 52) hx hb dX8_harmOf_35 (by decide) (fun hc8 => ?_) (fun hc8 => ?_)
    · replace hf := ite_t hf hc8
      refine lv_aload_n hx hb dX8_harmOf_52 rfl (lv_at hl 0 rfl) ?_
      refine G_8_72 X hG 0 rfl dX8_harmOf_53 ?_
      refine lv_iconst (v := 0) hx hb dX8_harmOf_56 (by decide) ?_
      refine lv_aload_n hx hb dX8_harmOf_57 rfl (lv_at hl 0 rfl) ?_
      refine G_8_81 X hG 0 rfl dX8_harmOf_58 ?_
      refine lv_iload hx hb dX8_harmOf_61 (lv_at hl 3 rfl) ?_
      refine r_iald X hG 0 20 rfl rfl hf dX8_harmOf_63 (fun x9 hf => ?_)
      refine r_iast X hG 0 17 rfl rfl hf (fun t => [wX8 g o ad t]) rfl dX8_harmOf_64 (fun z10 H locs hf hG => ?_)
      refine lv_aload_n hx hb dX8_harmOf_65 rfl (lv_at hl 0 rfl) ?_
      refine G_8_72 X hG 0 rfl dX8_harmOf_66 ?_
      refine lv_iconst (v := 1) hx hb dX8_harmOf_69 (by decide) ?_
      refine lv_iload_n hx hb dX8_harmOf_70 rfl (lv_at hl 1 rfl) ?_
      refine r_iast X hG 0 17 rfl rfl hf (fun t => [wX8 g o ad t]) rfl dX8_harmOf_71 (fun z11 H locs hf hG => ?_)
      refine lv_lload_n hx hb dX8_harmOf_72 rfl (lv_at hl 2 rfl) ?_
      refine lv_aload_n hx hb dX8_harmOf_73 rfl (lv_at hl 0 rfl) ?_
      refine lv_iconst (v := 2) hx hb dX8_harmOf_74 (by decide) ?_
      obtain ⟨q12, hq12, hf⟩ := cl_inv hf
      refine r_callVi (bc := [wX8 g o ad z11]) (br := []) (bs' := [wX8 g o ad q12.2]) (As := [.int 2]) (rest := [.long t3.1]) X hG hl.1 (c_X8_gives g l o ad n 2 z11 q12 hq12) (List.Perm.refl _) (List.Perm.refl _) lk_X8_gives lv_X8_gives ml_8_259 (j := 0) (k := 0) rfl rfl rfl rfl rfl ⟨Nat.le_of_ble_eq_true rfl, Nat.le_of_ble_eq_true rfl⟩ rfl rfl (Nat.le_of_ble_eq_true rfl) ⟨Nat.zero_le _, Nat.zero_le _⟩ dX8_harmOf_75 (fun H locs hG => ?_)
      refine lv_iconst (v := 0) hx hb dX8_harmOf_78 (by decide) ?_
      refine lv_bipush (v := 99) hx hb dX8_harmOf_79 (by decide) ?_
      obtain ⟨q13, hq13, hf⟩ := cl_inv hf
      refine r_callSi (bc := []) (br := [wX8 g o ad q12.2]) (bs' := [wX8 g o ad q12.2]) (As := [.int q12.1, .int 0, .int 99]) (rest := [.long t3.1]) X hG hl.1 (c_X8_held g l  n q12.1 0 99 q13 hq13) (List.Perm.refl _) (List.Perm.refl _) lk_X8_held ls_X8_held ml_8_263 rfl rfl ⟨Nat.le_of_ble_eq_true rfl, Nat.le_of_ble_eq_true rfl⟩ rfl rfl (Nat.le_of_ble_eq_true rfl) ⟨Nat.zero_le _, Nat.zero_le _⟩ dX8_harmOf_81 (fun H locs hG => ?_)
      refine lv_i2l hx hb dX8_harmOf_84 rfl ?_
      refine lv_aload_n hx hb dX8_harmOf_85 rfl (lv_at hl 0 rfl) ?_
      refine lv_iload hx hb dX8_harmOf_86 (lv_at hl 3 rfl) ?_
      obtain ⟨q14, hq14, hf⟩ := cl_inv hf
      refine r_callVi (bc := [wX8 g o ad q12.2]) (br := []) (bs' := [wX8 g o ad q12.2]) (As := [.int t3.2.1]) (rest := [.long (Int32.toInt64 q13), .long t3.1]) X hG hl.1 (c_X8_leftOf g l o ad n t3.2.1 q12.2 q14 hq14) (List.Perm.refl _) (List.Perm.refl _) lk_X8_leftOf lv_X8_leftOf ml_8_289 (j := 0) (k := 0) rfl rfl rfl rfl rfl ⟨Nat.le_of_ble_eq_true rfl, Nat.le_of_ble_eq_true rfl⟩ rfl rfl (Nat.le_of_ble_eq_true rfl) ⟨Nat.zero_le _, Nat.zero_le _⟩ dX8_harmOf_88 (fun H locs hG => ?_)
      refine lv_i2l hx hb dX8_harmOf_91 rfl ?_
      refine lv_lmul hx hb dX8_harmOf_92 ?_
      refine lv_ladd hx hb dX8_harmOf_93 ?_
      refine r_bnl hf (fun x15 hf => ?_)
      refine lv_lstore_n (lv' := [(3, .long x15), (0, .ref o), (2, .int q2), (5, .int t3.2.1), (6, .int t6.1)]) hx hb dX8_harmOf_94 rfl hl (by decide) rfl (fun ls hl => ?_)
      refine lv_iinc (v := (t3.2.1 + 1)) (lv' := [(5, .int (t3.2.1 + 1)), (3, .long x15), (0, .ref o), (2, .int q2), (6, .int t6.1)]) hx hb dX8_harmOf_95 hl (k := 3) rfl rfl (by decide) rfl (fun ls hl => ?_)
      refine lv_goto (tgt := 19) hx hb dX8_harmOf_98 (by decide) ?_
      exact hK4 _ hf _ _ _ hG (lv_sub hl [2, 3, 1, 0] rfl)
    · replace hf := ite_f hf hc8
      refine lv_aload_n hx hb dX8_harmOf_38 rfl (lv_at hl 0 rfl) ?_
      refine G_8_72 X hG 0 rfl dX8_harmOf_39 ?_
      refine lv_iload hx hb dX8_harmOf_42 (lv_at hl 4 rfl) ?_
      refine lv_iconst (v := 0) hx hb dX8_harmOf_44 (by decide) ?_
      refine r_iast X hG 0 17 rfl rfl hf (fun t => [wX8 g o ad t]) rfl dX8_harmOf_45 (fun z16 H locs hf hG => ?_)
      refine lv_iinc (v := (t6.1 + 1)) (lv' := [(6, .int (t6.1 + 1)), (0, .ref o), (2, .int q2), (3, .long t3.1), (5, .int t3.2.1)]) hx hb dX8_harmOf_46 hl (k := 4) rfl rfl (by decide) rfl (fun ls hl => ?_)
      refine lv_goto (tgt := 31) hx hb dX8_harmOf_49 (by decide) ?_
      exact hK7 _ hf _ _ _ hG (lv_sub hl [1, 2, 3, 4, 0] rfl)
def rmX8_harm : Room := { frames := 5, cells := 0, slots := 0, locals := 126 }
set_option maxHeartbeats 4000000 in
set_option maxRecDepth 100000 in
theorem c_X8_harm (g : GT) (l : Launch) (o : Nat) (ad : Nat → Nat) (n : Nat) (a1 : Int32) (s0 : MS) (q : Int64 × MS) (hf : f_X8_harm n a1 s0 = some q) : CL g l yX8_harm cX8_harm 2 (some .long) rmX8_harm [.ref o, .int a1] [wX8 g o ad s0] q.1 [wX8 g o ad q.2] := by
  refine CL_intro RX8 rfl (by decide +kernel) (Nat.le_of_ble_eq_true rfl) ?_
  intro p e s m args below meth c A ls Q hQ X hl hG
  have hl : lv_has ls 2 [(0, .ref o), (1, .int a1)] := hl
  have hx := X.1
  have hb := X.2.1
  have hown := X.2.2.2.1
  unfold f_X8_harm at hf
  refine lv_aload_n hx hb dX8_harm_0 rfl (lv_at hl 0 rfl) ?_
  refine lv_iload_n hx hb dX8_harm_1 rfl (lv_at hl 1 rfl) ?_
  obtain ⟨q1, hq1, hf⟩ := cl_inv hf
  refine r_callVi (bc := [wX8 g o ad s0]) (br := []) (bs' := [wX8 g o ad s0]) (As := [.int a1]) (rest := []) X hG hl.1 (c_X8_isWay g l o ad n a1 s0 q1 hq1) (List.Perm.refl _) (List.Perm.refl _) lk_X8_isWay lv_X8_isWay ml_8_152 (j := 0) (k := 0) rfl rfl rfl rfl rfl ⟨Nat.le_of_ble_eq_true rfl, Nat.le_of_ble_eq_true rfl⟩ rfl rfl (Nat.le_of_ble_eq_true rfl) ⟨Nat.zero_le _, Nat.zero_le _⟩ dX8_harm_2 (fun H locs hG => ?_)
  refine lv_if_eq (tgt := 16) hx hb dX8_harm_5 (by decide) (fun hc2 => ?_) (fun hc2 => ?_)
  · replace hf := ite_t hf hc2
    refine lv_ldc2 hx hb hown (X.2.2.2.2.1 _ kl_8_302) dX8_harm_16 ?_
    have hq9 := Option.some.inj hf
    subst hq9
    subst hQ
    exact r_lret X hG dX8_harm_19
  · replace hf := ite_f hf hc2
    refine lv_aload_n hx hb dX8_harm_8 rfl (lv_at hl 0 rfl) ?_
    refine lv_iload_n hx hb dX8_harm_9 rfl (lv_at hl 1 rfl) ?_
    obtain ⟨q3, hq3, hf⟩ := cl_inv hf
    refine r_callVl (bc := [wX8 g o ad s0]) (br := []) (bs' := [wX8 g o ad q3.2]) (As := [.int a1]) (rest := []) X hG hl.1 (c_X8_harmOf g l o ad n a1 s0 q3 hq3) (List.Perm.refl _) (List.Perm.refl _) lk_X8_harmOf lv_X8_harmOf ml_8_298 (j := 0) (k := 0) rfl rfl rfl rfl rfl ⟨Nat.le_of_ble_eq_true rfl, Nat.le_of_ble_eq_true rfl⟩ rfl rfl (Nat.le_of_ble_eq_true rfl) ⟨Nat.zero_le _, Nat.zero_le _⟩ dX8_harm_10 (fun H locs hG => ?_)
    refine lv_goto (tgt := 19) hx hb dX8_harm_13 (by decide) ?_
    have hq9 := Option.some.inj hf
    subst hq9
    subst hQ
    exact r_lret X hG dX8_harm_19
def rmX8_rode : Room := { frames := 4, cells := 0, slots := 0, locals := 100 }
set_option maxHeartbeats 4000000 in
set_option maxRecDepth 100000 in
theorem c_X8_rode (g : GT) (l : Launch) (o : Nat) (ad : Nat → Nat) (n : Nat) (a1 : Int32) (a2 : Int32) (s0 : MS) (q : Int32 × MS) (hf : f_X8_rode n a1 a2 s0 = some q) : CI g l yX8_rode cX8_rode 5 (some .int) rmX8_rode [.ref o, .int a1, .int a2] [wX8 g o ad s0] q.1 [wX8 g o ad q.2] := by
  refine CI_intro RX8 rfl (by decide +kernel) (Nat.le_of_ble_eq_true rfl) ?_
  intro p e s m args below meth c A ls Q hQ X hl hG
  have hl : lv_has ls 5 [(0, .ref o), (1, .int a1), (2, .int a2)] := hl
  have hx := X.1
  have hb := X.2.1
  have hown := X.2.2.2.1
  unfold f_X8_rode at hf
  refine lv_aload_n hx hb dX8_rode_0 rfl (lv_at hl 0 rfl) ?_
  refine lv_iload_n hx hb dX8_rode_1 rfl (lv_at hl 1 rfl) ?_
  obtain ⟨q1, hq1, hf⟩ := cl_inv hf
  refine r_callVi (bc := [wX8 g o ad s0]) (br := []) (bs' := [wX8 g o ad s0]) (As := [.int a1]) (rest := []) X hG hl.1 (c_X8_isWay g l o ad n a1 s0 q1 hq1) (List.Perm.refl _) (List.Perm.refl _) lk_X8_isWay lv_X8_isWay ml_8_152 (j := 0) (k := 0) rfl rfl rfl rfl rfl ⟨Nat.le_of_ble_eq_true rfl, Nat.le_of_ble_eq_true rfl⟩ rfl rfl (Nat.le_of_ble_eq_true rfl) ⟨Nat.zero_le _, Nat.zero_le _⟩ dX8_rode_2 (fun H locs hG => ?_)
  refine lv_if_eq (tgt := 27) hx hb dX8_rode_5 (by decide) (fun hc2 => ?_) (fun hc2 => ?_)
  · replace hf := ite_t hf hc2
    refine lv_bipush (v := (-2)) hx hb dX8_rode_27 (by decide) ?_
    have hq9 := Option.some.inj hf
    subst hq9
    subst hQ
    exact r_iret X hG dX8_rode_29
  · replace hf := ite_f hf hc2
    refine lv_iload_n hx hb dX8_rode_8 rfl (lv_at hl 2 rfl) ?_
    refine lv_iconst (v := (-1)) hx hb dX8_rode_9 (by decide) ?_
    refine jn_use (P := fun (t3 : Unit) => ∀ (H : Heap) (locs : List Loc) (ls : Array Slot), GM g A s.heap H locs [wX8 g o ad s0] → lv_has ls 5 [(0, .ref o), (1, .int a1), (2, .int a2)] → W p l e rmX8_rode s m args below meth c H locs 0 0 Q (F0 m 30 ls [])) hf (fun t3 hf H locs ls hG hl => ?_) (fun K4 hK4 hf => ?_)
    · refine lv_aload_n hx hb dX8_rode_30 rfl (lv_at hl 0 rfl) ?_
      refine lv_iload_n hx hb dX8_rode_31 rfl (lv_at hl 1 rfl) ?_
      refine lv_aload_n hx hb dX8_rode_32 rfl (lv_at hl 0 rfl) ?_
      refine G_8_143 X hG 0 rfl dX8_rode_33 ?_
      obtain ⟨q5, hq5, hf⟩ := cl_inv hf
      refine r_callVv (bc := [wX8 g o ad s0]) (br := []) (bs' := [wX8 g o ad q5]) (As := [.int a1, .int (s0.1 6)]) (rest := []) X hG hl.1 (c_X8_day g l o ad n a1 (s0.1 6) s0 q5 hq5) (List.Perm.refl _) (List.Perm.refl _) lk_X8_day lv_X8_day ml_8_292 (j := 0) (k := 0) rfl rfl rfl rfl rfl ⟨Nat.le_of_ble_eq_true rfl, Nat.le_of_ble_eq_true rfl⟩ rfl rfl (Nat.le_of_ble_eq_true rfl) ⟨Nat.zero_le _, Nat.zero_le _⟩ dX8_rode_36 (fun H locs hG => ?_)
      refine lv_iconst (v := 0) hx hb dX8_rode_39 (by decide) ?_
      refine lv_istore_n (lv' := [(3, .int 0), (0, .ref o), (1, .int a1), (2, .int a2)]) hx hb dX8_rode_40 rfl hl (by decide) rfl (fun ls hl => ?_)
      refine lv_iconst (v := 0) hx hb dX8_rode_41 (by decide) ?_
      refine lv_istore (lv' := [(4, .int 0), (3, .int 0), (0, .ref o), (1, .int a1), (2, .int a2)]) hx hb dX8_rode_42 hl (by decide) rfl (fun ls hl => ?_)
      refine lp_go (P := fun (t6 : Int32 × Int32) => ∀ (H : Heap) (locs : List Loc) (ls : Array Slot), GM g A s.heap H locs [wX8 g o ad q5] → lv_has ls 5 [(0, .ref o), (2, .int a2), (3, .int t6.1), (4, .int t6.2)] → W p l e rmX8_rode s m args below meth c H locs 0 0 Q (F0 m 44 ls [])) hf (fun K7 hK7 t6 hf H locs ls hG hl => ?_) _ _ _ hG (lv_sub hl [2, 4, 1, 0] rfl)
      refine lv_iload hx hb dX8_rode_44 (lv_at hl 3 rfl) ?_
      refine lv_aload_n hx hb dX8_rode_46 rfl (lv_at hl 0 rfl) ?_
      refine G_8_143 X hG 0 rfl dX8_rode_47 ?_
      refine lv_icmp_ge (tgt := 80) hx hb dX8_rode_50 (by decide) (fun hc8 => ?_) (fun hc8 => ?_)
      · replace hf := ite_t hf hc8
        refine lv_iload_n hx hb dX8_rode_80 rfl (lv_at hl 2 rfl) ?_
        have hq9 := Option.some.inj hf
        subst hq9
        subst hQ
        exact r_iret X hG dX8_rode_81
      · replace hf := ite_f hf hc8
        refine lv_iload_n hx hb dX8_rode_53 rfl (lv_at hl 1 rfl) ?_
        refine lv_iconst (v := (-1)) hx hb dX8_rode_54 (by decide) ?_
        refine jn_use (P := fun (t9 : Int32) => ∀ (H : Heap) (locs : List Loc) (ls : Array Slot), GM g A s.heap H locs [wX8 g o ad q5] → lv_has ls 5 [(0, .ref o), (2, .int a2), (3, .int t9), (4, .int t6.2)] → W p l e rmX8_rode s m args below meth c H locs 0 0 Q (F0 m 74 ls [])) hf (fun t9 hf H locs ls hG hl => ?_) (fun K10 hK10 hf => ?_)
        · refine lv_iinc (v := (t6.2 + 1)) (lv' := [(4, .int (t6.2 + 1)), (0, .ref o), (2, .int a2), (3, .int t9)]) hx hb dX8_rode_74 hl (k := 3) rfl rfl (by decide) rfl (fun ls hl => ?_)
          refine lv_goto (tgt := 44) hx hb dX8_rode_77 (by decide) ?_
          exact hK7 _ hf _ _ _ hG (lv_sub hl [1, 2, 3, 0] rfl)
        refine jn_use (P := fun (t11 : Unit) => ∀ (H : Heap) (locs : List Loc) (ls : Array Slot), GM g A s.heap H locs [wX8 g o ad q5] → lv_has ls 5 [(0, .ref o), (2, .int a2), (3, .int t6.1), (4, .int t6.2)] → W p l e rmX8_rode s m args below meth c H locs 0 0 Q (F0 m 64 ls [])) hf (fun t11 hf H locs ls hG hl => ?_) (fun K12 hK12 hf => ?_)
        · refine lv_iload_n hx hb dX8_rode_64 rfl (lv_at hl 2 rfl) ?_
          refine lv_aload_n hx hb dX8_rode_65 rfl (lv_at hl 0 rfl) ?_
          refine G_8_90 X hG 0 rfl dX8_rode_66 ?_
          refine lv_iload hx hb dX8_rode_69 (lv_at hl 3 rfl) ?_
          refine r_iald X hG 0 23 rfl rfl hf dX8_rode_71 (fun x13 hf => ?_)
          refine lv_iadd hx hb dX8_rode_72 ?_
          refine r_bni hf (fun x14 hf => ?_)
          refine lv_istore_n (lv' := [(3, .int x14), (0, .ref o), (2, .int a2), (4, .int t6.2)]) hx hb dX8_rode_73 rfl hl (by decide) rfl (fun ls hl => ?_)
          exact hK10 _ hf _ _ _ hG (lv_sub hl [1, 2, 0, 3] rfl)
        refine lv_icmp_eq (tgt := 64) hx hb dX8_rode_55 (by decide) (fun hc15 => ?_) (fun hc15 => ?_)
        · replace hf := ite_t hf hc15
          exact hK12 _ hf _ _ _ hG (lv_sub hl [0, 1, 2, 3] rfl)
        · replace hf := ite_f hf hc15
          refine lv_iload hx hb dX8_rode_58 (lv_at hl 3 rfl) ?_
          refine lv_iload_n hx hb dX8_rode_60 rfl (lv_at hl 1 rfl) ?_
          refine lv_icmp_ne (tgt := 74) hx hb dX8_rode_61 (by decide) (fun hc16 => ?_) (fun hc16 => ?_)
          · replace hf := ite_f hf hc16
            exact hK10 _ hf _ _ _ hG (lv_sub hl [0, 1, 2, 3] rfl)
          · replace hf := ite_t hf hc16
            exact hK12 _ hf _ _ _ hG (lv_sub hl [0, 1, 2, 3] rfl)
    refine lv_icmp_eq (tgt := 30) hx hb dX8_rode_10 (by decide) (fun hc17 => ?_) (fun hc17 => ?_)
    · replace hf := ite_t hf hc17
      exact hK4 _ hf _ _ _ hG (lv_sub hl [0, 1, 2] rfl)
    · replace hf := ite_f hf hc17
      refine lv_iload_n hx hb dX8_rode_13 rfl (lv_at hl 2 rfl) ?_
      refine lv_iconst (v := 0) hx hb dX8_rode_14 (by decide) ?_
      refine lv_aload_n hx hb dX8_rode_15 rfl (lv_at hl 0 rfl) ?_
      refine G_8_143 X hG 0 rfl dX8_rode_16 ?_
      refine lv_iconst (v := 1) hx hb dX8_rode_19 (by decide) ?_
      refine lv_isub hx hb dX8_rode_20 ?_
      obtain ⟨q18, hq18, hf⟩ := cl_inv hf
      refine r_callSi (bc := []) (br := [wX8 g o ad s0]) (bs' := [wX8 g o ad s0]) (As := [.int a2, .int 0, .int ((s0.1 6) - 1)]) (rest := []) X hG hl.1 (c_X8_in g l  n a2 0 ((s0.1 6) - 1) q18 hq18) (List.Perm.refl _) (List.Perm.refl _) lk_X8_in ls_X8_in ml_8_132 rfl rfl ⟨Nat.le_of_ble_eq_true rfl, Nat.le_of_ble_eq_true rfl⟩ rfl rfl (Nat.le_of_ble_eq_true rfl) ⟨Nat.zero_le _, Nat.zero_le _⟩ dX8_rode_21 (fun H locs hG => ?_)
      refine lv_if_ne (tgt := 30) hx hb dX8_rode_24 (by decide) (fun hc19 => ?_) (fun hc19 => ?_)
      · replace hf := ite_f hf hc19
        exact hK4 _ hf _ _ _ hG (lv_sub hl [0, 1, 2] rfl)
      · replace hf := ite_t hf hc19
        refine lv_bipush (v := (-2)) hx hb dX8_rode_27 (by decide) ?_
        have hq9 := Option.some.inj hf
        subst hq9
        subst hQ
        exact r_iret X hG dX8_rode_29
def rmX8_waits : Room := { frames := 4, cells := 0, slots := 0, locals := 100 }
set_option maxHeartbeats 4000000 in
set_option maxRecDepth 100000 in
theorem c_X8_waits (g : GT) (l : Launch) (o : Nat) (ad : Nat → Nat) (n : Nat) (a1 : Int32) (a2 : Int32) (s0 : MS) (q : Int32 × MS) (hf : f_X8_waits n a1 a2 s0 = some q) : CI g l yX8_waits cX8_waits 3 (some .int) rmX8_waits [.ref o, .int a1, .int a2] [wX8 g o ad s0] q.1 [wX8 g o ad q.2] := by
  refine CI_intro RX8 rfl (by decide +kernel) (Nat.le_of_ble_eq_true rfl) ?_
  intro p e s m args below meth c A ls Q hQ X hl hG
  have hl : lv_has ls 3 [(0, .ref o), (1, .int a1), (2, .int a2)] := hl
  have hx := X.1
  have hb := X.2.1
  have hown := X.2.2.2.1
  unfold f_X8_waits at hf
  refine lv_aload_n hx hb dX8_waits_0 rfl (lv_at hl 0 rfl) ?_
  refine lv_iload_n hx hb dX8_waits_1 rfl (lv_at hl 1 rfl) ?_
  obtain ⟨q1, hq1, hf⟩ := cl_inv hf
  refine r_callVi (bc := [wX8 g o ad s0]) (br := []) (bs' := [wX8 g o ad s0]) (As := [.int a1]) (rest := []) X hG hl.1 (c_X8_isWay g l o ad n a1 s0 q1 hq1) (List.Perm.refl _) (List.Perm.refl _) lk_X8_isWay lv_X8_isWay ml_8_152 (j := 0) (k := 0) rfl rfl rfl rfl rfl ⟨Nat.le_of_ble_eq_true rfl, Nat.le_of_ble_eq_true rfl⟩ rfl rfl (Nat.le_of_ble_eq_true rfl) ⟨Nat.zero_le _, Nat.zero_le _⟩ dX8_waits_2 (fun H locs hG => ?_)
  refine lv_if_eq (tgt := 17) hx hb dX8_waits_5 (by decide) (fun hc2 => ?_) (fun hc2 => ?_)
  · replace hf := ite_t hf hc2
    refine lv_bipush (v := (-2)) hx hb dX8_waits_17 (by decide) ?_
    have hq9 := Option.some.inj hf
    subst hq9
    subst hQ
    exact r_iret X hG dX8_waits_19
  · replace hf := ite_f hf hc2
    refine lv_iload_n hx hb dX8_waits_8 rfl (lv_at hl 2 rfl) ?_
    refine lv_iconst (v := 0) hx hb dX8_waits_9 (by decide) ?_
    refine lv_iconst (v := 1) hx hb dX8_waits_10 (by decide) ?_
    obtain ⟨q3, hq3, hf⟩ := cl_inv hf
    refine r_callSi (bc := []) (br := [wX8 g o ad s0]) (bs' := [wX8 g o ad s0]) (As := [.int a2, .int 0, .int 1]) (rest := []) X hG hl.1 (c_X8_in g l  n a2 0 1 q3 hq3) (List.Perm.refl _) (List.Perm.refl _) lk_X8_in ls_X8_in ml_8_132 rfl rfl ⟨Nat.le_of_ble_eq_true rfl, Nat.le_of_ble_eq_true rfl⟩ rfl rfl (Nat.le_of_ble_eq_true rfl) ⟨Nat.zero_le _, Nat.zero_le _⟩ dX8_waits_11 (fun H locs hG => ?_)
    refine lv_if_ne (tgt := 20) hx hb dX8_waits_14 (by decide) (fun hc4 => ?_) (fun hc4 => ?_)
    · replace hf := ite_f hf hc4
      refine lv_aload_n hx hb dX8_waits_20 rfl (lv_at hl 0 rfl) ?_
      refine lv_iload_n hx hb dX8_waits_21 rfl (lv_at hl 1 rfl) ?_
      refine lv_aload_n hx hb dX8_waits_22 rfl (lv_at hl 0 rfl) ?_
      refine G_8_143 X hG 0 rfl dX8_waits_23 ?_
      obtain ⟨q5, hq5, hf⟩ := cl_inv hf
      refine r_callVv (bc := [wX8 g o ad s0]) (br := []) (bs' := [wX8 g o ad q5]) (As := [.int a1, .int (s0.1 6)]) (rest := []) X hG hl.1 (c_X8_day g l o ad n a1 (s0.1 6) s0 q5 hq5) (List.Perm.refl _) (List.Perm.refl _) lk_X8_day lv_X8_day ml_8_292 (j := 0) (k := 0) rfl rfl rfl rfl rfl ⟨Nat.le_of_ble_eq_true rfl, Nat.le_of_ble_eq_true rfl⟩ rfl rfl (Nat.le_of_ble_eq_true rfl) ⟨Nat.zero_le _, Nat.zero_le _⟩ dX8_waits_26 (fun H locs hG => ?_)
      refine lv_iload_n hx hb dX8_waits_29 rfl (lv_at hl 2 rfl) ?_
      refine lv_if_ne (tgt := 40) hx hb dX8_waits_30 (by decide) (fun hc6 => ?_) (fun hc6 => ?_)
      · replace hf := ite_f hf hc6
        refine lv_aload_n hx hb dX8_waits_40 rfl (lv_at hl 0 rfl) ?_
        refine G_8_283 X hG 0 rfl dX8_waits_41 ?_
        have hq9 := Option.some.inj hf
        subst hq9
        subst hQ
        exact r_iret X hG dX8_waits_44
      · replace hf := ite_t hf hc6
        refine lv_aload_n hx hb dX8_waits_33 rfl (lv_at hl 0 rfl) ?_
        refine G_8_280 X hG 0 rfl dX8_waits_34 ?_
        refine lv_goto (tgt := 44) hx hb dX8_waits_37 (by decide) ?_
        have hq9 := Option.some.inj hf
        subst hq9
        subst hQ
        exact r_iret X hG dX8_waits_44
    · replace hf := ite_t hf hc4
      refine lv_bipush (v := (-2)) hx hb dX8_waits_17 (by decide) ?_
      have hq9 := Option.some.inj hf
      subst hq9
      subst hQ
      exact r_iret X hG dX8_waits_19
def rmX8_down : Room := { frames := 4, cells := 0, slots := 0, locals := 100 }
set_option maxHeartbeats 4000000 in
set_option maxRecDepth 100000 in
theorem c_X8_down (g : GT) (l : Launch) (o : Nat) (ad : Nat → Nat) (n : Nat) (a1 : Int32) (a2 : Int32) (a3 : Int32) (s0 : MS) (q : Int32 × MS) (hf : f_X8_down n a1 a2 a3 s0 = some q) : CI g l yX8_down cX8_down 6 (some .int) rmX8_down [.ref o, .int a1, .int a2, .int a3] [wX8 g o ad s0] q.1 [wX8 g o ad q.2] := by
  refine CI_intro RX8 rfl (by decide +kernel) (Nat.le_of_ble_eq_true rfl) ?_
  intro p e s m args below meth c A ls Q hQ X hl hG
  have hl : lv_has ls 6 [(0, .ref o), (1, .int a1), (2, .int a2), (3, .int a3)] := hl
  have hx := X.1
  have hb := X.2.1
  have hown := X.2.2.2.1
  unfold f_X8_down at hf
  refine lv_aload_n hx hb dX8_down_0 rfl (lv_at hl 0 rfl) ?_
  refine lv_iload_n hx hb dX8_down_1 rfl (lv_at hl 1 rfl) ?_
  obtain ⟨q1, hq1, hf⟩ := cl_inv hf
  refine r_callVi (bc := [wX8 g o ad s0]) (br := []) (bs' := [wX8 g o ad s0]) (As := [.int a1]) (rest := []) X hG hl.1 (c_X8_isWay g l o ad n a1 s0 q1 hq1) (List.Perm.refl _) (List.Perm.refl _) lk_X8_isWay lv_X8_isWay ml_8_152 (j := 0) (k := 0) rfl rfl rfl rfl rfl ⟨Nat.le_of_ble_eq_true rfl, Nat.le_of_ble_eq_true rfl⟩ rfl rfl (Nat.le_of_ble_eq_true rfl) ⟨Nat.zero_le _, Nat.zero_le _⟩ dX8_down_2 (fun H locs hG => ?_)
  refine lv_if_eq (tgt := 35) hx hb dX8_down_5 (by decide) (fun hc2 => ?_) (fun hc2 => ?_)
  · replace hf := ite_t hf hc2
    refine lv_bipush (v := (-2)) hx hb dX8_down_35 (by decide) ?_
    have hq9 := Option.some.inj hf
    subst hq9
    subst hQ
    exact r_iret X hG dX8_down_37
  · replace hf := ite_f hf hc2
    refine lv_iload_n hx hb dX8_down_8 rfl (lv_at hl 2 rfl) ?_
    refine lv_iconst (v := (-1)) hx hb dX8_down_9 (by decide) ?_
    refine jn_use (P := fun (t3 : Unit) => ∀ (H : Heap) (locs : List Loc) (ls : Array Slot), GM g A s.heap H locs [wX8 g o ad s0] → lv_has ls 6 [(0, .ref o), (1, .int a1), (2, .int a2), (3, .int a3)] → W p l e rmX8_down s m args below meth c H locs 0 0 Q (F0 m 21 ls [])) hf (fun t3 hf H locs ls hG hl => ?_) (fun K4 hK4 hf => ?_)
    · refine lv_iload_n hx hb dX8_down_21 rfl (lv_at hl 3 rfl) ?_
      refine lv_iconst (v := 0) hx hb dX8_down_22 (by decide) ?_
      refine lv_aload_n hx hb dX8_down_23 rfl (lv_at hl 0 rfl) ?_
      refine G_8_43 X hG 0 rfl dX8_down_24 ?_
      refine lv_iconst (v := 1) hx hb dX8_down_27 (by decide) ?_
      refine lv_isub hx hb dX8_down_28 ?_
      obtain ⟨q5, hq5, hf⟩ := cl_inv hf
      refine r_callSi (bc := []) (br := [wX8 g o ad s0]) (bs' := [wX8 g o ad s0]) (As := [.int a3, .int 0, .int ((s0.1 15) - 1)]) (rest := []) X hG hl.1 (c_X8_in g l  n a3 0 ((s0.1 15) - 1) q5 hq5) (List.Perm.refl _) (List.Perm.refl _) lk_X8_in ls_X8_in ml_8_132 rfl rfl ⟨Nat.le_of_ble_eq_true rfl, Nat.le_of_ble_eq_true rfl⟩ rfl rfl (Nat.le_of_ble_eq_true rfl) ⟨Nat.zero_le _, Nat.zero_le _⟩ dX8_down_29 (fun H locs hG => ?_)
      refine lv_if_ne (tgt := 38) hx hb dX8_down_32 (by decide) (fun hc6 => ?_) (fun hc6 => ?_)
      · replace hf := ite_f hf hc6
        refine lv_aload_n hx hb dX8_down_38 rfl (lv_at hl 0 rfl) ?_
        refine lv_iload_n hx hb dX8_down_39 rfl (lv_at hl 1 rfl) ?_
        refine lv_aload_n hx hb dX8_down_40 rfl (lv_at hl 0 rfl) ?_
        refine G_8_143 X hG 0 rfl dX8_down_41 ?_
        obtain ⟨q7, hq7, hf⟩ := cl_inv hf
        refine r_callVv (bc := [wX8 g o ad s0]) (br := []) (bs' := [wX8 g o ad q7]) (As := [.int a1, .int (s0.1 6)]) (rest := []) X hG hl.1 (c_X8_day g l o ad n a1 (s0.1 6) s0 q7 hq7) (List.Perm.refl _) (List.Perm.refl _) lk_X8_day lv_X8_day ml_8_292 (j := 0) (k := 0) rfl rfl rfl rfl rfl ⟨Nat.le_of_ble_eq_true rfl, Nat.le_of_ble_eq_true rfl⟩ rfl rfl (Nat.le_of_ble_eq_true rfl) ⟨Nat.zero_le _, Nat.zero_le _⟩ dX8_down_44 (fun H locs hG => ?_)
        refine lv_iconst (v := 0) hx hb dX8_down_47 (by decide) ?_
        refine lv_istore (lv' := [(4, .int 0), (0, .ref o), (1, .int a1), (2, .int a2), (3, .int a3)]) hx hb dX8_down_48 hl (by decide) rfl (fun ls hl => ?_)
        refine lv_iconst (v := 0) hx hb dX8_down_50 (by decide) ?_
        refine lv_istore (lv' := [(5, .int 0), (4, .int 0), (0, .ref o), (1, .int a1), (2, .int a2), (3, .int a3)]) hx hb dX8_down_51 hl (by decide) rfl (fun ls hl => ?_)
        refine lp_go (P := fun (t8 : Int32 × Int32) => ∀ (H : Heap) (locs : List Loc) (ls : Array Slot), GM g A s.heap H locs [wX8 g o ad q7] → lv_has ls 6 [(0, .ref o), (2, .int a2), (3, .int a3), (4, .int t8.1), (5, .int t8.2)] → W p l e rmX8_down s m args below meth c H locs 0 0 Q (F0 m 53 ls [])) hf (fun K9 hK9 t8 hf H locs ls hG hl => ?_) _ _ _ hG (lv_sub hl [2, 4, 5, 1, 0] rfl)
        refine lv_iload hx hb dX8_down_53 (lv_at hl 4 rfl) ?_
        refine lv_aload_n hx hb dX8_down_55 rfl (lv_at hl 0 rfl) ?_
        refine G_8_129 X hG 0 rfl dX8_down_56 ?_
        refine lv_icmp_ge (tgt := 96) hx hb dX8_down_59 (by decide) (fun hc10 => ?_) (fun hc10 => ?_)
        · replace hf := ite_t hf hc10
          refine lv_iload hx hb dX8_down_96 (lv_at hl 3 rfl) ?_
          have hq9 := Option.some.inj hf
          subst hq9
          subst hQ
          exact r_iret X hG dX8_down_98
        · replace hf := ite_f hf hc10
          refine lv_iload_n hx hb dX8_down_62 rfl (lv_at hl 1 rfl) ?_
          refine lv_iconst (v := (-1)) hx hb dX8_down_63 (by decide) ?_
          refine jn_use (P := fun (t11 : Int32) => ∀ (H : Heap) (locs : List Loc) (ls : Array Slot), GM g A s.heap H locs [wX8 g o ad q7] → lv_has ls 6 [(0, .ref o), (2, .int a2), (3, .int a3), (4, .int t11), (5, .int t8.2)] → W p l e rmX8_down s m args below meth c H locs 0 0 Q (F0 m 90 ls [])) hf (fun t11 hf H locs ls hG hl => ?_) (fun K12 hK12 hf => ?_)
          · refine lv_iinc (v := (t8.2 + 1)) (lv' := [(5, .int (t8.2 + 1)), (0, .ref o), (2, .int a2), (3, .int a3), (4, .int t11)]) hx hb dX8_down_90 hl (k := 4) rfl rfl (by decide) rfl (fun ls hl => ?_)
            refine lv_goto (tgt := 53) hx hb dX8_down_93 (by decide) ?_
            exact hK9 _ hf _ _ _ hG (lv_sub hl [1, 2, 3, 4, 0] rfl)
          refine jn_use (P := fun (t13 : Unit) => ∀ (H : Heap) (locs : List Loc) (ls : Array Slot), GM g A s.heap H locs [wX8 g o ad q7] → lv_has ls 6 [(0, .ref o), (2, .int a2), (3, .int a3), (4, .int t8.1), (5, .int t8.2)] → W p l e rmX8_down s m args below meth c H locs 0 0 Q (F0 m 73 ls [])) hf (fun t13 hf H locs ls hG hl => ?_) (fun K14 hK14 hf => ?_)
          · refine lv_iload hx hb dX8_down_73 (lv_at hl 3 rfl) ?_
            refine lv_aload_n hx hb dX8_down_75 rfl (lv_at hl 0 rfl) ?_
            refine G_8_93 X hG 0 rfl dX8_down_76 ?_
            refine lv_bipush (v := 120) hx hb dX8_down_79 (by decide) ?_
            refine lv_iload hx hb dX8_down_81 (lv_at hl 4 rfl) ?_
            refine lv_imul hx hb dX8_down_83 ?_
            refine lv_iload_n hx hb dX8_down_84 rfl (lv_at hl 2 rfl) ?_
            refine lv_iadd hx hb dX8_down_85 ?_
            refine r_iald X hG 0 24 rfl rfl hf dX8_down_86 (fun x15 hf => ?_)
            refine lv_iadd hx hb dX8_down_87 ?_
            refine r_bni hf (fun x16 hf => ?_)
            refine lv_istore (lv' := [(4, .int x16), (0, .ref o), (2, .int a2), (3, .int a3), (5, .int t8.2)]) hx hb dX8_down_88 hl (by decide) rfl (fun ls hl => ?_)
            exact hK12 _ hf _ _ _ hG (lv_sub hl [1, 2, 3, 0, 4] rfl)
          refine lv_icmp_eq (tgt := 73) hx hb dX8_down_64 (by decide) (fun hc17 => ?_) (fun hc17 => ?_)
          · replace hf := ite_t hf hc17
            exact hK14 _ hf _ _ _ hG (lv_sub hl [0, 1, 2, 3, 4] rfl)
          · replace hf := ite_f hf hc17
            refine lv_iload hx hb dX8_down_67 (lv_at hl 4 rfl) ?_
            refine lv_iload_n hx hb dX8_down_69 rfl (lv_at hl 1 rfl) ?_
            refine lv_icmp_ne (tgt := 90) hx hb dX8_down_70 (by decide) (fun hc18 => ?_) (fun hc18 => ?_)
            · replace hf := ite_f hf hc18
              exact hK12 _ hf _ _ _ hG (lv_sub hl [0, 1, 2, 3, 4] rfl)
            · replace hf := ite_t hf hc18
              exact hK14 _ hf _ _ _ hG (lv_sub hl [0, 1, 2, 3, 4] rfl)
      · replace hf := ite_t hf hc6
        refine lv_bipush (v := (-2)) hx hb dX8_down_35 (by decide) ?_
        have hq9 := Option.some.inj hf
        subst hq9
        subst hQ
        exact r_iret X hG dX8_down_37
    refine lv_icmp_eq (tgt := 21) hx hb dX8_down_10 (by decide) (fun hc19 => ?_) (fun hc19 => ?_)
    · replace hf := ite_t hf hc19
      exact hK4 _ hf _ _ _ hG (lv_sub hl [0, 1, 2, 3] rfl)
    · replace hf := ite_f hf hc19
      refine lv_aload_n hx hb dX8_down_13 rfl (lv_at hl 0 rfl) ?_
      refine lv_iload_n hx hb dX8_down_14 rfl (lv_at hl 2 rfl) ?_
      obtain ⟨q20, hq20, hf⟩ := cl_inv hf
      refine r_callVi (bc := [wX8 g o ad s0]) (br := []) (bs' := [wX8 g o ad s0]) (As := [.int a2]) (rest := []) X hG hl.1 (c_X8_isSort g l o ad n a2 s0 q20 hq20) (List.Perm.refl _) (List.Perm.refl _) lk_X8_isSort lv_X8_isSort ml_8_146 (j := 0) (k := 0) rfl rfl rfl rfl rfl ⟨Nat.le_of_ble_eq_true rfl, Nat.le_of_ble_eq_true rfl⟩ rfl rfl (Nat.le_of_ble_eq_true rfl) ⟨Nat.zero_le _, Nat.zero_le _⟩ dX8_down_15 (fun H locs hG => ?_)
      refine lv_if_eq (tgt := 35) hx hb dX8_down_18 (by decide) (fun hc21 => ?_) (fun hc21 => ?_)
      · replace hf := ite_t hf hc21
        refine lv_bipush (v := (-2)) hx hb dX8_down_35 (by decide) ?_
        have hq9 := Option.some.inj hf
        subst hq9
        subst hQ
        exact r_iret X hG dX8_down_37
      · replace hf := ite_f hf hc21
        exact hK4 _ hf _ _ _ hG (lv_sub hl [0, 1, 2, 3] rfl)
def rmX8_behind : Room := { frames := 4, cells := 0, slots := 0, locals := 100 }
set_option maxHeartbeats 4000000 in
set_option maxRecDepth 100000 in
theorem c_X8_behind (g : GT) (l : Launch) (o : Nat) (ad : Nat → Nat) (n : Nat) (a1 : Int32) (a2 : Int32) (s0 : MS) (q : Int32 × MS) (hf : f_X8_behind n a1 a2 s0 = some q) : CI g l yX8_behind cX8_behind 6 (some .int) rmX8_behind [.ref o, .int a1, .int a2] [wX8 g o ad s0] q.1 [wX8 g o ad q.2] := by
  refine CI_intro RX8 rfl (by decide +kernel) (Nat.le_of_ble_eq_true rfl) ?_
  intro p e s m args below meth c A ls Q hQ X hl hG
  have hl : lv_has ls 6 [(0, .ref o), (1, .int a1), (2, .int a2)] := hl
  have hx := X.1
  have hb := X.2.1
  have hown := X.2.2.2.1
  unfold f_X8_behind at hf
  refine lv_aload_n hx hb dX8_behind_0 rfl (lv_at hl 0 rfl) ?_
  refine lv_iload_n hx hb dX8_behind_1 rfl (lv_at hl 1 rfl) ?_
  obtain ⟨q1, hq1, hf⟩ := cl_inv hf
  refine r_callVi (bc := [wX8 g o ad s0]) (br := []) (bs' := [wX8 g o ad s0]) (As := [.int a1]) (rest := []) X hG hl.1 (c_X8_isWay g l o ad n a1 s0 q1 hq1) (List.Perm.refl _) (List.Perm.refl _) lk_X8_isWay lv_X8_isWay ml_8_152 (j := 0) (k := 0) rfl rfl rfl rfl rfl ⟨Nat.le_of_ble_eq_true rfl, Nat.le_of_ble_eq_true rfl⟩ rfl rfl (Nat.le_of_ble_eq_true rfl) ⟨Nat.zero_le _, Nat.zero_le _⟩ dX8_behind_2 (fun H locs hG => ?_)
  refine lv_if_eq (tgt := 19) hx hb dX8_behind_5 (by decide) (fun hc2 => ?_) (fun hc2 => ?_)
  · replace hf := ite_t hf hc2
    refine lv_bipush (v := (-2)) hx hb dX8_behind_19 (by decide) ?_
    have hq9 := Option.some.inj hf
    subst hq9
    subst hQ
    exact r_iret X hG dX8_behind_21
  · replace hf := ite_f hf hc2
    refine lv_iload_n hx hb dX8_behind_8 rfl (lv_at hl 2 rfl) ?_
    refine lv_iconst (v := 0) hx hb dX8_behind_9 (by decide) ?_
    refine lv_sipush (v := 2400) hx hb dX8_behind_10 (by decide) ?_
    obtain ⟨q3, hq3, hf⟩ := cl_inv hf
    refine r_callSi (bc := []) (br := [wX8 g o ad s0]) (bs' := [wX8 g o ad s0]) (As := [.int a2, .int 0, .int 2400]) (rest := []) X hG hl.1 (c_X8_in g l  n a2 0 2400 q3 hq3) (List.Perm.refl _) (List.Perm.refl _) lk_X8_in ls_X8_in ml_8_132 rfl rfl ⟨Nat.le_of_ble_eq_true rfl, Nat.le_of_ble_eq_true rfl⟩ rfl rfl (Nat.le_of_ble_eq_true rfl) ⟨Nat.zero_le _, Nat.zero_le _⟩ dX8_behind_13 (fun H locs hG => ?_)
    refine lv_if_ne (tgt := 22) hx hb dX8_behind_16 (by decide) (fun hc4 => ?_) (fun hc4 => ?_)
    · replace hf := ite_f hf hc4
      refine lv_aload_n hx hb dX8_behind_22 rfl (lv_at hl 0 rfl) ?_
      refine lv_iload_n hx hb dX8_behind_23 rfl (lv_at hl 1 rfl) ?_
      refine lv_aload_n hx hb dX8_behind_24 rfl (lv_at hl 0 rfl) ?_
      refine G_8_143 X hG 0 rfl dX8_behind_25 ?_
      obtain ⟨q5, hq5, hf⟩ := cl_inv hf
      refine r_callVv (bc := [wX8 g o ad s0]) (br := []) (bs' := [wX8 g o ad q5]) (As := [.int a1, .int (s0.1 6)]) (rest := []) X hG hl.1 (c_X8_day g l o ad n a1 (s0.1 6) s0 q5 hq5) (List.Perm.refl _) (List.Perm.refl _) lk_X8_day lv_X8_day ml_8_292 (j := 0) (k := 0) rfl rfl rfl rfl rfl ⟨Nat.le_of_ble_eq_true rfl, Nat.le_of_ble_eq_true rfl⟩ rfl rfl (Nat.le_of_ble_eq_true rfl) ⟨Nat.zero_le _, Nat.zero_le _⟩ dX8_behind_28 (fun H locs hG => ?_)
      refine lv_iconst (v := 0) hx hb dX8_behind_31 (by decide) ?_
      refine lv_istore_n (lv' := [(3, .int 0), (0, .ref o), (1, .int a1), (2, .int a2)]) hx hb dX8_behind_32 rfl hl (by decide) rfl (fun ls hl => ?_)
      refine lp_go (P := fun (t6 : Int32) => ∀ (H : Heap) (locs : List Loc) (ls : Array Slot), GM g A s.heap H locs [wX8 g o ad q5] → lv_has ls 6 [(0, .ref o), (2, .int a2), (3, .int t6)] → W p l e rmX8_behind s m args below meth c H locs 0 0 Q (F0 m 33 ls [])) hf (fun K7 hK7 t6 hf H locs ls hG hl => ?_) _ _ _ hG (lv_sub hl [1, 3, 0] rfl)
      refine lv_iload_n hx hb dX8_behind_33 rfl (lv_at hl 2 rfl) ?_
      refine lv_aload_n hx hb dX8_behind_34 rfl (lv_at hl 0 rfl) ?_
      refine G_8_43 X hG 0 rfl dX8_behind_35 ?_
      refine lv_icmp_ge (tgt := 93) hx hb dX8_behind_38 (by decide) (fun hc8 => ?_) (fun hc8 => ?_)
      · replace hf := ite_t hf hc8
        refine lv_iconst (v := (-1)) hx hb dX8_behind_93 (by decide) ?_
        have hq9 := Option.some.inj hf
        subst hq9
        subst hQ
        exact r_iret X hG dX8_behind_94
      · replace hf := ite_f hf hc8
        refine lv_iconst (v := 0) hx hb dX8_behind_41 (by decide) ?_
        refine lv_istore (lv' := [(4, .int 0), (0, .ref o), (2, .int a2), (3, .int t6)]) hx hb dX8_behind_42 hl (by decide) rfl (fun ls hl => ?_)
        refine lv_iconst (v := 0) hx hb dX8_behind_44 (by decide) ?_
        refine lv_istore (lv' := [(5, .int 0), (4, .int 0), (0, .ref o), (2, .int a2), (3, .int t6)]) hx hb dX8_behind_45 hl (by decide) rfl (fun ls hl => ?_)
        refine lp_go (P := fun (t9 : Int32 × Int32) => ∀ (H : Heap) (locs : List Loc) (ls : Array Slot), GM g A s.heap H locs [wX8 g o ad q5] → lv_has ls 6 [(0, .ref o), (2, .int a2), (3, .int t6), (4, .int t9.1), (5, .int t9.2)] → W p l e rmX8_behind s m args below meth c H locs 0 0 Q (F0 m 47 ls [])) hf (fun K10 hK10 t9 hf H locs ls hG hl => ?_) _ _ _ hG (lv_sub hl [2, 3, 4, 1, 0] rfl)
        refine lv_iload hx hb dX8_behind_47 (lv_at hl 4 rfl) ?_
        refine lv_aload_n hx hb dX8_behind_49 rfl (lv_at hl 0 rfl) ?_
        refine G_8_129 X hG 0 rfl dX8_behind_50 ?_
        refine lv_icmp_ge (tgt := 79) hx hb dX8_behind_53 (by decide) (fun hc11 => ?_) (fun hc11 => ?_)
        · replace hf := ite_t hf hc11
          refine lv_iload hx hb dX8_behind_79 (lv_at hl 3 rfl) ?_
          refine lv_iload_n hx hb dX8_behind_81 rfl (lv_at hl 1 rfl) ?_
          refine lv_icmp_lt (tgt := 87) hx hb dX8_behind_82 (by decide) (fun hc12 => ?_) (fun hc12 => ?_)
          · replace hf := ite_t hf hc12
            refine lv_iinc (v := (t6 + 1)) (lv' := [(3, .int (t6 + 1)), (0, .ref o), (2, .int a2), (4, .int t9.1), (5, .int t9.2)]) hx hb dX8_behind_87 hl (k := 2) rfl rfl (by decide) rfl (fun ls hl => ?_)
            refine lv_goto (tgt := 33) hx hb dX8_behind_90 (by decide) ?_
            exact hK7 _ hf _ _ _ hG (lv_sub hl [1, 2, 0] rfl)
          · replace hf := ite_f hf hc12
            refine lv_iload_n hx hb dX8_behind_85 rfl (lv_at hl 2 rfl) ?_
            have hq9 := Option.some.inj hf
            subst hq9
            subst hQ
            exact r_iret X hG dX8_behind_86
        · replace hf := ite_f hf hc11
          refine lv_iload hx hb dX8_behind_56 (lv_at hl 3 rfl) ?_
          refine lv_aload_n hx hb dX8_behind_58 rfl (lv_at hl 0 rfl) ?_
          refine G_8_93 X hG 0 rfl dX8_behind_59 ?_
          refine lv_bipush (v := 120) hx hb dX8_behind_62 (by decide) ?_
          refine lv_iload hx hb dX8_behind_64 (lv_at hl 4 rfl) ?_
          refine lv_imul hx hb dX8_behind_66 ?_
          refine lv_iload_n hx hb dX8_behind_67 rfl (lv_at hl 2 rfl) ?_
          refine lv_iadd hx hb dX8_behind_68 ?_
          refine r_iald X hG 0 24 rfl rfl hf dX8_behind_69 (fun x13 hf => ?_)
          refine lv_iadd hx hb dX8_behind_70 ?_
          refine r_bni hf (fun x14 hf => ?_)
          refine lv_istore (lv' := [(4, .int x14), (0, .ref o), (2, .int a2), (3, .int t6), (5, .int t9.2)]) hx hb dX8_behind_71 hl (by decide) rfl (fun ls hl => ?_)
          refine lv_iinc (v := (t9.2 + 1)) (lv' := [(5, .int (t9.2 + 1)), (4, .int x14), (0, .ref o), (2, .int a2), (3, .int t6)]) hx hb dX8_behind_73 hl (k := 4) rfl rfl (by decide) rfl (fun ls hl => ?_)
          refine lv_goto (tgt := 47) hx hb dX8_behind_76 (by decide) ?_
          exact hK10 _ hf _ _ _ hG (lv_sub hl [2, 3, 4, 1, 0] rfl)
    · replace hf := ite_t hf hc4
      refine lv_bipush (v := (-2)) hx hb dX8_behind_19 (by decide) ?_
      have hq9 := Option.some.inj hf
      subst hq9
      subst hQ
      exact r_iret X hG dX8_behind_21
def rmX8_latest : Room := { frames := 4, cells := 0, slots := 0, locals := 100 }
set_option maxHeartbeats 4000000 in
set_option maxRecDepth 100000 in
theorem c_X8_latest (g : GT) (l : Launch) (o : Nat) (ad : Nat → Nat) (n : Nat) (a1 : Int32) (a2 : Int32) (s0 : MS) (q : Int32 × MS) (hf : f_X8_latest n a1 a2 s0 = some q) : CI g l yX8_latest cX8_latest 6 (some .int) rmX8_latest [.ref o, .int a1, .int a2] [wX8 g o ad s0] q.1 [wX8 g o ad q.2] := by
  refine CI_intro RX8 rfl (by decide +kernel) (Nat.le_of_ble_eq_true rfl) ?_
  intro p e s m args below meth c A ls Q hQ X hl hG
  have hl : lv_has ls 6 [(0, .ref o), (1, .int a1), (2, .int a2)] := hl
  have hx := X.1
  have hb := X.2.1
  have hown := X.2.2.2.1
  unfold f_X8_latest at hf
  refine lv_aload_n hx hb dX8_latest_0 rfl (lv_at hl 0 rfl) ?_
  refine lv_iload_n hx hb dX8_latest_1 rfl (lv_at hl 1 rfl) ?_
  obtain ⟨q1, hq1, hf⟩ := cl_inv hf
  refine r_callVi (bc := [wX8 g o ad s0]) (br := []) (bs' := [wX8 g o ad s0]) (As := [.int a1]) (rest := []) X hG hl.1 (c_X8_isWay g l o ad n a1 s0 q1 hq1) (List.Perm.refl _) (List.Perm.refl _) lk_X8_isWay lv_X8_isWay ml_8_152 (j := 0) (k := 0) rfl rfl rfl rfl rfl ⟨Nat.le_of_ble_eq_true rfl, Nat.le_of_ble_eq_true rfl⟩ rfl rfl (Nat.le_of_ble_eq_true rfl) ⟨Nat.zero_le _, Nat.zero_le _⟩ dX8_latest_2 (fun H locs hG => ?_)
  refine lv_if_eq (tgt := 19) hx hb dX8_latest_5 (by decide) (fun hc2 => ?_) (fun hc2 => ?_)
  · replace hf := ite_t hf hc2
    refine lv_bipush (v := (-2)) hx hb dX8_latest_19 (by decide) ?_
    have hq9 := Option.some.inj hf
    subst hq9
    subst hQ
    exact r_iret X hG dX8_latest_21
  · replace hf := ite_f hf hc2
    refine lv_iload_n hx hb dX8_latest_8 rfl (lv_at hl 2 rfl) ?_
    refine lv_iconst (v := 0) hx hb dX8_latest_9 (by decide) ?_
    refine lv_sipush (v := 2400) hx hb dX8_latest_10 (by decide) ?_
    obtain ⟨q3, hq3, hf⟩ := cl_inv hf
    refine r_callSi (bc := []) (br := [wX8 g o ad s0]) (bs' := [wX8 g o ad s0]) (As := [.int a2, .int 0, .int 2400]) (rest := []) X hG hl.1 (c_X8_in g l  n a2 0 2400 q3 hq3) (List.Perm.refl _) (List.Perm.refl _) lk_X8_in ls_X8_in ml_8_132 rfl rfl ⟨Nat.le_of_ble_eq_true rfl, Nat.le_of_ble_eq_true rfl⟩ rfl rfl (Nat.le_of_ble_eq_true rfl) ⟨Nat.zero_le _, Nat.zero_le _⟩ dX8_latest_13 (fun H locs hG => ?_)
    refine lv_if_ne (tgt := 22) hx hb dX8_latest_16 (by decide) (fun hc4 => ?_) (fun hc4 => ?_)
    · replace hf := ite_f hf hc4
      refine lv_aload_n hx hb dX8_latest_22 rfl (lv_at hl 0 rfl) ?_
      refine G_8_34 X hG 0 rfl dX8_latest_23 ?_
      refine lv_iload_n hx hb dX8_latest_26 rfl (lv_at hl 1 rfl) ?_
      refine r_iald X hG 0 9 rfl rfl hf dX8_latest_27 (fun x5 hf => ?_)
      refine lv_istore_n (lv' := [(3, .int x5), (0, .ref o), (1, .int a1), (2, .int a2)]) hx hb dX8_latest_28 rfl hl (by decide) rfl (fun ls hl => ?_)
      refine lv_iconst (v := (-1)) hx hb dX8_latest_29 (by decide) ?_
      refine lv_istore (lv' := [(4, .int (-1)), (3, .int x5), (0, .ref o), (1, .int a1), (2, .int a2)]) hx hb dX8_latest_30 hl (by decide) rfl (fun ls hl => ?_)
      refine lv_aload_n hx hb dX8_latest_32 rfl (lv_at hl 2 rfl) ?_
      refine G_8_43 X hG 0 rfl dX8_latest_33 ?_
      refine lv_iconst (v := 1) hx hb dX8_latest_36 (by decide) ?_
      refine lv_isub hx hb dX8_latest_37 ?_
      refine r_bni hf (fun x6 hf => ?_)
      refine lv_istore (lv' := [(5, .int x6), (4, .int (-1)), (3, .int x5), (0, .ref o), (1, .int a1), (2, .int a2)]) hx hb dX8_latest_38 hl (by decide) rfl (fun ls hl => ?_)
      refine lp_go (P := fun (t7 : Int32 × Int32 × MS) => ∀ (H : Heap) (locs : List Loc) (ls : Array Slot), GM g A s.heap H locs [wX8 g o ad t7.2.2] → lv_has ls 6 [(0, .ref o), (1, .int a1), (2, .int a2), (3, .int x5), (4, .int t7.1), (5, .int t7.2.1)] → W p l e rmX8_latest s m args below meth c H locs 0 0 Q (F0 m 40 ls [])) hf (fun K8 hK8 t7 hf H locs ls hG hl => ?_) _ _ _ hG (lv_sub hl [3, 4, 5, 2, 1, 0] rfl)
      refine lv_iload hx hb dX8_latest_40 (lv_at hl 5 rfl) ?_
      refine jn_use (P := fun (t9 : Unit) => ∀ (H : Heap) (locs : List Loc) (ls : Array Slot), GM g A s.heap H locs [wX8 g o ad t7.2.2] → lv_has ls 6 [(0, .ref o), (1, .int a1), (3, .int x5), (4, .int t7.1)] → W p l e rmX8_latest s m args below meth c H locs 0 0 Q (F0 m 85 ls [])) hf (fun t9 hf H locs ls hG hl => ?_) (fun K10 hK10 hf => ?_)
      · refine lv_aload_n hx hb dX8_latest_85 rfl (lv_at hl 0 rfl) ?_
        refine G_8_34 X hG 0 rfl dX8_latest_86 ?_
        refine lv_iload_n hx hb dX8_latest_89 rfl (lv_at hl 1 rfl) ?_
        refine lv_iload_n hx hb dX8_latest_90 rfl (lv_at hl 2 rfl) ?_
        refine r_iast X hG 0 9 rfl rfl hf (fun t => [wX8 g o ad t]) rfl dX8_latest_91 (fun z11 H locs hf hG => ?_)
        refine lv_iload hx hb dX8_latest_92 (lv_at hl 3 rfl) ?_
        have hq9 := Option.some.inj hf
        subst hq9
        subst hQ
        exact r_iret X hG dX8_latest_94
      refine lv_if_lt (tgt := 85) hx hb dX8_latest_42 (by decide) (fun hc12 => ?_) (fun hc12 => ?_)
      · replace hf := ite_t hf hc12
        exact hK10 _ hf _ _ _ hG (lv_sub hl [0, 1, 3, 4] rfl)
      · replace hf := ite_f hf hc12
        refine lv_iload hx hb dX8_latest_45 (lv_at hl 4 rfl) ?_
        refine lv_if_ge (tgt := 85) hx hb dX8_latest_47 (by decide) (fun hc13 => ?_) (fun hc13 => ?_)
        · replace hf := ite_t hf hc13
          exact hK10 _ hf _ _ _ hG (lv_sub hl [0, 1, 3, 4] rfl)
        · replace hf := ite_f hf hc13
          refine lv_aload_n hx hb dX8_latest_50 rfl (lv_at hl 0 rfl) ?_
          refine G_8_34 X hG 0 rfl dX8_latest_51 ?_
          refine lv_iload_n hx hb dX8_latest_54 rfl (lv_at hl 1 rfl) ?_
          refine lv_iload hx hb dX8_latest_55 (lv_at hl 5 rfl) ?_
          refine r_iast X hG 0 9 rfl rfl hf (fun t => [wX8 g o ad t]) rfl dX8_latest_57 (fun z14 H locs hf hG => ?_)
          refine lv_aload_n hx hb dX8_latest_58 rfl (lv_at hl 0 rfl) ?_
          refine lv_iload_n hx hb dX8_latest_59 rfl (lv_at hl 1 rfl) ?_
          refine lv_aload_n hx hb dX8_latest_60 rfl (lv_at hl 0 rfl) ?_
          refine G_8_143 X hG 0 rfl dX8_latest_61 ?_
          obtain ⟨q15, hq15, hf⟩ := cl_inv hf
          refine r_callVv (bc := [wX8 g o ad z14]) (br := []) (bs' := [wX8 g o ad q15]) (As := [.int a1, .int (z14.1 6)]) (rest := []) X hG hl.1 (c_X8_day g l o ad n a1 (z14.1 6) z14 q15 hq15) (List.Perm.refl _) (List.Perm.refl _) lk_X8_day lv_X8_day ml_8_292 (j := 0) (k := 0) rfl rfl rfl rfl rfl ⟨Nat.le_of_ble_eq_true rfl, Nat.le_of_ble_eq_true rfl⟩ rfl rfl (Nat.le_of_ble_eq_true rfl) ⟨Nat.zero_le _, Nat.zero_le _⟩ dX8_latest_64 (fun H locs hG => ?_)
          refine lv_aload_n hx hb dX8_latest_67 rfl (lv_at hl 0 rfl) ?_
          obtain ⟨q16, hq16, hf⟩ := cl_inv hf
          refine r_callVi (bc := [wX8 g o ad q15]) (br := []) (bs' := [wX8 g o ad q15]) (As := []) (rest := []) X hG hl.1 (c_X8_leftOfAll g l o ad n q15 q16 hq16) (List.Perm.refl _) (List.Perm.refl _) lk_X8_leftOfAll lv_X8_leftOfAll ml_8_295 (j := 0) (k := 0) rfl rfl rfl rfl rfl ⟨Nat.le_of_ble_eq_true rfl, Nat.le_of_ble_eq_true rfl⟩ rfl rfl (Nat.le_of_ble_eq_true rfl) ⟨Nat.zero_le _, Nat.zero_le _⟩ dX8_latest_68 (fun H locs hG => ?_)
          refine lv_iload_n hx hb dX8_latest_71 rfl (lv_at hl 2 rfl) ?_
          refine jn_use (P := fun (t17 : Int32) => ∀ (H : Heap) (locs : List Loc) (ls : Array Slot), GM g A s.heap H locs [wX8 g o ad q15] → lv_has ls 6 [(0, .ref o), (1, .int a1), (2, .int a2), (3, .int x5), (4, .int t17), (5, .int t7.2.1)] → W p l e rmX8_latest s m args below meth c H locs 0 0 Q (F0 m 79 ls [])) hf (fun t17 hf H locs ls hG hl => ?_) (fun K18 hK18 hf => ?_)
          · refine lv_iinc (v := (t7.2.1 + (-1))) (lv' := [(5, .int (t7.2.1 + (-1))), (0, .ref o), (1, .int a1), (2, .int a2), (3, .int x5), (4, .int t17)]) hx hb dX8_latest_79 hl (k := 5) rfl rfl (by decide) rfl (fun ls hl => ?_)
            refine lv_goto (tgt := 40) hx hb dX8_latest_82 (by decide) ?_
            exact hK8 _ hf _ _ _ hG (lv_sub hl [1, 2, 3, 4, 5, 0] rfl)
          refine lv_icmp_gt (tgt := 79) hx hb dX8_latest_72 (by decide) (fun hc19 => ?_) (fun hc19 => ?_)
          · replace hf := ite_t hf hc19
            exact hK18 _ hf _ _ _ hG (lv_sub hl [0, 1, 2, 3, 4, 5] rfl)
          · replace hf := ite_f hf hc19
            refine lv_iload hx hb dX8_latest_75 (lv_at hl 5 rfl) ?_
            refine lv_istore (lv' := [(4, .int t7.2.1), (0, .ref o), (1, .int a1), (2, .int a2), (3, .int x5), (5, .int t7.2.1)]) hx hb dX8_latest_77 hl (by decide) rfl (fun ls hl => ?_)
            exact hK18 _ hf _ _ _ hG (lv_sub hl [1, 2, 3, 4, 0, 5] rfl)
    · replace hf := ite_t hf hc4
      refine lv_bipush (v := (-2)) hx hb dX8_latest_19 (by decide) ?_
      have hq9 := Option.some.inj hf
      subst hq9
      subst hQ
      exact r_iret X hG dX8_latest_21
def rmX8_more : Room := { frames := 4, cells := 0, slots := 0, locals := 100 }
set_option maxHeartbeats 4000000 in
set_option maxRecDepth 100000 in
theorem c_X8_more (g : GT) (l : Launch) (o : Nat) (ad : Nat → Nat) (n : Nat) (a1 : Int32) (a2 : Int32) (s0 : MS) (q : Int32 × MS) (hf : f_X8_more n a1 a2 s0 = some q) : CI g l yX8_more cX8_more 4 (some .int) rmX8_more [.ref o, .int a1, .int a2] [wX8 g o ad s0] q.1 [wX8 g o ad q.2] := by
  refine CI_intro RX8 rfl (by decide +kernel) (Nat.le_of_ble_eq_true rfl) ?_
  intro p e s m args below meth c A ls Q hQ X hl hG
  have hl : lv_has ls 4 [(0, .ref o), (1, .int a1), (2, .int a2)] := hl
  have hx := X.1
  have hb := X.2.1
  have hown := X.2.2.2.1
  unfold f_X8_more at hf
  refine lv_aload_n hx hb dX8_more_0 rfl (lv_at hl 0 rfl) ?_
  refine lv_iload_n hx hb dX8_more_1 rfl (lv_at hl 1 rfl) ?_
  obtain ⟨q1, hq1, hf⟩ := cl_inv hf
  refine r_callVi (bc := [wX8 g o ad s0]) (br := []) (bs' := [wX8 g o ad s0]) (As := [.int a1]) (rest := []) X hG hl.1 (c_X8_isWay g l o ad n a1 s0 q1 hq1) (List.Perm.refl _) (List.Perm.refl _) lk_X8_isWay lv_X8_isWay ml_8_152 (j := 0) (k := 0) rfl rfl rfl rfl rfl ⟨Nat.le_of_ble_eq_true rfl, Nat.le_of_ble_eq_true rfl⟩ rfl rfl (Nat.le_of_ble_eq_true rfl) ⟨Nat.zero_le _, Nat.zero_le _⟩ dX8_more_2 (fun H locs hG => ?_)
  refine lv_if_eq (tgt := 26) hx hb dX8_more_5 (by decide) (fun hc2 => ?_) (fun hc2 => ?_)
  · replace hf := ite_t hf hc2
    refine lv_bipush (v := (-2)) hx hb dX8_more_26 (by decide) ?_
    have hq9 := Option.some.inj hf
    subst hq9
    subst hQ
    exact r_iret X hG dX8_more_28
  · replace hf := ite_f hf hc2
    refine lv_iload_n hx hb dX8_more_8 rfl (lv_at hl 2 rfl) ?_
    refine lv_iconst (v := 0) hx hb dX8_more_9 (by decide) ?_
    refine lv_sipush (v := 2400) hx hb dX8_more_10 (by decide) ?_
    obtain ⟨q3, hq3, hf⟩ := cl_inv hf
    refine r_callSi (bc := []) (br := [wX8 g o ad s0]) (bs' := [wX8 g o ad s0]) (As := [.int a2, .int 0, .int 2400]) (rest := []) X hG hl.1 (c_X8_in g l  n a2 0 2400 q3 hq3) (List.Perm.refl _) (List.Perm.refl _) lk_X8_in ls_X8_in ml_8_132 rfl rfl ⟨Nat.le_of_ble_eq_true rfl, Nat.le_of_ble_eq_true rfl⟩ rfl rfl (Nat.le_of_ble_eq_true rfl) ⟨Nat.zero_le _, Nat.zero_le _⟩ dX8_more_13 (fun H locs hG => ?_)
    refine lv_if_eq (tgt := 26) hx hb dX8_more_16 (by decide) (fun hc4 => ?_) (fun hc4 => ?_)
    · replace hf := ite_t hf hc4
      refine lv_bipush (v := (-2)) hx hb dX8_more_26 (by decide) ?_
      have hq9 := Option.some.inj hf
      subst hq9
      subst hQ
      exact r_iret X hG dX8_more_28
    · replace hf := ite_f hf hc4
      refine lv_aload_n hx hb dX8_more_19 rfl (lv_at hl 0 rfl) ?_
      refine G_8_143 X hG 0 rfl dX8_more_20 ?_
      refine lv_if_ne (tgt := 29) hx hb dX8_more_23 (by decide) (fun hc5 => ?_) (fun hc5 => ?_)
      · replace hf := ite_f hf hc5
        refine lv_iconst (v := 0) hx hb dX8_more_29 (by decide) ?_
        refine lv_istore_n (lv' := [(3, .int 0), (0, .ref o), (1, .int a1), (2, .int a2)]) hx hb dX8_more_30 rfl hl (by decide) rfl (fun ls hl => ?_)
        refine lp_go (P := fun (t6 : Int32 × MS) => ∀ (H : Heap) (locs : List Loc) (ls : Array Slot), GM g A s.heap H locs [wX8 g o ad t6.2] → lv_has ls 4 [(0, .ref o), (1, .int a1), (2, .int a2), (3, .int t6.1)] → W p l e rmX8_more s m args below meth c H locs 0 0 Q (F0 m 31 ls [])) hf (fun K7 hK7 t6 hf H locs ls hG hl => ?_) _ _ _ hG (lv_sub hl [1, 2, 3, 0] rfl)
        refine lv_iload_n hx hb dX8_more_31 rfl (lv_at hl 3 rfl) ?_
        refine lv_bipush (v := 20) hx hb dX8_more_32 (by decide) ?_
        refine lv_icmp_gt (tgt := 125) hx hb dX8_more_34 (by decide) (fun hc8 => ?_) (fun hc8 => ?_)
        · replace hf := ite_t hf hc8
          refine lv_iconst (v := (-1)) hx hb dX8_more_125 (by decide) ?_
          have hq9 := Option.some.inj hf
          subst hq9
          subst hQ
          exact r_iret X hG dX8_more_126
        · replace hf := ite_f hf hc8
          refine lv_iload_n hx hb dX8_more_37 rfl (lv_at hl 3 rfl) ?_
          refine jn_use (P := fun (t9 : MS) => ∀ (H : Heap) (locs : List Loc) (ls : Array Slot), GM g A s.heap H locs [wX8 g o ad t9] → lv_has ls 4 [(0, .ref o), (1, .int a1), (2, .int a2), (3, .int t6.1)] → W p l e rmX8_more s m args below meth c H locs 0 0 Q (F0 m 98 ls [])) hf (fun t9 hf H locs ls hG hl => ?_) (fun K10 hK10 hf => ?_)
          · refine lv_aload_n hx hb dX8_more_98 rfl (lv_at hl 0 rfl) ?_
            refine lv_iload_n hx hb dX8_more_99 rfl (lv_at hl 1 rfl) ?_
            refine lv_aload_n hx hb dX8_more_100 rfl (lv_at hl 0 rfl) ?_
            refine G_8_143 X hG 0 rfl dX8_more_101 ?_
            refine lv_iload_n hx hb dX8_more_104 rfl (lv_at hl 3 rfl) ?_
            refine lv_iadd hx hb dX8_more_105 ?_
            obtain ⟨q11, hq11, hf⟩ := cl_inv hf
            refine r_callVv (bc := [wX8 g o ad t9]) (br := []) (bs' := [wX8 g o ad q11]) (As := [.int a1, .int ((t9.1 6) + t6.1)]) (rest := []) X hG hl.1 (c_X8_day g l o ad n a1 ((t9.1 6) + t6.1) t9 q11 hq11) (List.Perm.refl _) (List.Perm.refl _) lk_X8_day lv_X8_day ml_8_292 (j := 0) (k := 0) rfl rfl rfl rfl rfl ⟨Nat.le_of_ble_eq_true rfl, Nat.le_of_ble_eq_true rfl⟩ rfl rfl (Nat.le_of_ble_eq_true rfl) ⟨Nat.zero_le _, Nat.zero_le _⟩ dX8_more_106 (fun H locs hG => ?_)
            refine lv_aload_n hx hb dX8_more_109 rfl (lv_at hl 0 rfl) ?_
            obtain ⟨q12, hq12, hf⟩ := cl_inv hf
            refine r_callVi (bc := [wX8 g o ad q11]) (br := []) (bs' := [wX8 g o ad q11]) (As := []) (rest := []) X hG hl.1 (c_X8_leftOfAll g l o ad n q11 q12 hq12) (List.Perm.refl _) (List.Perm.refl _) lk_X8_leftOfAll lv_X8_leftOfAll ml_8_295 (j := 0) (k := 0) rfl rfl rfl rfl rfl ⟨Nat.le_of_ble_eq_true rfl, Nat.le_of_ble_eq_true rfl⟩ rfl rfl (Nat.le_of_ble_eq_true rfl) ⟨Nat.zero_le _, Nat.zero_le _⟩ dX8_more_110 (fun H locs hG => ?_)
            refine lv_iload_n hx hb dX8_more_113 rfl (lv_at hl 2 rfl) ?_
            refine lv_icmp_gt (tgt := 119) hx hb dX8_more_114 (by decide) (fun hc13 => ?_) (fun hc13 => ?_)
            · replace hf := ite_t hf hc13
              refine lv_iinc (v := (t6.1 + 1)) (lv' := [(3, .int (t6.1 + 1)), (0, .ref o), (1, .int a1), (2, .int a2)]) hx hb dX8_more_119 hl (k := 3) rfl rfl (by decide) rfl (fun ls hl => ?_)
              refine lv_goto (tgt := 31) hx hb dX8_more_122 (by decide) ?_
              exact hK7 _ hf _ _ _ hG (lv_sub hl [1, 2, 3, 0] rfl)
            · replace hf := ite_f hf hc13
              refine lv_iload_n hx hb dX8_more_117 rfl (lv_at hl 3 rfl) ?_
              have hq9 := Option.some.inj hf
              subst hq9
              subst hQ
              exact r_iret X hG dX8_more_118
          refine lv_if_le (tgt := 98) hx hb dX8_more_38 (by decide) (fun hc14 => ?_) (fun hc14 => ?_)
          · replace hf := ite_t hf hc14
            exact hK10 _ hf _ _ _ hG (lv_sub hl [0, 1, 2, 3] rfl)
          · replace hf := ite_f hf hc14
            refine lv_aload_n hx hb dX8_more_41 rfl (lv_at hl 0 rfl) ?_
            refine G_8_22 X hG 0 rfl dX8_more_42 ?_
            refine lv_aload_n hx hb dX8_more_45 rfl (lv_at hl 0 rfl) ?_
            refine G_8_143 X hG 0 rfl dX8_more_46 ?_
            refine lv_iload_n hx hb dX8_more_49 rfl (lv_at hl 3 rfl) ?_
            refine lv_iadd hx hb dX8_more_50 ?_
            refine lv_iconst (v := 1) hx hb dX8_more_51 (by decide) ?_
            refine lv_isub hx hb dX8_more_52 ?_
            refine lv_aload_n hx hb dX8_more_53 rfl (lv_at hl 0 rfl) ?_
            refine G_8_22 X hG 0 rfl dX8_more_54 ?_
            refine lv_iconst (v := 0) hx hb dX8_more_57 (by decide) ?_
            refine r_iald X hG 0 5 rfl rfl hf dX8_more_58 (fun x15 hf => ?_)
            refine r_iast X hG 0 5 rfl rfl hf (fun t => [wX8 g o ad t]) rfl dX8_more_59 (fun z16 H locs hf hG => ?_)
            refine lv_aload_n hx hb dX8_more_60 rfl (lv_at hl 0 rfl) ?_
            refine G_8_25 X hG 0 rfl dX8_more_61 ?_
            refine lv_aload_n hx hb dX8_more_64 rfl (lv_at hl 0 rfl) ?_
            refine G_8_143 X hG 0 rfl dX8_more_65 ?_
            refine lv_iload_n hx hb dX8_more_68 rfl (lv_at hl 3 rfl) ?_
            refine lv_iadd hx hb dX8_more_69 ?_
            refine lv_iconst (v := 1) hx hb dX8_more_70 (by decide) ?_
            refine lv_isub hx hb dX8_more_71 ?_
            refine lv_aload_n hx hb dX8_more_72 rfl (lv_at hl 0 rfl) ?_
            refine G_8_25 X hG 0 rfl dX8_more_73 ?_
            refine lv_iconst (v := 0) hx hb dX8_more_76 (by decide) ?_
            refine r_iald X hG 0 6 rfl rfl hf dX8_more_77 (fun x17 hf => ?_)
            refine r_iast X hG 0 6 rfl rfl hf (fun t => [wX8 g o ad t]) rfl dX8_more_78 (fun z18 H locs hf hG => ?_)
            refine lv_aload_n hx hb dX8_more_79 rfl (lv_at hl 0 rfl) ?_
            refine G_8_28 X hG 0 rfl dX8_more_80 ?_
            refine lv_aload_n hx hb dX8_more_83 rfl (lv_at hl 0 rfl) ?_
            refine G_8_143 X hG 0 rfl dX8_more_84 ?_
            refine lv_iload_n hx hb dX8_more_87 rfl (lv_at hl 3 rfl) ?_
            refine lv_iadd hx hb dX8_more_88 ?_
            refine lv_iconst (v := 1) hx hb dX8_more_89 (by decide) ?_
            refine lv_isub hx hb dX8_more_90 ?_
            refine lv_aload_n hx hb dX8_more_91 rfl (lv_at hl 0 rfl) ?_
            refine G_8_28 X hG 0 rfl dX8_more_92 ?_
            refine lv_iconst (v := 0) hx hb dX8_more_95 (by decide) ?_
            refine r_iald X hG 0 7 rfl rfl hf dX8_more_96 (fun x19 hf => ?_)
            refine r_iast X hG 0 7 rfl rfl hf (fun t => [wX8 g o ad t]) rfl dX8_more_97 (fun z20 H locs hf hG => ?_)
            exact hK10 _ hf _ _ _ hG (lv_sub hl [0, 1, 2, 3] rfl)
      · replace hf := ite_t hf hc5
        refine lv_bipush (v := (-2)) hx hb dX8_more_26 (by decide) ?_
        have hq9 := Option.some.inj hf
        subst hq9
        subst hQ
        exact r_iret X hG dX8_more_28
def rmX8_choose : Room := { frames := 5, cells := 0, slots := 0, locals := 126 }
set_option maxHeartbeats 4000000 in
set_option maxRecDepth 100000 in
theorem c_X8_choose (g : GT) (l : Launch) (o : Nat) (ad : Nat → Nat) (n : Nat) (a1 : Int32) (s0 : MS) (q : Int64 × MS) (hf : f_X8_choose n a1 s0 = some q) : CL g l yX8_choose cX8_choose 8 (some .long) rmX8_choose [.ref o, .int a1] [wX8 g o ad s0] q.1 [wX8 g o ad q.2] := by
  refine CL_intro RX8 rfl (by decide +kernel) (Nat.le_of_ble_eq_true rfl) ?_
  intro p e s m args below meth c A ls Q hQ X hl hG
  have hl : lv_has ls 8 [(0, .ref o), (1, .int a1)] := hl
  have hx := X.1
  have hb := X.2.1
  have hown := X.2.2.2.1
  unfold f_X8_choose at hf
  refine lv_iload_n hx hb dX8_choose_0 rfl (lv_at hl 1 rfl) ?_
  refine lv_iconst (v := 0) hx hb dX8_choose_1 (by decide) ?_
  refine lv_iconst (v := 1) hx hb dX8_choose_2 (by decide) ?_
  obtain ⟨q1, hq1, hf⟩ := cl_inv hf
  refine r_callSi (bc := []) (br := [wX8 g o ad s0]) (bs' := [wX8 g o ad s0]) (As := [.int a1, .int 0, .int 1]) (rest := []) X hG hl.1 (c_X8_in g l  n a1 0 1 q1 hq1) (List.Perm.refl _) (List.Perm.refl _) lk_X8_in ls_X8_in ml_8_132 rfl rfl ⟨Nat.le_of_ble_eq_true rfl, Nat.le_of_ble_eq_true rfl⟩ rfl rfl (Nat.le_of_ble_eq_true rfl) ⟨Nat.zero_le _, Nat.zero_le _⟩ dX8_choose_3 (fun H locs hG => ?_)
  refine lv_if_eq (tgt := 16) hx hb dX8_choose_6 (by decide) (fun hc2 => ?_) (fun hc2 => ?_)
  · replace hf := ite_t hf hc2
    refine lv_ldc2 hx hb hown (X.2.2.2.2.1 _ kl_8_302) dX8_choose_16 ?_
    have hq9 := Option.some.inj hf
    subst hq9
    subst hQ
    exact r_lret X hG dX8_choose_19
  · replace hf := ite_f hf hc2
    refine lv_aload_n hx hb dX8_choose_9 rfl (lv_at hl 0 rfl) ?_
    refine G_8_136 X hG 0 rfl dX8_choose_10 ?_
    refine lv_if_ne (tgt := 20) hx hb dX8_choose_13 (by decide) (fun hc3 => ?_) (fun hc3 => ?_)
    · replace hf := ite_f hf hc3
      refine lv_iconst (v := 0) hx hb dX8_choose_20 (by decide) ?_
      refine lv_istore_n (lv' := [(2, .int 0), (0, .ref o), (1, .int a1)]) hx hb dX8_choose_21 rfl hl (by decide) rfl (fun ls hl => ?_)
      refine lv_lconst (v := 0) hx hb dX8_choose_22 (by decide) ?_
      refine lv_lstore_n (lv' := [(3, .long 0), (2, .int 0), (0, .ref o), (1, .int a1)]) hx hb dX8_choose_23 rfl hl (by decide) rfl (fun ls hl => ?_)
      refine lv_iconst (v := 0) hx hb dX8_choose_24 (by decide) ?_
      refine lv_istore (lv' := [(5, .int 0), (3, .long 0), (2, .int 0), (0, .ref o), (1, .int a1)]) hx hb dX8_choose_25 hl (by decide) rfl (fun ls hl => ?_)
      refine lp_go (P := fun (t4 : Int32 × Int64 × Int32 × MS) => ∀ (H : Heap) (locs : List Loc) (ls : Array Slot), GM g A s.heap H locs [wX8 g o ad t4.2.2.2] → lv_has ls 8 [(0, .ref o), (1, .int a1), (2, .int t4.1), (3, .long t4.2.1), (5, .int t4.2.2.1)] → W p l e rmX8_choose s m args below meth c H locs 0 0 Q (F0 m 27 ls [])) hf (fun K5 hK5 t4 hf H locs ls hG hl => ?_) _ _ _ hG (lv_sub hl [3, 4, 2, 1, 0] rfl)
      refine lv_iload hx hb dX8_choose_27 (lv_at hl 4 rfl) ?_
      refine lv_aload_n hx hb dX8_choose_29 rfl (lv_at hl 0 rfl) ?_
      refine G_8_136 X hG 0 rfl dX8_choose_30 ?_
      refine lv_icmp_ge (tgt := 71) hx hb dX8_choose_33 (by decide) (fun hc6 => ?_) (fun hc6 => ?_)
      · replace hf := ite_t hf hc6
        refine lv_iload_n hx hb dX8_choose_71 rfl (lv_at hl 1 rfl) ?_
        refine lv_if_ne (tgt := 80) hx hb dX8_choose_72 (by decide) (fun hc7 => ?_) (fun hc7 => ?_)
        · replace hf := ite_f hf hc7
          refine lv_lload_n hx hb dX8_choose_80 rfl (lv_at hl 3 rfl) ?_
          have hq9 := Option.some.inj hf
          subst hq9
          subst hQ
          exact r_lret X hG dX8_choose_81
        · replace hf := ite_t hf hc7
          refine lv_iload_n hx hb dX8_choose_75 rfl (lv_at hl 2 rfl) ?_
          refine lv_i2l hx hb dX8_choose_76 rfl ?_
          refine lv_goto (tgt := 81) hx hb dX8_choose_77 (by decide) ?_
          have hq9 := Option.some.inj hf
          subst hq9
          subst hQ
          exact r_lret X hG dX8_choose_81
      · replace hf := ite_f hf hc6
        refine lv_aload_n hx hb dX8_choose_36 rfl (lv_at hl 0 rfl) ?_
        refine lv_iload hx hb dX8_choose_37 (lv_at hl 4 rfl) ?_
        obtain ⟨q8, hq8, hf⟩ := cl_inv hf
        refine r_callVl (bc := [wX8 g o ad t4.2.2.2]) (br := []) (bs' := [wX8 g o ad q8.2]) (As := [.int t4.2.2.1]) (rest := []) X hG hl.1 (c_X8_harmOf g l o ad n t4.2.2.1 t4.2.2.2 q8 hq8) (List.Perm.refl _) (List.Perm.refl _) lk_X8_harmOf lv_X8_harmOf ml_8_298 (j := 0) (k := 0) rfl rfl rfl rfl rfl ⟨Nat.le_of_ble_eq_true rfl, Nat.le_of_ble_eq_true rfl⟩ rfl rfl (Nat.le_of_ble_eq_true rfl) ⟨Nat.zero_le _, Nat.zero_le _⟩ dX8_choose_39 (fun H locs hG => ?_)
        refine lv_lstore (lv' := [(6, .long q8.1), (0, .ref o), (1, .int a1), (2, .int t4.1), (3, .long t4.2.1), (5, .int t4.2.2.1)]) hx hb dX8_choose_42 hl (by decide) rfl (fun ls hl => ?_)
        refine lv_iload hx hb dX8_choose_44 (lv_at hl 5 rfl) ?_
        refine jn_use (P := fun (t9 : Int32 × Int64) => ∀ (H : Heap) (locs : List Loc) (ls : Array Slot), GM g A s.heap H locs [wX8 g o ad q8.2] → lv_has ls 8 [(0, .ref o), (1, .int a1), (2, .int t9.1), (3, .long t9.2), (5, .int t4.2.2.1)] → W p l e rmX8_choose s m args below meth c H locs 0 0 Q (F0 m 65 ls [])) hf (fun t9 hf H locs ls hG hl => ?_) (fun K10 hK10 hf => ?_)
        · refine lv_iinc (v := (t4.2.2.1 + 1)) (lv' := [(5, .int (t4.2.2.1 + 1)), (0, .ref o), (1, .int a1), (2, .int t9.1), (3, .long t9.2)]) hx hb dX8_choose_65 hl (k := 4) rfl rfl (by decide) rfl (fun ls hl => ?_)
          refine lv_goto (tgt := 27) hx hb dX8_choose_68 (by decide) ?_
          exact hK5 _ hf _ _ _ hG (lv_sub hl [1, 2, 3, 4, 0] rfl)
        refine jn_use (P := fun (t11 : Unit) => ∀ (H : Heap) (locs : List Loc) (ls : Array Slot), GM g A s.heap H locs [wX8 g o ad q8.2] → lv_has ls 8 [(0, .ref o), (1, .int a1), (5, .int t4.2.2.1), (6, .long q8.1)] → W p l e rmX8_choose s m args below meth c H locs 0 0 Q (F0 m 59 ls [])) hf (fun t11 hf H locs ls hG hl => ?_) (fun K12 hK12 hf => ?_)
        · refine lv_iload hx hb dX8_choose_59 (lv_at hl 2 rfl) ?_
          refine lv_istore_n (lv' := [(2, .int t4.2.2.1), (0, .ref o), (1, .int a1), (5, .int t4.2.2.1), (6, .long q8.1)]) hx hb dX8_choose_61 rfl hl (by decide) rfl (fun ls hl => ?_)
          refine lv_lload hx hb dX8_choose_62 (lv_at hl 4 rfl) ?_
          refine lv_lstore_n (lv' := [(3, .long q8.1), (2, .int t4.2.2.1), (0, .ref o), (1, .int a1), (5, .int t4.2.2.1), (6, .long q8.1)]) hx hb dX8_choose_64 rfl hl (by decide) rfl (fun ls hl => ?_)
          exact hK10 _ hf _ _ _ hG (lv_sub hl [2, 3, 1, 0, 4] rfl)
        refine lv_if_le (tgt := 59) hx hb dX8_choose_46 (by decide) (fun hc13 => ?_) (fun hc13 => ?_)
        · replace hf := ite_t hf hc13
          exact hK12 _ hf _ _ _ hG (lv_sub hl [1, 2, 5, 0] rfl)
        · replace hf := ite_f hf hc13
          refine lv_lload hx hb dX8_choose_49 (lv_at hl 0 rfl) ?_
          refine lv_lload_n hx hb dX8_choose_51 rfl (lv_at hl 4 rfl) ?_
          refine W.lcmp hx hb dX8_choose_52 ?_
          refine lv_if_lt (tgt := 59) hx hb dX8_choose_53 (by decide) (fun hc14 => ?_) (fun hc14 => ?_)
          · replace hf := ite_t hf hc14
            exact hK12 _ hf _ _ _ hG (lv_sub hl [1, 2, 5, 0] rfl)
          · replace hf := ite_f hf hc14
            refine lv_goto (tgt := 65) hx hb dX8_choose_56 (by decide) ?_
            exact hK10 _ hf _ _ _ hG (lv_sub hl [1, 2, 3, 4, 5] rfl)
    · replace hf := ite_t hf hc3
      refine lv_ldc2 hx hb hown (X.2.2.2.2.1 _ kl_8_302) dX8_choose_16 ?_
      have hq9 := Option.some.inj hf
      subst hq9
      subst hQ
      exact r_lret X hG dX8_choose_19
def rmX8_must : Room := { frames := 2, cells := 0, slots := 0, locals := 43 }
set_option maxHeartbeats 4000000 in
set_option maxRecDepth 100000 in
theorem c_X8_must (g : GT) (l : Launch) (o : Nat) (ad : Nat → Nat) (n : Nat) (s0 : MS) (q : Int32) (hf : f_X8_must n s0 = some q) : CI g l yX8_must cX8_must 4 (some .int) rmX8_must [.ref o] [wX8 g o ad s0] q [wX8 g o ad s0] := by
  refine CI_intro RX8 rfl (by decide +kernel) (Nat.le_of_ble_eq_true rfl) ?_
  intro p e s m args below meth c A ls Q hQ X hl hG
  have hl : lv_has ls 4 [(0, .ref o)] := hl
  have hx := X.1
  have hb := X.2.1
  have hown := X.2.2.2.1
  unfold f_X8_must at hf
  refine lv_iconst (v := 0) hx hb dX8_must_0 (by decide) ?_
  refine lv_istore_n (lv' := [(1, .int 0), (0, .ref o)]) hx hb dX8_must_1 rfl hl (by decide) rfl (fun ls hl => ?_)
  refine lv_iconst (v := 0) hx hb dX8_must_2 (by decide) ?_
  refine lv_istore_n (lv' := [(2, .int 0), (1, .int 0), (0, .ref o)]) hx hb dX8_must_3 rfl hl (by decide) rfl (fun ls hl => ?_)
  refine lp_go (P := fun (t1 : Int32 × Int32) => ∀ (H : Heap) (locs : List Loc) (ls : Array Slot), GM g A s.heap H locs [wX8 g o ad s0] → lv_has ls 4 [(0, .ref o), (1, .int t1.1), (2, .int t1.2)] → W p l e rmX8_must s m args below meth c H locs 0 0 Q (F0 m 4 ls [])) hf (fun K2 hK2 t1 hf H locs ls hG hl => ?_) _ _ _ hG (lv_sub hl [2, 1, 0] rfl)
  refine lv_iload_n hx hb dX8_must_4 rfl (lv_at hl 2 rfl) ?_
  refine lv_aload_n hx hb dX8_must_5 rfl (lv_at hl 0 rfl) ?_
  refine G_8_143 X hG 0 rfl dX8_must_6 ?_
  refine lv_icmp_ge (tgt := 52) hx hb dX8_must_9 (by decide) (fun hc3 => ?_) (fun hc3 => ?_)
  · replace hf := ite_t hf hc3
    refine lv_iconst (v := 0) hx hb dX8_must_52 (by decide) ?_
    refine lv_istore_n (lv' := [(2, .int 0), (0, .ref o), (1, .int t1.1)]) hx hb dX8_must_53 rfl hl (by decide) rfl (fun ls hl => ?_)
    refine lp_go (P := fun (t4 : Int32 × Int32) => ∀ (H : Heap) (locs : List Loc) (ls : Array Slot), GM g A s.heap H locs [wX8 g o ad s0] → lv_has ls 4 [(0, .ref o), (1, .int t4.1), (2, .int t4.2)] → W p l e rmX8_must s m args below meth c H locs 0 0 Q (F0 m 54 ls [])) hf (fun K5 hK5 t4 hf H locs ls hG hl => ?_) _ _ _ hG (lv_sub hl [1, 2, 0] rfl)
    refine lv_iload_n hx hb dX8_must_54 rfl (lv_at hl 2 rfl) ?_
    refine lv_aload_n hx hb dX8_must_55 rfl (lv_at hl 0 rfl) ?_
    refine G_8_129 X hG 0 rfl dX8_must_56 ?_
    refine lv_icmp_ge (tgt := 77) hx hb dX8_must_59 (by decide) (fun hc6 => ?_) (fun hc6 => ?_)
    · replace hf := ite_t hf hc6
      refine lv_iload_n hx hb dX8_must_77 rfl (lv_at hl 1 rfl) ?_
      have hq9 := Option.some.inj hf
      subst hq9
      subst hQ
      exact r_iret X hG dX8_must_78
    · replace hf := ite_f hf hc6
      refine lv_iload_n hx hb dX8_must_62 rfl (lv_at hl 1 rfl) ?_
      refine lv_aload_n hx hb dX8_must_63 rfl (lv_at hl 0 rfl) ?_
      refine G_8_7 X hG 0 rfl dX8_must_64 ?_
      refine lv_iload_n hx hb dX8_must_67 rfl (lv_at hl 2 rfl) ?_
      refine r_iald X hG 0 1 rfl rfl hf dX8_must_68 (fun x7 hf => ?_)
      refine lv_isub hx hb dX8_must_69 ?_
      refine r_bni hf (fun x8 hf => ?_)
      refine lv_istore_n (lv' := [(1, .int x8), (0, .ref o), (2, .int t4.2)]) hx hb dX8_must_70 rfl hl (by decide) rfl (fun ls hl => ?_)
      refine lv_iinc (v := (t4.2 + 1)) (lv' := [(2, .int (t4.2 + 1)), (1, .int x8), (0, .ref o)]) hx hb dX8_must_71 hl (k := 2) rfl rfl (by decide) rfl (fun ls hl => ?_)
      refine lv_goto (tgt := 54) hx hb dX8_must_74 (by decide) ?_
      exact hK5 _ hf _ _ _ hG (lv_sub hl [2, 1, 0] rfl)
  · replace hf := ite_f hf hc3
    refine lv_iconst (v := 0) hx hb dX8_must_12 (by decide) ?_
    refine lv_istore_n (lv' := [(3, .int 0), (0, .ref o), (1, .int t1.1), (2, .int t1.2)]) hx hb dX8_must_13 rfl hl (by decide) rfl (fun ls hl => ?_)
    refine lp_go (P := fun (t9 : Int32 × Int32) => ∀ (H : Heap) (locs : List Loc) (ls : Array Slot), GM g A s.heap H locs [wX8 g o ad s0] → lv_has ls 4 [(0, .ref o), (1, .int t9.1), (2, .int t1.2), (3, .int t9.2)] → W p l e rmX8_must s m args below meth c H locs 0 0 Q (F0 m 14 ls [])) hf (fun K10 hK10 t9 hf H locs ls hG hl => ?_) _ _ _ hG (lv_sub hl [1, 2, 3, 0] rfl)
    refine lv_iload_n hx hb dX8_must_14 rfl (lv_at hl 3 rfl) ?_
    refine lv_aload_n hx hb dX8_must_15 rfl (lv_at hl 0 rfl) ?_
    refine G_8_43 X hG 0 rfl dX8_must_16 ?_
    refine lv_icmp_ge (tgt := 46) hx hb dX8_must_19 (by decide) (fun hc11 => ?_) (fun hc11 => ?_)
    · replace hf := ite_t hf hc11
      refine lv_iinc (v := (t1.2 + 1)) (lv' := [(2, .int (t1.2 + 1)), (0, .ref o), (1, .int t9.1), (3, .int t9.2)]) hx hb dX8_must_46 hl (k := 2) rfl rfl (by decide) rfl (fun ls hl => ?_)
      refine lv_goto (tgt := 4) hx hb dX8_must_49 (by decide) ?_
      exact hK2 _ hf _ _ _ hG (lv_sub hl [1, 2, 0] rfl)
    · replace hf := ite_f hf hc11
      refine lv_aload_n hx hb dX8_must_22 rfl (lv_at hl 0 rfl) ?_
      refine lv_iload_n hx hb dX8_must_23 rfl (lv_at hl 2 rfl) ?_
      refine lv_iload_n hx hb dX8_must_24 rfl (lv_at hl 3 rfl) ?_
      obtain ⟨q12, hq12, hf⟩ := cl_inv hf
      refine r_callVi (bc := [wX8 g o ad s0]) (br := []) (bs' := [wX8 g o ad s0]) (As := [.int t1.2, .int t9.2]) (rest := []) X hG hl.1 (c_X8_goes g l o ad n t1.2 t9.2 s0 q12 hq12) (List.Perm.refl _) (List.Perm.refl _) lk_X8_goes lv_X8_goes ml_8_269 (j := 0) (k := 0) rfl rfl rfl rfl rfl ⟨Nat.le_of_ble_eq_true rfl, Nat.le_of_ble_eq_true rfl⟩ rfl rfl (Nat.le_of_ble_eq_true rfl) ⟨Nat.zero_le _, Nat.zero_le _⟩ dX8_must_25 (fun H locs hG => ?_)
      refine jn_use (P := fun (t13 : Int32) => ∀ (H : Heap) (locs : List Loc) (ls : Array Slot), GM g A s.heap H locs [wX8 g o ad s0] → lv_has ls 4 [(0, .ref o), (1, .int t13), (2, .int t1.2), (3, .int t9.2)] → W p l e rmX8_must s m args below meth c H locs 0 0 Q (F0 m 40 ls [])) hf (fun t13 hf H locs ls hG hl => ?_) (fun K14 hK14 hf => ?_)
      · refine lv_iinc (v := (t9.2 + 1)) (lv' := [(3, .int (t9.2 + 1)), (0, .ref o), (1, .int t13), (2, .int t1.2)]) hx hb dX8_must_40 hl (k := 3) rfl rfl (by decide) rfl (fun ls hl => ?_)
        refine lv_goto (tgt := 14) hx hb dX8_must_43 (by decide) ?_
        exact hK10 _ hf _ _ _ hG (lv_sub hl [1, 2, 3, 0] rfl)
      refine lv_if_eq (tgt := 40) hx hb dX8_must_28 (by decide) (fun hc15 => ?_) (fun hc15 => ?_)
      · replace hf := ite_t hf hc15
        exact hK14 _ hf _ _ _ hG (lv_sub hl [0, 1, 2, 3] rfl)
      · replace hf := ite_f hf hc15
        refine lv_iload_n hx hb dX8_must_31 rfl (lv_at hl 1 rfl) ?_
        refine lv_aload_n hx hb dX8_must_32 rfl (lv_at hl 0 rfl) ?_
        refine G_8_22 X hG 0 rfl dX8_must_33 ?_
        refine lv_iload_n hx hb dX8_must_36 rfl (lv_at hl 2 rfl) ?_
        refine r_iald X hG 0 5 rfl rfl hf dX8_must_37 (fun x16 hf => ?_)
        refine lv_iadd hx hb dX8_must_38 ?_
        refine r_bni hf (fun x17 hf => ?_)
        refine lv_istore_n (lv' := [(1, .int x17), (0, .ref o), (2, .int t1.2), (3, .int t9.2)]) hx hb dX8_must_39 rfl hl (by decide) rfl (fun ls hl => ?_)
        exact hK14 _ hf _ _ _ hG (lv_sub hl [1, 0, 2, 3] rfl)
def rmX8_latestUp : Room := { frames := 2, cells := 0, slots := 0, locals := 43 }
set_option maxHeartbeats 4000000 in
set_option maxRecDepth 100000 in
theorem c_X8_latestUp (g : GT) (l : Launch) (o : Nat) (ad : Nat → Nat) (n : Nat) (a1 : Int32) (s0 : MS) (q : Int32) (hf : f_X8_latestUp n a1 s0 = some q) : CI g l yX8_latestUp cX8_latestUp 5 (some .int) rmX8_latestUp [.ref o, .int a1] [wX8 g o ad s0] q [wX8 g o ad s0] := by
  refine CI_intro RX8 rfl (by decide +kernel) (Nat.le_of_ble_eq_true rfl) ?_
  intro p e s m args below meth c A ls Q hQ X hl hG
  have hl : lv_has ls 5 [(0, .ref o), (1, .int a1)] := hl
  have hx := X.1
  have hb := X.2.1
  have hown := X.2.2.2.1
  unfold f_X8_latestUp at hf
  refine lv_aload_n hx hb dX8_latestUp_0 rfl (lv_at hl 0 rfl) ?_
  refine lv_iload_n hx hb dX8_latestUp_1 rfl (lv_at hl 1 rfl) ?_
  obtain ⟨q1, hq1, hf⟩ := cl_inv hf
  refine r_callVi (bc := [wX8 g o ad s0]) (br := []) (bs' := [wX8 g o ad s0]) (As := [.int a1]) (rest := []) X hG hl.1 (c_X8_isSort g l o ad n a1 s0 q1 hq1) (List.Perm.refl _) (List.Perm.refl _) lk_X8_isSort lv_X8_isSort ml_8_146 (j := 0) (k := 0) rfl rfl rfl rfl rfl ⟨Nat.le_of_ble_eq_true rfl, Nat.le_of_ble_eq_true rfl⟩ rfl rfl (Nat.le_of_ble_eq_true rfl) ⟨Nat.zero_le _, Nat.zero_le _⟩ dX8_latestUp_2 (fun H locs hG => ?_)
  refine lv_if_ne (tgt := 11) hx hb dX8_latestUp_5 (by decide) (fun hc2 => ?_) (fun hc2 => ?_)
  · replace hf := ite_f hf hc2
    refine lv_iconst (v := (-1)) hx hb dX8_latestUp_11 (by decide) ?_
    refine lv_istore_n (lv' := [(2, .int (-1)), (0, .ref o), (1, .int a1)]) hx hb dX8_latestUp_12 rfl hl (by decide) rfl (fun ls hl => ?_)
    refine lv_iconst (v := 0) hx hb dX8_latestUp_13 (by decide) ?_
    refine lv_istore_n (lv' := [(3, .int 0), (2, .int (-1)), (0, .ref o), (1, .int a1)]) hx hb dX8_latestUp_14 rfl hl (by decide) rfl (fun ls hl => ?_)
    refine lp_go (P := fun (t3 : Int32 × Int32) => ∀ (H : Heap) (locs : List Loc) (ls : Array Slot), GM g A s.heap H locs [wX8 g o ad s0] → lv_has ls 5 [(0, .ref o), (1, .int a1), (2, .int t3.1), (3, .int t3.2)] → W p l e rmX8_latestUp s m args below meth c H locs 0 0 Q (F0 m 15 ls [])) hf (fun K4 hK4 t3 hf H locs ls hG hl => ?_) _ _ _ hG (lv_sub hl [2, 3, 1, 0] rfl)
    refine lv_iload_n hx hb dX8_latestUp_15 rfl (lv_at hl 3 rfl) ?_
    refine lv_aload_n hx hb dX8_latestUp_16 rfl (lv_at hl 0 rfl) ?_
    refine G_8_143 X hG 0 rfl dX8_latestUp_17 ?_
    refine lv_icmp_ge (tgt := 66) hx hb dX8_latestUp_20 (by decide) (fun hc5 => ?_) (fun hc5 => ?_)
    · replace hf := ite_t hf hc5
      refine lv_iload_n hx hb dX8_latestUp_66 rfl (lv_at hl 2 rfl) ?_
      refine lv_aload_n hx hb dX8_latestUp_67 rfl (lv_at hl 0 rfl) ?_
      refine G_8_13 X hG 0 rfl dX8_latestUp_68 ?_
      refine lv_iload_n hx hb dX8_latestUp_71 rfl (lv_at hl 1 rfl) ?_
      refine r_iald X hG 0 2 rfl rfl hf dX8_latestUp_72 (fun x6 hf => ?_)
      refine lv_icmp_ge (tgt := 80) hx hb dX8_latestUp_73 (by decide) (fun hc7 => ?_) (fun hc7 => ?_)
      · replace hf := ite_t hf hc7
        refine lv_iload_n hx hb dX8_latestUp_80 rfl (lv_at hl 2 rfl) ?_
        refine lv_aload_n hx hb dX8_latestUp_81 rfl (lv_at hl 0 rfl) ?_
        refine G_8_13 X hG 0 rfl dX8_latestUp_82 ?_
        refine lv_iload_n hx hb dX8_latestUp_85 rfl (lv_at hl 1 rfl) ?_
        refine r_iald X hG 0 2 rfl rfl hf dX8_latestUp_86 (fun x8 hf => ?_)
        refine lv_isub hx hb dX8_latestUp_87 ?_
        have hq9 := Option.some.inj hf
        subst hq9
        subst hQ
        exact r_iret X hG dX8_latestUp_88
      · replace hf := ite_f hf hc7
        refine lv_iconst (v := (-1)) hx hb dX8_latestUp_76 (by decide) ?_
        refine lv_goto (tgt := 88) hx hb dX8_latestUp_77 (by decide) ?_
        have hq9 := Option.some.inj hf
        subst hq9
        subst hQ
        exact r_iret X hG dX8_latestUp_88
    · replace hf := ite_f hf hc5
      refine lv_iconst (v := 0) hx hb dX8_latestUp_23 (by decide) ?_
      refine lv_istore (lv' := [(4, .int 0), (0, .ref o), (1, .int a1), (2, .int t3.1), (3, .int t3.2)]) hx hb dX8_latestUp_24 hl (by decide) rfl (fun ls hl => ?_)
      refine lp_go (P := fun (t9 : Int32 × Int32) => ∀ (H : Heap) (locs : List Loc) (ls : Array Slot), GM g A s.heap H locs [wX8 g o ad s0] → lv_has ls 5 [(0, .ref o), (1, .int a1), (2, .int t9.1), (3, .int t3.2), (4, .int t9.2)] → W p l e rmX8_latestUp s m args below meth c H locs 0 0 Q (F0 m 26 ls [])) hf (fun K10 hK10 t9 hf H locs ls hG hl => ?_) _ _ _ hG (lv_sub hl [1, 2, 3, 4, 0] rfl)
      refine lv_iload hx hb dX8_latestUp_26 (lv_at hl 4 rfl) ?_
      refine lv_aload_n hx hb dX8_latestUp_28 rfl (lv_at hl 0 rfl) ?_
      refine G_8_43 X hG 0 rfl dX8_latestUp_29 ?_
      refine lv_icmp_ge (tgt := 60) hx hb dX8_latestUp_32 (by decide) (fun hc11 => ?_) (fun hc11 => ?_)
      · replace hf := ite_t hf hc11
        refine lv_iinc (v := (t3.2 + 1)) (lv' := [(3, .int (t3.2 + 1)), (0, .ref o), (1, .int a1), (2, .int t9.1), (4, .int t9.2)]) hx hb dX8_latestUp_60 hl (k := 3) rfl rfl (by decide) rfl (fun ls hl => ?_)
        refine lv_goto (tgt := 15) hx hb dX8_latestUp_63 (by decide) ?_
        exact hK4 _ hf _ _ _ hG (lv_sub hl [1, 2, 3, 0] rfl)
      · replace hf := ite_f hf hc11
        refine lv_aload_n hx hb dX8_latestUp_35 rfl (lv_at hl 0 rfl) ?_
        refine lv_iload_n hx hb dX8_latestUp_36 rfl (lv_at hl 3 rfl) ?_
        refine lv_iload hx hb dX8_latestUp_37 (lv_at hl 4 rfl) ?_
        obtain ⟨q12, hq12, hf⟩ := cl_inv hf
        refine r_callVi (bc := [wX8 g o ad s0]) (br := []) (bs' := [wX8 g o ad s0]) (As := [.int t3.2, .int t9.2]) (rest := []) X hG hl.1 (c_X8_goes g l o ad n t3.2 t9.2 s0 q12 hq12) (List.Perm.refl _) (List.Perm.refl _) lk_X8_goes lv_X8_goes ml_8_269 (j := 0) (k := 0) rfl rfl rfl rfl rfl ⟨Nat.le_of_ble_eq_true rfl, Nat.le_of_ble_eq_true rfl⟩ rfl rfl (Nat.le_of_ble_eq_true rfl) ⟨Nat.zero_le _, Nat.zero_le _⟩ dX8_latestUp_39 (fun H locs hG => ?_)
        refine jn_use (P := fun (t13 : Int32) => ∀ (H : Heap) (locs : List Loc) (ls : Array Slot), GM g A s.heap H locs [wX8 g o ad s0] → lv_has ls 5 [(0, .ref o), (1, .int a1), (2, .int t13), (3, .int t3.2), (4, .int t9.2)] → W p l e rmX8_latestUp s m args below meth c H locs 0 0 Q (F0 m 54 ls [])) hf (fun t13 hf H locs ls hG hl => ?_) (fun K14 hK14 hf => ?_)
        · refine lv_iinc (v := (t9.2 + 1)) (lv' := [(4, .int (t9.2 + 1)), (0, .ref o), (1, .int a1), (2, .int t13), (3, .int t3.2)]) hx hb dX8_latestUp_54 hl (k := 4) rfl rfl (by decide) rfl (fun ls hl => ?_)
          refine lv_goto (tgt := 26) hx hb dX8_latestUp_57 (by decide) ?_
          exact hK10 _ hf _ _ _ hG (lv_sub hl [1, 2, 3, 4, 0] rfl)
        refine lv_if_eq (tgt := 54) hx hb dX8_latestUp_42 (by decide) (fun hc15 => ?_) (fun hc15 => ?_)
        · replace hf := ite_t hf hc15
          exact hK14 _ hf _ _ _ hG (lv_sub hl [0, 1, 2, 3, 4] rfl)
        · replace hf := ite_f hf hc15
          refine lv_iload hx hb dX8_latestUp_45 (lv_at hl 4 rfl) ?_
          refine lv_iload_n hx hb dX8_latestUp_47 rfl (lv_at hl 2 rfl) ?_
          refine lv_icmp_le (tgt := 54) hx hb dX8_latestUp_48 (by decide) (fun hc16 => ?_) (fun hc16 => ?_)
          · replace hf := ite_t hf hc16
            exact hK14 _ hf _ _ _ hG (lv_sub hl [0, 1, 2, 3, 4] rfl)
          · replace hf := ite_f hf hc16
            refine lv_iload hx hb dX8_latestUp_51 (lv_at hl 4 rfl) ?_
            refine lv_istore_n (lv' := [(2, .int t9.2), (0, .ref o), (1, .int a1), (3, .int t3.2), (4, .int t9.2)]) hx hb dX8_latestUp_53 rfl hl (by decide) rfl (fun ls hl => ?_)
            exact hK14 _ hf _ _ _ hG (lv_sub hl [1, 2, 0, 3, 4] rfl)
  · replace hf := ite_t hf hc2
    refine lv_bipush (v := (-2)) hx hb dX8_latestUp_8 (by decide) ?_
    have hq9 := Option.some.inj hf
    subst hq9
    subst hQ
    exact r_iret X hG dX8_latestUp_10
def rmX8_isSheet : Room := { frames := 1, cells := 0, slots := 0, locals := 22 }
set_option maxHeartbeats 4000000 in
set_option maxRecDepth 100000 in
theorem c_X8_isSheet (g : GT) (l : Launch) (n : Nat) (a1 : Int32) (q : Int32) (hf : f_X8_isSheet n a1 = some q) : CI g l yX8_isSheet cX8_isSheet 1 (some .boolean) rmX8_isSheet [.int a1] [] q [] := by
  refine CI_intro RX8 rfl (by decide +kernel) (Nat.le_of_ble_eq_true rfl) ?_
  intro p e s m args below meth c A ls Q hQ X hl hG
  have hl : lv_has ls 1 [(0, .int a1)] := hl
  have hx := X.1
  have hb := X.2.1
  have hown := X.2.2.2.1
  unfold f_X8_isSheet at hf
  refine lv_iload_n hx hb dX8_isSheet_0 rfl (lv_at hl 0 rfl) ?_
  refine lv_iconst (v := 0) hx hb dX8_isSheet_1 (by decide) ?_
  refine lv_iconst (v := 3) hx hb dX8_isSheet_2 (by decide) ?_
  obtain ⟨q1, hq1, hf⟩ := cl_inv hf
  refine r_callSi (bc := []) (br := []) (bs' := []) (As := [.int a1, .int 0, .int 3]) (rest := []) X hG hl.1 (c_X8_in g l  n a1 0 3 q1 hq1) (List.Perm.refl _) (List.Perm.refl _) lk_X8_in ls_X8_in ml_8_132 rfl rfl ⟨Nat.le_of_ble_eq_true rfl, Nat.le_of_ble_eq_true rfl⟩ rfl rfl (Nat.le_of_ble_eq_true rfl) ⟨Nat.zero_le _, Nat.zero_le _⟩ dX8_isSheet_3 (fun H locs hG => ?_)
  obtain ⟨hz, hf⟩ := ck_inv hf
  have hq9 := Option.some.inj hf
  subst hq9
  subst hQ
  exact r_zret X hG (of_decide_eq_true hz) dX8_isSheet_6
def rmX8_judge : Room := { frames := 4, cells := 0, slots := 0, locals := 100 }
set_option maxHeartbeats 4000000 in
set_option maxRecDepth 100000 in
theorem c_X8_judge (g : GT) (l : Launch) (o : Nat) (ad : Nat → Nat) (n : Nat) (a1 : Int32) (s0 : MS) (q : Int32 × MS) (hf : f_X8_judge n a1 s0 = some q) : CI g l yX8_judge cX8_judge 3 (some .int) rmX8_judge [.ref o, .int a1] [wX8 g o ad s0] q.1 [wX8 g o ad q.2] := by
  refine CI_intro RX8 rfl (by decide +kernel) (Nat.le_of_ble_eq_true rfl) ?_
  intro p e s m args below meth c A ls Q hQ X hl hG
  have hl : lv_has ls 3 [(0, .ref o), (1, .int a1)] := hl
  have hx := X.1
  have hb := X.2.1
  have hown := X.2.2.2.1
  unfold f_X8_judge at hf
  refine lv_iload_n hx hb dX8_judge_0 rfl (lv_at hl 1 rfl) ?_
  obtain ⟨q1, hq1, hf⟩ := cl_inv hf
  refine r_callSi (bc := []) (br := [wX8 g o ad s0]) (bs' := [wX8 g o ad s0]) (As := [.int a1]) (rest := []) X hG hl.1 (c_X8_isSheet g l  n a1 q1 hq1) (List.Perm.refl _) (List.Perm.refl _) lk_X8_isSheet ls_X8_isSheet ml_8_304 rfl rfl ⟨Nat.le_of_ble_eq_true rfl, Nat.le_of_ble_eq_true rfl⟩ rfl rfl (Nat.le_of_ble_eq_true rfl) ⟨Nat.zero_le _, Nat.zero_le _⟩ dX8_judge_1 (fun H locs hG => ?_)
  refine lv_if_ne (tgt := 10) hx hb dX8_judge_4 (by decide) (fun hc2 => ?_) (fun hc2 => ?_)
  · replace hf := ite_f hf hc2
    refine lv_aload_n hx hb dX8_judge_10 rfl (lv_at hl 0 rfl) ?_
    refine G_8_114 X hG 0 rfl dX8_judge_11 ?_
    refine lv_iload_n hx hb dX8_judge_14 rfl (lv_at hl 1 rfl) ?_
    refine r_iald X hG 0 31 rfl rfl hf dX8_judge_15 (fun x3 hf => ?_)
    refine lv_if_ge (tgt := 22) hx hb dX8_judge_16 (by decide) (fun hc4 => ?_) (fun hc4 => ?_)
    · replace hf := ite_t hf hc4
      refine lv_iconst (v := 0) hx hb dX8_judge_22 (by decide) ?_
      refine lv_istore_n (lv' := [(2, .int 0), (0, .ref o), (1, .int a1)]) hx hb dX8_judge_23 rfl hl (by decide) rfl (fun ls hl => ?_)
      refine lp_go (P := fun (t5 : Int32) => ∀ (H : Heap) (locs : List Loc) (ls : Array Slot), GM g A s.heap H locs [wX8 g o ad s0] → lv_has ls 3 [(0, .ref o), (1, .int a1), (2, .int t5)] → W p l e rmX8_judge s m args below meth c H locs 0 0 Q (F0 m 24 ls [])) hf (fun K6 hK6 t5 hf H locs ls hG hl => ?_) _ _ _ hG (lv_sub hl [1, 2, 0] rfl)
      refine lv_iload_n hx hb dX8_judge_24 rfl (lv_at hl 2 rfl) ?_
      refine lv_aload_n hx hb dX8_judge_25 rfl (lv_at hl 0 rfl) ?_
      refine G_8_117 X hG 0 rfl dX8_judge_26 ?_
      refine lv_iload_n hx hb dX8_judge_29 rfl (lv_at hl 1 rfl) ?_
      refine r_iald X hG 0 32 rfl rfl hf dX8_judge_30 (fun x7 hf => ?_)
      refine lv_icmp_ge (tgt := 63) hx hb dX8_judge_31 (by decide) (fun hc8 => ?_) (fun hc8 => ?_)
      · replace hf := ite_t hf hc8
        refine lv_aload_n hx hb dX8_judge_63 rfl (lv_at hl 0 rfl) ?_
        refine lv_iload_n hx hb dX8_judge_64 rfl (lv_at hl 1 rfl) ?_
        refine P_8_50 X hG 0 rfl hf (fun t => [wX8 g o ad t]) (fun _ => rfl) dX8_judge_65 (fun z9 H locs hf hG => ?_)
        refine lv_aload_n hx hb dX8_judge_68 rfl (lv_at hl 0 rfl) ?_
        refine lv_iconst (v := 0) hx hb dX8_judge_69 (by decide) ?_
        refine lv_aload_n hx hb dX8_judge_70 rfl (lv_at hl 0 rfl) ?_
        refine G_8_143 X hG 0 rfl dX8_judge_71 ?_
        obtain ⟨q10, hq10, hf⟩ := cl_inv hf
        refine r_callVv (bc := [wX8 g o ad z9]) (br := []) (bs' := [wX8 g o ad q10]) (As := [.int 0, .int (z9.1 6)]) (rest := []) X hG hl.1 (c_X8_day g l o ad n 0 (z9.1 6) z9 q10 hq10) (List.Perm.refl _) (List.Perm.refl _) lk_X8_day lv_X8_day ml_8_292 (j := 0) (k := 0) rfl rfl rfl rfl rfl ⟨Nat.le_of_ble_eq_true rfl, Nat.le_of_ble_eq_true rfl⟩ rfl rfl (Nat.le_of_ble_eq_true rfl) ⟨Nat.zero_le _, Nat.zero_le _⟩ dX8_judge_74 (fun H locs hG => ?_)
        refine lv_aload_n hx hb dX8_judge_77 rfl (lv_at hl 0 rfl) ?_
        refine lv_iconst (v := (-1)) hx hb dX8_judge_78 (by decide) ?_
        refine P_8_50 X hG 0 rfl hf (fun t => [wX8 g o ad t]) (fun _ => rfl) dX8_judge_79 (fun z11 H locs hf hG => ?_)
        refine lv_aload_n hx hb dX8_judge_82 rfl (lv_at hl 0 rfl) ?_
        obtain ⟨q12, hq12, hf⟩ := cl_inv hf
        refine r_callVi (bc := [wX8 g o ad z11]) (br := []) (bs' := [wX8 g o ad z11]) (As := []) (rest := []) X hG hl.1 (c_X8_leftOfAll g l o ad n z11 q12 hq12) (List.Perm.refl _) (List.Perm.refl _) lk_X8_leftOfAll lv_X8_leftOfAll ml_8_295 (j := 0) (k := 0) rfl rfl rfl rfl rfl ⟨Nat.le_of_ble_eq_true rfl, Nat.le_of_ble_eq_true rfl⟩ rfl rfl (Nat.le_of_ble_eq_true rfl) ⟨Nat.zero_le _, Nat.zero_le _⟩ dX8_judge_83 (fun H locs hG => ?_)
        have hq9 := Option.some.inj hf
        subst hq9
        subst hQ
        exact r_iret X hG dX8_judge_86
      · replace hf := ite_f hf hc8
        refine lv_aload_n hx hb dX8_judge_34 rfl (lv_at hl 0 rfl) ?_
        refine G_8_120 X hG 0 rfl dX8_judge_35 ?_
        refine lv_bipush (v := 40) hx hb dX8_judge_38 (by decide) ?_
        refine lv_iload_n hx hb dX8_judge_40 rfl (lv_at hl 1 rfl) ?_
        refine lv_imul hx hb dX8_judge_41 ?_
        refine lv_iload_n hx hb dX8_judge_42 rfl (lv_at hl 2 rfl) ?_
        refine lv_iadd hx hb dX8_judge_43 ?_
        refine r_iald X hG 0 33 rfl rfl hf dX8_judge_44 (fun x13 hf => ?_)
        refine lv_iconst (v := 0) hx hb dX8_judge_45 (by decide) ?_
        refine lv_bipush (v := 99) hx hb dX8_judge_46 (by decide) ?_
        obtain ⟨q14, hq14, hf⟩ := cl_inv hf
        refine r_callSi (bc := []) (br := [wX8 g o ad s0]) (bs' := [wX8 g o ad s0]) (As := [.int x13, .int 0, .int 99]) (rest := []) X hG hl.1 (c_X8_in g l  n x13 0 99 q14 hq14) (List.Perm.refl _) (List.Perm.refl _) lk_X8_in ls_X8_in ml_8_132 rfl rfl ⟨Nat.le_of_ble_eq_true rfl, Nat.le_of_ble_eq_true rfl⟩ rfl rfl (Nat.le_of_ble_eq_true rfl) ⟨Nat.zero_le _, Nat.zero_le _⟩ dX8_judge_48 (fun H locs hG => ?_)
        refine lv_if_ne (tgt := 57) hx hb dX8_judge_51 (by decide) (fun hc15 => ?_) (fun hc15 => ?_)
        · replace hf := ite_f hf hc15
          refine lv_iinc (v := (t5 + 1)) (lv' := [(2, .int (t5 + 1)), (0, .ref o), (1, .int a1)]) hx hb dX8_judge_57 hl (k := 2) rfl rfl (by decide) rfl (fun ls hl => ?_)
          refine lv_goto (tgt := 24) hx hb dX8_judge_60 (by decide) ?_
          exact hK6 _ hf _ _ _ hG (lv_sub hl [1, 2, 0] rfl)
        · replace hf := ite_t hf hc15
          refine lv_bipush (v := (-2)) hx hb dX8_judge_54 (by decide) ?_
          have hq9 := Option.some.inj hf
          subst hq9
          subst hQ
          exact r_iret X hG dX8_judge_56
    · replace hf := ite_f hf hc4
      refine lv_bipush (v := (-11)) hx hb dX8_judge_19 (by decide) ?_
      have hq9 := Option.some.inj hf
      subst hq9
      subst hQ
      exact r_iret X hG dX8_judge_21
  · replace hf := ite_t hf hc2
    refine lv_bipush (v := (-2)) hx hb dX8_judge_7 (by decide) ?_
    have hq9 := Option.some.inj hf
    subst hq9
    subst hQ
    exact r_iret X hG dX8_judge_9
def rmX8_image : Room := { frames := 0, cells := 0, slots := 0, locals := 0 }
set_option maxHeartbeats 4000000 in
set_option maxRecDepth 100000 in
theorem c_X8_image (g : GT) (l : Launch) (o : Nat) (ad : Nat → Nat) (n : Nat) (s0 : MS) (q : Int32 × MS) (hf : f_X8_image n s0 = some q) : CI g l yX8_image cX8_image 2 (some .int) rmX8_image [.ref o] [wX8 g o ad s0] q.1 [wX8 g o ad q.2] := by
  refine CI_intro RX8 rfl (by decide +kernel) (Nat.le_of_ble_eq_true rfl) ?_
  intro p e s m args below meth c A ls Q hQ X hl hG
  have hl : lv_has ls 2 [(0, .ref o)] := hl
  have hx := X.1
  have hb := X.2.1
  have hown := X.2.2.2.1
  unfold f_X8_image at hf
  refine lv_aload_n hx hb dX8_image_0 rfl (lv_at hl 0 rfl) ?_
  refine lv_iconst (v := 1) hx hb dX8_image_1 (by decide) ?_
  refine P_8_307 X hG 0 rfl hf (fun t => [wX8 g o ad t]) (fun _ => rfl) (by decide) dX8_image_2 (fun z1 H locs hf hG => ?_)
  refine lv_aload_n hx hb dX8_image_5 rfl (lv_at hl 0 rfl) ?_
  refine lv_aload_n hx hb dX8_image_6 rfl (lv_at hl 0 rfl) ?_
  refine G_8_43 X hG 0 rfl dX8_image_7 ?_
  refine P_8_311 X hG 0 rfl hf (fun t => [wX8 g o ad t]) (fun _ => rfl) dX8_image_10 (fun z2 H locs hf hG => ?_)
  refine lv_aload_n hx hb dX8_image_13 rfl (lv_at hl 0 rfl) ?_
  refine lv_aload_n hx hb dX8_image_14 rfl (lv_at hl 0 rfl) ?_
  refine G_8_47 X hG 0 rfl dX8_image_15 ?_
  refine P_8_314 X hG 0 rfl hf (fun t => [wX8 g o ad t]) (fun _ => rfl) dX8_image_18 (fun z3 H locs hf hG => ?_)
  refine lv_aload_n hx hb dX8_image_21 rfl (lv_at hl 0 rfl) ?_
  refine lv_aload_n hx hb dX8_image_22 rfl (lv_at hl 0 rfl) ?_
  refine G_8_149 X hG 0 rfl dX8_image_23 ?_
  refine P_8_317 X hG 0 rfl hf (fun t => [wX8 g o ad t]) (fun _ => rfl) dX8_image_26 (fun z4 H locs hf hG => ?_)
  refine lv_aload_n hx hb dX8_image_29 rfl (lv_at hl 0 rfl) ?_
  refine lv_aload_n hx hb dX8_image_30 rfl (lv_at hl 0 rfl) ?_
  refine G_8_238 X hG 0 rfl dX8_image_31 ?_
  refine P_8_320 X hG 0 rfl hf (fun t => [wX8 g o ad t]) (fun _ => rfl) dX8_image_34 (fun z5 H locs hf hG => ?_)
  refine lv_aload_n hx hb dX8_image_37 rfl (lv_at hl 0 rfl) ?_
  refine lv_aload_n hx hb dX8_image_38 rfl (lv_at hl 0 rfl) ?_
  refine G_8_129 X hG 0 rfl dX8_image_39 ?_
  refine P_8_323 X hG 0 rfl hf (fun t => [wX8 g o ad t]) (fun _ => rfl) dX8_image_42 (fun z6 H locs hf hG => ?_)
  refine lv_iconst (v := 0) hx hb dX8_image_45 (by decide) ?_
  refine lv_istore_n (lv' := [(1, .int 0), (0, .ref o)]) hx hb dX8_image_46 rfl hl (by decide) rfl (fun ls hl => ?_)
  refine lp_go (P := fun (t7 : Int32 × MS) => ∀ (H : Heap) (locs : List Loc) (ls : Array Slot), GM g A s.heap H locs [wX8 g o ad t7.2] → lv_has ls 2 [(0, .ref o), (1, .int t7.1)] → W p l e rmX8_image s m args below meth c H locs 0 0 Q (F0 m 47 ls [])) hf (fun K8 hK8 t7 hf H locs ls hG hl => ?_) _ _ _ hG (lv_sub hl [1, 0] rfl)
  refine lv_iload_n hx hb dX8_image_47 rfl (lv_at hl 1 rfl) ?_
  refine lv_bipush (v := 6) hx hb dX8_image_48 (by decide) ?_
  refine lv_icmp_ge (tgt := 107) hx hb dX8_image_50 (by decide) (fun hc9 => ?_) (fun hc9 => ?_)
  · replace hf := ite_t hf hc9
    refine lv_iconst (v := 0) hx hb dX8_image_107 (by decide) ?_
    refine lv_istore_n (lv' := [(1, .int 0), (0, .ref o)]) hx hb dX8_image_108 rfl hl (by decide) rfl (fun ls hl => ?_)
    refine lp_go (P := fun (t10 : Int32 × MS) => ∀ (H : Heap) (locs : List Loc) (ls : Array Slot), GM g A s.heap H locs [wX8 g o ad t10.2] → lv_has ls 2 [(0, .ref o), (1, .int t10.1)] → W p l e rmX8_image s m args below meth c H locs 0 0 Q (F0 m 109 ls [])) hf (fun K11 hK11 t10 hf H locs ls hG hl => ?_) _ _ _ hG (lv_sub hl [1, 0] rfl)
    refine lv_iload_n hx hb dX8_image_109 rfl (lv_at hl 1 rfl) ?_
    refine lv_bipush (v := 120) hx hb dX8_image_110 (by decide) ?_
    refine lv_icmp_ge (tgt := 133) hx hb dX8_image_112 (by decide) (fun hc12 => ?_) (fun hc12 => ?_)
    · replace hf := ite_t hf hc12
      refine lv_aload_n hx hb dX8_image_133 rfl (lv_at hl 0 rfl) ?_
      refine G_8_129 X hG 0 rfl dX8_image_134 ?_
      have hq9 := Option.some.inj hf
      subst hq9
      subst hQ
      exact r_iret X hG dX8_image_137
    · replace hf := ite_f hf hc12
      refine lv_aload_n hx hb dX8_image_115 rfl (lv_at hl 0 rfl) ?_
      refine G_8_111 X hG 0 rfl dX8_image_116 ?_
      refine lv_iload_n hx hb dX8_image_119 rfl (lv_at hl 1 rfl) ?_
      refine lv_aload_n hx hb dX8_image_120 rfl (lv_at hl 0 rfl) ?_
      refine G_8_40 X hG 0 rfl dX8_image_121 ?_
      refine lv_iload_n hx hb dX8_image_124 rfl (lv_at hl 1 rfl) ?_
      refine r_iald X hG 0 11 rfl rfl hf dX8_image_125 (fun x13 hf => ?_)
      refine r_iast X hG 0 30 rfl rfl hf (fun t => [wX8 g o ad t]) rfl dX8_image_126 (fun z14 H locs hf hG => ?_)
      refine lv_iinc (v := (t10.1 + 1)) (lv' := [(1, .int (t10.1 + 1)), (0, .ref o)]) hx hb dX8_image_127 hl (k := 1) rfl rfl (by decide) rfl (fun ls hl => ?_)
      refine lv_goto (tgt := 109) hx hb dX8_image_130 (by decide) ?_
      exact hK11 _ hf _ _ _ hG (lv_sub hl [1, 0] rfl)
  · replace hf := ite_f hf hc9
    refine lv_aload_n hx hb dX8_image_53 rfl (lv_at hl 0 rfl) ?_
    refine G_8_99 X hG 0 rfl dX8_image_54 ?_
    refine lv_iload_n hx hb dX8_image_57 rfl (lv_at hl 1 rfl) ?_
    refine lv_aload_n hx hb dX8_image_58 rfl (lv_at hl 0 rfl) ?_
    refine G_8_7 X hG 0 rfl dX8_image_59 ?_
    refine lv_iload_n hx hb dX8_image_62 rfl (lv_at hl 1 rfl) ?_
    refine r_iald X hG 0 1 rfl rfl hf dX8_image_63 (fun x15 hf => ?_)
    refine r_iast X hG 0 26 rfl rfl hf (fun t => [wX8 g o ad t]) rfl dX8_image_64 (fun z16 H locs hf hG => ?_)
    refine lv_aload_n hx hb dX8_image_65 rfl (lv_at hl 0 rfl) ?_
    refine G_8_102 X hG 0 rfl dX8_image_66 ?_
    refine lv_iload_n hx hb dX8_image_69 rfl (lv_at hl 1 rfl) ?_
    refine lv_aload_n hx hb dX8_image_70 rfl (lv_at hl 0 rfl) ?_
    refine G_8_13 X hG 0 rfl dX8_image_71 ?_
    refine lv_iload_n hx hb dX8_image_74 rfl (lv_at hl 1 rfl) ?_
    refine r_iald X hG 0 2 rfl rfl hf dX8_image_75 (fun x17 hf => ?_)
    refine r_iast X hG 0 27 rfl rfl hf (fun t => [wX8 g o ad t]) rfl dX8_image_76 (fun z18 H locs hf hG => ?_)
    refine lv_aload_n hx hb dX8_image_77 rfl (lv_at hl 0 rfl) ?_
    refine G_8_105 X hG 0 rfl dX8_image_78 ?_
    refine lv_iload_n hx hb dX8_image_81 rfl (lv_at hl 1 rfl) ?_
    refine lv_aload_n hx hb dX8_image_82 rfl (lv_at hl 0 rfl) ?_
    refine G_8_16 X hG 0 rfl dX8_image_83 ?_
    refine lv_iload_n hx hb dX8_image_86 rfl (lv_at hl 1 rfl) ?_
    refine r_iald X hG 0 3 rfl rfl hf dX8_image_87 (fun x19 hf => ?_)
    refine r_iast X hG 0 28 rfl rfl hf (fun t => [wX8 g o ad t]) rfl dX8_image_88 (fun z20 H locs hf hG => ?_)
    refine lv_aload_n hx hb dX8_image_89 rfl (lv_at hl 0 rfl) ?_
    refine G_8_108 X hG 0 rfl dX8_image_90 ?_
    refine lv_iload_n hx hb dX8_image_93 rfl (lv_at hl 1 rfl) ?_
    refine lv_aload_n hx hb dX8_image_94 rfl (lv_at hl 0 rfl) ?_
    refine G_8_19 X hG 0 rfl dX8_image_95 ?_
    refine lv_iload_n hx hb dX8_image_98 rfl (lv_at hl 1 rfl) ?_
    refine r_iald X hG 0 4 rfl rfl hf dX8_image_99 (fun x21 hf => ?_)
    refine r_iast X hG 0 29 rfl rfl hf (fun t => [wX8 g o ad t]) rfl dX8_image_100 (fun z22 H locs hf hG => ?_)
    refine lv_iinc (v := (t7.1 + 1)) (lv' := [(1, .int (t7.1 + 1)), (0, .ref o)]) hx hb dX8_image_101 hl (k := 1) rfl rfl (by decide) rfl (fun ls hl => ?_)
    refine lv_goto (tgt := 47) hx hb dX8_image_104 (by decide) ?_
    exact hK8 _ hf _ _ _ hG (lv_sub hl [1, 0] rfl)
def rmX8_back : Room := { frames := 0, cells := 0, slots := 0, locals := 0 }
set_option maxHeartbeats 4000000 in
set_option maxRecDepth 100000 in
theorem c_X8_back (g : GT) (l : Launch) (o : Nat) (ad : Nat → Nat) (n : Nat) (s0 : MS) (q : Int32 × MS) (hf : f_X8_back n s0 = some q) : CI g l yX8_back cX8_back 2 (some .int) rmX8_back [.ref o] [wX8 g o ad s0] q.1 [wX8 g o ad q.2] := by
  refine CI_intro RX8 rfl (by decide +kernel) (Nat.le_of_ble_eq_true rfl) ?_
  intro p e s m args below meth c A ls Q hQ X hl hG
  have hl : lv_has ls 2 [(0, .ref o)] := hl
  have hx := X.1
  have hb := X.2.1
  have hown := X.2.2.2.1
  unfold f_X8_back at hf
  refine lv_aload_n hx hb dX8_back_0 rfl (lv_at hl 0 rfl) ?_
  refine G_8_307 X hG 0 rfl dX8_back_1 ?_
  refine lv_if_ne (tgt := 10) hx hb dX8_back_4 (by decide) (fun hc1 => ?_) (fun hc1 => ?_)
  · replace hf := ite_f hf hc1
    refine lv_aload_n hx hb dX8_back_10 rfl (lv_at hl 0 rfl) ?_
    refine lv_aload_n hx hb dX8_back_11 rfl (lv_at hl 0 rfl) ?_
    refine G_8_311 X hG 0 rfl dX8_back_12 ?_
    refine P_8_43 X hG 0 rfl hf (fun t => [wX8 g o ad t]) (fun _ => rfl) dX8_back_15 (fun z2 H locs hf hG => ?_)
    refine lv_aload_n hx hb dX8_back_18 rfl (lv_at hl 0 rfl) ?_
    refine lv_aload_n hx hb dX8_back_19 rfl (lv_at hl 0 rfl) ?_
    refine G_8_314 X hG 0 rfl dX8_back_20 ?_
    refine P_8_47 X hG 0 rfl hf (fun t => [wX8 g o ad t]) (fun _ => rfl) dX8_back_23 (fun z3 H locs hf hG => ?_)
    refine lv_aload_n hx hb dX8_back_26 rfl (lv_at hl 0 rfl) ?_
    refine lv_aload_n hx hb dX8_back_27 rfl (lv_at hl 0 rfl) ?_
    refine G_8_317 X hG 0 rfl dX8_back_28 ?_
    refine P_8_149 X hG 0 rfl hf (fun t => [wX8 g o ad t]) (fun _ => rfl) dX8_back_31 (fun z4 H locs hf hG => ?_)
    refine lv_aload_n hx hb dX8_back_34 rfl (lv_at hl 0 rfl) ?_
    refine lv_aload_n hx hb dX8_back_35 rfl (lv_at hl 0 rfl) ?_
    refine G_8_320 X hG 0 rfl dX8_back_36 ?_
    refine P_8_238 X hG 0 rfl hf (fun t => [wX8 g o ad t]) (fun _ => rfl) dX8_back_39 (fun z5 H locs hf hG => ?_)
    refine lv_iconst (v := 0) hx hb dX8_back_42 (by decide) ?_
    refine lv_istore_n (lv' := [(1, .int 0), (0, .ref o)]) hx hb dX8_back_43 rfl hl (by decide) rfl (fun ls hl => ?_)
    refine lp_go (P := fun (t6 : Int32 × MS) => ∀ (H : Heap) (locs : List Loc) (ls : Array Slot), GM g A s.heap H locs [wX8 g o ad t6.2] → lv_has ls 2 [(0, .ref o), (1, .int t6.1)] → W p l e rmX8_back s m args below meth c H locs 0 0 Q (F0 m 44 ls [])) hf (fun K7 hK7 t6 hf H locs ls hG hl => ?_) _ _ _ hG (lv_sub hl [1, 0] rfl)
    refine lv_iload_n hx hb dX8_back_44 rfl (lv_at hl 1 rfl) ?_
    refine lv_aload_n hx hb dX8_back_45 rfl (lv_at hl 0 rfl) ?_
    refine G_8_323 X hG 0 rfl dX8_back_46 ?_
    refine lv_icmp_ge (tgt := 106) hx hb dX8_back_49 (by decide) (fun hc8 => ?_) (fun hc8 => ?_)
    · replace hf := ite_t hf hc8
      refine lv_iconst (v := 0) hx hb dX8_back_106 (by decide) ?_
      refine lv_istore_n (lv' := [(1, .int 0), (0, .ref o)]) hx hb dX8_back_107 rfl hl (by decide) rfl (fun ls hl => ?_)
      refine lp_go (P := fun (t9 : Int32 × MS) => ∀ (H : Heap) (locs : List Loc) (ls : Array Slot), GM g A s.heap H locs [wX8 g o ad t9.2] → lv_has ls 2 [(0, .ref o), (1, .int t9.1)] → W p l e rmX8_back s m args below meth c H locs 0 0 Q (F0 m 108 ls [])) hf (fun K10 hK10 t9 hf H locs ls hG hl => ?_) _ _ _ hG (lv_sub hl [1, 0] rfl)
      refine lv_iload_n hx hb dX8_back_108 rfl (lv_at hl 1 rfl) ?_
      refine lv_bipush (v := 120) hx hb dX8_back_109 (by decide) ?_
      refine lv_icmp_ge (tgt := 132) hx hb dX8_back_111 (by decide) (fun hc11 => ?_) (fun hc11 => ?_)
      · replace hf := ite_t hf hc11
        refine lv_aload_n hx hb dX8_back_132 rfl (lv_at hl 0 rfl) ?_
        refine G_8_129 X hG 0 rfl dX8_back_133 ?_
        have hq9 := Option.some.inj hf
        subst hq9
        subst hQ
        exact r_iret X hG dX8_back_136
      · replace hf := ite_f hf hc11
        refine lv_aload_n hx hb dX8_back_114 rfl (lv_at hl 0 rfl) ?_
        refine G_8_40 X hG 0 rfl dX8_back_115 ?_
        refine lv_iload_n hx hb dX8_back_118 rfl (lv_at hl 1 rfl) ?_
        refine lv_aload_n hx hb dX8_back_119 rfl (lv_at hl 0 rfl) ?_
        refine G_8_111 X hG 0 rfl dX8_back_120 ?_
        refine lv_iload_n hx hb dX8_back_123 rfl (lv_at hl 1 rfl) ?_
        refine r_iald X hG 0 30 rfl rfl hf dX8_back_124 (fun x12 hf => ?_)
        refine r_iast X hG 0 11 rfl rfl hf (fun t => [wX8 g o ad t]) rfl dX8_back_125 (fun z13 H locs hf hG => ?_)
        refine lv_iinc (v := (t9.1 + 1)) (lv' := [(1, .int (t9.1 + 1)), (0, .ref o)]) hx hb dX8_back_126 hl (k := 1) rfl rfl (by decide) rfl (fun ls hl => ?_)
        refine lv_goto (tgt := 108) hx hb dX8_back_129 (by decide) ?_
        exact hK10 _ hf _ _ _ hG (lv_sub hl [1, 0] rfl)
    · replace hf := ite_f hf hc8
      refine lv_aload_n hx hb dX8_back_52 rfl (lv_at hl 0 rfl) ?_
      refine G_8_7 X hG 0 rfl dX8_back_53 ?_
      refine lv_iload_n hx hb dX8_back_56 rfl (lv_at hl 1 rfl) ?_
      refine lv_aload_n hx hb dX8_back_57 rfl (lv_at hl 0 rfl) ?_
      refine G_8_99 X hG 0 rfl dX8_back_58 ?_
      refine lv_iload_n hx hb dX8_back_61 rfl (lv_at hl 1 rfl) ?_
      refine r_iald X hG 0 26 rfl rfl hf dX8_back_62 (fun x14 hf => ?_)
      refine r_iast X hG 0 1 rfl rfl hf (fun t => [wX8 g o ad t]) rfl dX8_back_63 (fun z15 H locs hf hG => ?_)
      refine lv_aload_n hx hb dX8_back_64 rfl (lv_at hl 0 rfl) ?_
      refine G_8_13 X hG 0 rfl dX8_back_65 ?_
      refine lv_iload_n hx hb dX8_back_68 rfl (lv_at hl 1 rfl) ?_
      refine lv_aload_n hx hb dX8_back_69 rfl (lv_at hl 0 rfl) ?_
      refine G_8_102 X hG 0 rfl dX8_back_70 ?_
      refine lv_iload_n hx hb dX8_back_73 rfl (lv_at hl 1 rfl) ?_
      refine r_iald X hG 0 27 rfl rfl hf dX8_back_74 (fun x16 hf => ?_)
      refine r_iast X hG 0 2 rfl rfl hf (fun t => [wX8 g o ad t]) rfl dX8_back_75 (fun z17 H locs hf hG => ?_)
      refine lv_aload_n hx hb dX8_back_76 rfl (lv_at hl 0 rfl) ?_
      refine G_8_16 X hG 0 rfl dX8_back_77 ?_
      refine lv_iload_n hx hb dX8_back_80 rfl (lv_at hl 1 rfl) ?_
      refine lv_aload_n hx hb dX8_back_81 rfl (lv_at hl 0 rfl) ?_
      refine G_8_105 X hG 0 rfl dX8_back_82 ?_
      refine lv_iload_n hx hb dX8_back_85 rfl (lv_at hl 1 rfl) ?_
      refine r_iald X hG 0 28 rfl rfl hf dX8_back_86 (fun x18 hf => ?_)
      refine r_iast X hG 0 3 rfl rfl hf (fun t => [wX8 g o ad t]) rfl dX8_back_87 (fun z19 H locs hf hG => ?_)
      refine lv_aload_n hx hb dX8_back_88 rfl (lv_at hl 0 rfl) ?_
      refine G_8_19 X hG 0 rfl dX8_back_89 ?_
      refine lv_iload_n hx hb dX8_back_92 rfl (lv_at hl 1 rfl) ?_
      refine lv_aload_n hx hb dX8_back_93 rfl (lv_at hl 0 rfl) ?_
      refine G_8_108 X hG 0 rfl dX8_back_94 ?_
      refine lv_iload_n hx hb dX8_back_97 rfl (lv_at hl 1 rfl) ?_
      refine r_iald X hG 0 29 rfl rfl hf dX8_back_98 (fun x20 hf => ?_)
      refine r_iast X hG 0 4 rfl rfl hf (fun t => [wX8 g o ad t]) rfl dX8_back_99 (fun z21 H locs hf hG => ?_)
      refine lv_iinc (v := (t6.1 + 1)) (lv' := [(1, .int (t6.1 + 1)), (0, .ref o)]) hx hb dX8_back_100 hl (k := 1) rfl rfl (by decide) rfl (fun ls hl => ?_)
      refine lv_goto (tgt := 44) hx hb dX8_back_103 (by decide) ?_
      exact hK7 _ hf _ _ _ hG (lv_sub hl [1, 0] rfl)
  · replace hf := ite_t hf hc1
    refine lv_bipush (v := (-3)) hx hb dX8_back_7 (by decide) ?_
    have hq9 := Option.some.inj hf
    subst hq9
    subst hQ
    exact r_iret X hG dX8_back_9
def rmX8_allUp : Room := { frames := 0, cells := 0, slots := 0, locals := 0 }
set_option maxHeartbeats 4000000 in
set_option maxRecDepth 100000 in
theorem c_X8_allUp (g : GT) (l : Launch) (o : Nat) (ad : Nat → Nat) (n : Nat) (s0 : MS) (q : Int32) (hf : f_X8_allUp n s0 = some q) : CI g l yX8_allUp cX8_allUp 3 (some .int) rmX8_allUp [.ref o] [wX8 g o ad s0] q [wX8 g o ad s0] := by
  refine CI_intro RX8 rfl (by decide +kernel) (Nat.le_of_ble_eq_true rfl) ?_
  intro p e s m args below meth c A ls Q hQ X hl hG
  have hl : lv_has ls 3 [(0, .ref o)] := hl
  have hx := X.1
  have hb := X.2.1
  have hown := X.2.2.2.1
  unfold f_X8_allUp at hf
  refine lv_iconst (v := 0) hx hb dX8_allUp_0 (by decide) ?_
  refine lv_istore_n (lv' := [(1, .int 0), (0, .ref o)]) hx hb dX8_allUp_1 rfl hl (by decide) rfl (fun ls hl => ?_)
  refine lv_iconst (v := 0) hx hb dX8_allUp_2 (by decide) ?_
  refine lv_istore_n (lv' := [(2, .int 0), (1, .int 0), (0, .ref o)]) hx hb dX8_allUp_3 rfl hl (by decide) rfl (fun ls hl => ?_)
  refine lp_go (P := fun (t1 : Int32 × Int32) => ∀ (H : Heap) (locs : List Loc) (ls : Array Slot), GM g A s.heap H locs [wX8 g o ad s0] → lv_has ls 3 [(0, .ref o), (1, .int t1.1), (2, .int t1.2)] → W p l e rmX8_allUp s m args below meth c H locs 0 0 Q (F0 m 4 ls [])) hf (fun K2 hK2 t1 hf H locs ls hG hl => ?_) _ _ _ hG (lv_sub hl [2, 1, 0] rfl)
  refine lv_iload_n hx hb dX8_allUp_4 rfl (lv_at hl 2 rfl) ?_
  refine lv_aload_n hx hb dX8_allUp_5 rfl (lv_at hl 0 rfl) ?_
  refine G_8_129 X hG 0 rfl dX8_allUp_6 ?_
  refine lv_icmp_ge (tgt := 27) hx hb dX8_allUp_9 (by decide) (fun hc3 => ?_) (fun hc3 => ?_)
  · replace hf := ite_t hf hc3
    refine lv_iload_n hx hb dX8_allUp_27 rfl (lv_at hl 1 rfl) ?_
    have hq9 := Option.some.inj hf
    subst hq9
    subst hQ
    exact r_iret X hG dX8_allUp_28
  · replace hf := ite_f hf hc3
    refine lv_iload_n hx hb dX8_allUp_12 rfl (lv_at hl 1 rfl) ?_
    refine lv_aload_n hx hb dX8_allUp_13 rfl (lv_at hl 0 rfl) ?_
    refine G_8_7 X hG 0 rfl dX8_allUp_14 ?_
    refine lv_iload_n hx hb dX8_allUp_17 rfl (lv_at hl 2 rfl) ?_
    refine r_iald X hG 0 1 rfl rfl hf dX8_allUp_18 (fun x4 hf => ?_)
    refine lv_iadd hx hb dX8_allUp_19 ?_
    refine r_bni hf (fun x5 hf => ?_)
    refine lv_istore_n (lv' := [(1, .int x5), (0, .ref o), (2, .int t1.2)]) hx hb dX8_allUp_20 rfl hl (by decide) rfl (fun ls hl => ?_)
    refine lv_iinc (v := (t1.2 + 1)) (lv' := [(2, .int (t1.2 + 1)), (1, .int x5), (0, .ref o)]) hx hb dX8_allUp_21 hl (k := 2) rfl rfl (by decide) rfl (fun ls hl => ?_)
    refine lv_goto (tgt := 4) hx hb dX8_allUp_24 (by decide) ?_
    exact hK2 _ hf _ _ _ hG (lv_sub hl [2, 1, 0] rfl)
def rmX8_count : Room := { frames := 1, cells := 0, slots := 0, locals := 22 }
set_option maxHeartbeats 4000000 in
set_option maxRecDepth 100000 in
theorem c_X8_count (g : GT) (l : Launch) (o : Nat) (ad : Nat → Nat) (n : Nat) (a1 : Int32) (s0 : MS) (q : Int32) (hf : f_X8_count n a1 s0 = some q) : CI g l yX8_count cX8_count 2 (some .int) rmX8_count [.ref o, .int a1] [wX8 g o ad s0] q [wX8 g o ad s0] := by
  refine CI_intro RX8 rfl (by decide +kernel) (Nat.le_of_ble_eq_true rfl) ?_
  intro p e s m args below meth c A ls Q hQ X hl hG
  have hl : lv_has ls 2 [(0, .ref o), (1, .int a1)] := hl
  have hx := X.1
  have hb := X.2.1
  have hown := X.2.2.2.1
  unfold f_X8_count at hf
  refine lv_iload_n hx hb dX8_count_0 rfl (lv_at hl 1 rfl) ?_
  by_cases hk1_0 : a1 = 0
  · replace hf := ite_t hf hk1_0
    refine r_tsi (tgt := 48) (off := 47) X dX8_count_1 hk1_0 (by decide +kernel) (by decide +kernel) (by decide) ?_
    refine lv_aload_n hx hb dX8_count_48 rfl (lv_at hl 0 rfl) ?_
    refine G_8_129 X hG 0 rfl dX8_count_49 ?_
    have hq9 := Option.some.inj hf
    subst hq9
    subst hQ
    exact r_iret X hG dX8_count_52
  · replace hf := ite_f hf hk1_0
    by_cases hk1_1 : a1 = 1
    · replace hf := ite_t hf hk1_1
      refine r_tsi (tgt := 53) (off := 52) X dX8_count_1 hk1_1 (by decide +kernel) (by decide +kernel) (by decide) ?_
      refine lv_aload_n hx hb dX8_count_53 rfl (lv_at hl 0 rfl) ?_
      refine G_8_143 X hG 0 rfl dX8_count_54 ?_
      have hq9 := Option.some.inj hf
      subst hq9
      subst hQ
      exact r_iret X hG dX8_count_57
    · replace hf := ite_f hf hk1_1
      by_cases hk1_2 : a1 = 2
      · replace hf := ite_t hf hk1_2
        refine r_tsi (tgt := 58) (off := 57) X dX8_count_1 hk1_2 (by decide +kernel) (by decide +kernel) (by decide) ?_
        refine lv_aload_n hx hb dX8_count_58 rfl (lv_at hl 0 rfl) ?_
        refine G_8_136 X hG 0 rfl dX8_count_59 ?_
        have hq9 := Option.some.inj hf
        subst hq9
        subst hQ
        exact r_iret X hG dX8_count_62
      · replace hf := ite_f hf hk1_2
        by_cases hk1_3 : a1 = 3
        · replace hf := ite_t hf hk1_3
          refine r_tsi (tgt := 63) (off := 62) X dX8_count_1 hk1_3 (by decide +kernel) (by decide +kernel) (by decide) ?_
          refine lv_aload_n hx hb dX8_count_63 rfl (lv_at hl 0 rfl) ?_
          refine G_8_43 X hG 0 rfl dX8_count_64 ?_
          have hq9 := Option.some.inj hf
          subst hq9
          subst hQ
          exact r_iret X hG dX8_count_67
        · replace hf := ite_f hf hk1_3
          by_cases hk1_4 : a1 = 4
          · replace hf := ite_t hf hk1_4
            refine r_tsi (tgt := 68) (off := 67) X dX8_count_1 hk1_4 (by decide +kernel) (by decide +kernel) (by decide) ?_
            refine lv_aload_n hx hb dX8_count_68 rfl (lv_at hl 0 rfl) ?_
            refine G_8_57 X hG 0 rfl dX8_count_69 ?_
            have hq9 := Option.some.inj hf
            subst hq9
            subst hQ
            exact r_iret X hG dX8_count_72
          · replace hf := ite_f hf hk1_4
            by_cases hk1_5 : a1 = 5
            · replace hf := ite_t hf hk1_5
              refine r_tsi (tgt := 73) (off := 72) X dX8_count_1 hk1_5 (by decide +kernel) (by decide +kernel) (by decide) ?_
              refine lv_aload_n hx hb dX8_count_73 rfl (lv_at hl 0 rfl) ?_
              refine G_8_162 X hG 0 rfl dX8_count_74 ?_
              have hq9 := Option.some.inj hf
              subst hq9
              subst hQ
              exact r_iret X hG dX8_count_77
            · replace hf := ite_f hf hk1_5
              by_cases hk1_6 : a1 = 6
              · replace hf := ite_t hf hk1_6
                refine r_tsi (tgt := 78) (off := 77) X dX8_count_1 hk1_6 (by decide +kernel) (by decide +kernel) (by decide) ?_
                refine lv_aload_n hx hb dX8_count_78 rfl (lv_at hl 0 rfl) ?_
                refine G_8_238 X hG 0 rfl dX8_count_79 ?_
                have hq9 := Option.some.inj hf
                subst hq9
                subst hQ
                exact r_iret X hG dX8_count_82
              · replace hf := ite_f hf hk1_6
                by_cases hk1_7 : a1 = 7
                · replace hf := ite_t hf hk1_7
                  refine r_tsi (tgt := 83) (off := 82) X dX8_count_1 hk1_7 (by decide +kernel) (by decide +kernel) (by decide) ?_
                  refine lv_aload_n hx hb dX8_count_83 rfl (lv_at hl 0 rfl) ?_
                  obtain ⟨q2, hq2, hf⟩ := cl_inv hf
                  refine r_callVi (bc := [wX8 g o ad s0]) (br := []) (bs' := [wX8 g o ad s0]) (As := []) (rest := []) X hG hl.1 (c_X8_allUp g l o ad n s0 q2 hq2) (List.Perm.refl _) (List.Perm.refl _) lk_X8_allUp lv_X8_allUp ml_8_326 (j := 0) (k := 0) rfl rfl rfl rfl rfl ⟨Nat.le_of_ble_eq_true rfl, Nat.le_of_ble_eq_true rfl⟩ rfl rfl (Nat.le_of_ble_eq_true rfl) ⟨Nat.zero_le _, Nat.zero_le _⟩ dX8_count_84 (fun H locs hG => ?_)
                  have hq9 := Option.some.inj hf
                  subst hq9
                  subst hQ
                  exact r_iret X hG dX8_count_87
                · replace hf := ite_f hf hk1_7
                  refine r_tso (tgt := 88) X dX8_count_1 (ks := [0, 1, 2, 3, 4, 5, 6, 7]) (List.forall_mem_cons.mpr ⟨hk1_0, List.forall_mem_cons.mpr ⟨hk1_1, List.forall_mem_cons.mpr ⟨hk1_2, List.forall_mem_cons.mpr ⟨hk1_3, List.forall_mem_cons.mpr ⟨hk1_4, List.forall_mem_cons.mpr ⟨hk1_5, List.forall_mem_cons.mpr ⟨hk1_6, List.forall_mem_cons.mpr ⟨hk1_7, List.forall_mem_nil _⟩⟩⟩⟩⟩⟩⟩⟩) (by decide +kernel) (by decide) ?_
                  refine lv_bipush (v := (-2)) hx hb dX8_count_88 (by decide) ?_
                  have hq9 := Option.some.inj hf
                  subst hq9
                  subst hQ
                  exact r_iret X hG dX8_count_90
def rmX8_sheet : Room := { frames := 2, cells := 0, slots := 0, locals := 42 }
set_option maxHeartbeats 4000000 in
set_option maxRecDepth 100000 in
theorem c_X8_sheet (g : GT) (l : Launch) (o : Nat) (ad : Nat → Nat) (n : Nat) (a1 : Int32) (a2 : Int32) (a3 : Int32) (s0 : MS) (q : Int32 × MS) (hf : f_X8_sheet n a1 a2 a3 s0 = some q) : CI g l yX8_sheet cX8_sheet 5 (some .int) rmX8_sheet [.ref o, .int a1, .int a2, .int a3] [wX8 g o ad s0] q.1 [wX8 g o ad q.2] := by
  refine CI_intro RX8 rfl (by decide +kernel) (Nat.le_of_ble_eq_true rfl) ?_
  intro p e s m args below meth c A ls Q hQ X hl hG
  have hl : lv_has ls 5 [(0, .ref o), (1, .int a1), (2, .int a2), (3, .int a3)] := hl
  have hx := X.1
  have hb := X.2.1
  have hown := X.2.2.2.1
  unfold f_X8_sheet at hf
  refine lv_iload_n hx hb dX8_sheet_0 rfl (lv_at hl 1 rfl) ?_
  obtain ⟨q1, hq1, hf⟩ := cl_inv hf
  refine r_callSi (bc := []) (br := [wX8 g o ad s0]) (bs' := [wX8 g o ad s0]) (As := [.int a1]) (rest := []) X hG hl.1 (c_X8_isSheet g l  n a1 q1 hq1) (List.Perm.refl _) (List.Perm.refl _) lk_X8_isSheet ls_X8_isSheet ml_8_304 rfl rfl ⟨Nat.le_of_ble_eq_true rfl, Nat.le_of_ble_eq_true rfl⟩ rfl rfl (Nat.le_of_ble_eq_true rfl) ⟨Nat.zero_le _, Nat.zero_le _⟩ dX8_sheet_1 (fun H locs hG => ?_)
  refine lv_if_eq (tgt := 16) hx hb dX8_sheet_4 (by decide) (fun hc2 => ?_) (fun hc2 => ?_)
  · replace hf := ite_t hf hc2
    refine lv_bipush (v := (-2)) hx hb dX8_sheet_16 (by decide) ?_
    have hq9 := Option.some.inj hf
    subst hq9
    subst hQ
    exact r_iret X hG dX8_sheet_18
  · replace hf := ite_f hf hc2
    refine lv_iload_n hx hb dX8_sheet_7 rfl (lv_at hl 2 rfl) ?_
    refine lv_iconst (v := (-1)) hx hb dX8_sheet_8 (by decide) ?_
    refine lv_iconst (v := 2) hx hb dX8_sheet_9 (by decide) ?_
    obtain ⟨q3, hq3, hf⟩ := cl_inv hf
    refine r_callSi (bc := []) (br := [wX8 g o ad s0]) (bs' := [wX8 g o ad s0]) (As := [.int a2, .int (-1), .int 2]) (rest := []) X hG hl.1 (c_X8_in g l  n a2 (-1) 2 q3 hq3) (List.Perm.refl _) (List.Perm.refl _) lk_X8_in ls_X8_in ml_8_132 rfl rfl ⟨Nat.le_of_ble_eq_true rfl, Nat.le_of_ble_eq_true rfl⟩ rfl rfl (Nat.le_of_ble_eq_true rfl) ⟨Nat.zero_le _, Nat.zero_le _⟩ dX8_sheet_10 (fun H locs hG => ?_)
    refine lv_if_ne (tgt := 19) hx hb dX8_sheet_13 (by decide) (fun hc4 => ?_) (fun hc4 => ?_)
    · replace hf := ite_f hf hc4
      refine lv_iload_n hx hb dX8_sheet_19 rfl (lv_at hl 2 rfl) ?_
      refine lv_iconst (v := (-1)) hx hb dX8_sheet_20 (by decide) ?_
      refine lv_icmp_ne (tgt := 33) hx hb dX8_sheet_21 (by decide) (fun hc5 => ?_) (fun hc5 => ?_)
      · replace hf := ite_f hf hc5
        refine lv_iload_n hx hb dX8_sheet_33 rfl (lv_at hl 3 rfl) ?_
        refine lv_bipush (v := 40) hx hb dX8_sheet_34 (by decide) ?_
        refine lv_icmp_le (tgt := 42) hx hb dX8_sheet_36 (by decide) (fun hc6 => ?_) (fun hc6 => ?_)
        · replace hf := ite_t hf hc6
          refine lv_iload_n hx hb dX8_sheet_42 rfl (lv_at hl 3 rfl) ?_
          refine lv_if_ge (tgt := 49) hx hb dX8_sheet_43 (by decide) (fun hc7 => ?_) (fun hc7 => ?_)
          · replace hf := ite_t hf hc7
            refine lv_aload_n hx hb dX8_sheet_49 rfl (lv_at hl 0 rfl) ?_
            refine G_8_114 X hG 0 rfl dX8_sheet_50 ?_
            refine lv_iload_n hx hb dX8_sheet_53 rfl (lv_at hl 1 rfl) ?_
            refine lv_iload_n hx hb dX8_sheet_54 rfl (lv_at hl 2 rfl) ?_
            refine r_iast X hG 0 31 rfl rfl hf (fun t => [wX8 g o ad t]) rfl dX8_sheet_55 (fun z8 H locs hf hG => ?_)
            refine lv_aload_n hx hb dX8_sheet_56 rfl (lv_at hl 0 rfl) ?_
            refine G_8_117 X hG 0 rfl dX8_sheet_57 ?_
            refine lv_iload_n hx hb dX8_sheet_60 rfl (lv_at hl 1 rfl) ?_
            refine lv_iload_n hx hb dX8_sheet_61 rfl (lv_at hl 3 rfl) ?_
            refine r_iast X hG 0 32 rfl rfl hf (fun t => [wX8 g o ad t]) rfl dX8_sheet_62 (fun z9 H locs hf hG => ?_)
            refine lv_iconst (v := 0) hx hb dX8_sheet_63 (by decide) ?_
            refine lv_istore (lv' := [(4, .int 0), (0, .ref o), (1, .int a1), (2, .int a2), (3, .int a3)]) hx hb dX8_sheet_64 hl (by decide) rfl (fun ls hl => ?_)
            refine lp_go (P := fun (t10 : Int32 × MS) => ∀ (H : Heap) (locs : List Loc) (ls : Array Slot), GM g A s.heap H locs [wX8 g o ad t10.2] → lv_has ls 5 [(0, .ref o), (1, .int a1), (3, .int a3), (4, .int t10.1)] → W p l e rmX8_sheet s m args below meth c H locs 0 0 Q (F0 m 66 ls [])) hf (fun K11 hK11 t10 hf H locs ls hG hl => ?_) _ _ _ hG (lv_sub hl [1, 2, 4, 0] rfl)
            refine lv_iload hx hb dX8_sheet_66 (lv_at hl 3 rfl) ?_
            refine lv_iload_n hx hb dX8_sheet_68 rfl (lv_at hl 2 rfl) ?_
            refine lv_icmp_ge (tgt := 91) hx hb dX8_sheet_69 (by decide) (fun hc12 => ?_) (fun hc12 => ?_)
            · replace hf := ite_t hf hc12
              refine lv_iconst (v := 1) hx hb dX8_sheet_91 (by decide) ?_
              have hq9 := Option.some.inj hf
              subst hq9
              subst hQ
              exact r_iret X hG dX8_sheet_92
            · replace hf := ite_f hf hc12
              refine lv_aload_n hx hb dX8_sheet_72 rfl (lv_at hl 0 rfl) ?_
              refine G_8_120 X hG 0 rfl dX8_sheet_73 ?_
              refine lv_bipush (v := 40) hx hb dX8_sheet_76 (by decide) ?_
              refine lv_iload_n hx hb dX8_sheet_78 rfl (lv_at hl 1 rfl) ?_
              refine lv_imul hx hb dX8_sheet_79 ?_
              refine lv_iload hx hb dX8_sheet_80 (lv_at hl 3 rfl) ?_
              refine lv_iadd hx hb dX8_sheet_82 ?_
              refine lv_iconst (v := 0) hx hb dX8_sheet_83 (by decide) ?_
              refine r_iast X hG 0 33 rfl rfl hf (fun t => [wX8 g o ad t]) rfl dX8_sheet_84 (fun z13 H locs hf hG => ?_)
              refine lv_iinc (v := (t10.1 + 1)) (lv' := [(4, .int (t10.1 + 1)), (0, .ref o), (1, .int a1), (3, .int a3)]) hx hb dX8_sheet_85 hl (k := 3) rfl rfl (by decide) rfl (fun ls hl => ?_)
              refine lv_goto (tgt := 66) hx hb dX8_sheet_88 (by decide) ?_
              exact hK11 _ hf _ _ _ hG (lv_sub hl [1, 2, 3, 0] rfl)
          · replace hf := ite_f hf hc7
            refine lv_bipush (v := (-14)) hx hb dX8_sheet_46 (by decide) ?_
            have hq9 := Option.some.inj hf
            subst hq9
            subst hQ
            exact r_iret X hG dX8_sheet_48
        · replace hf := ite_f hf hc6
          refine lv_bipush (v := (-2)) hx hb dX8_sheet_39 (by decide) ?_
          have hq9 := Option.some.inj hf
          subst hq9
          subst hQ
          exact r_iret X hG dX8_sheet_41
      · replace hf := ite_t hf hc5
        refine lv_aload_n hx hb dX8_sheet_24 rfl (lv_at hl 0 rfl) ?_
        refine G_8_114 X hG 0 rfl dX8_sheet_25 ?_
        refine lv_iload_n hx hb dX8_sheet_28 rfl (lv_at hl 1 rfl) ?_
        refine lv_iconst (v := (-1)) hx hb dX8_sheet_29 (by decide) ?_
        refine r_iast X hG 0 31 rfl rfl hf (fun t => [wX8 g o ad t]) rfl dX8_sheet_30 (fun z14 H locs hf hG => ?_)
        refine lv_iconst (v := 1) hx hb dX8_sheet_31 (by decide) ?_
        have hq9 := Option.some.inj hf
        subst hq9
        subst hQ
        exact r_iret X hG dX8_sheet_32
    · replace hf := ite_t hf hc4
      refine lv_bipush (v := (-2)) hx hb dX8_sheet_16 (by decide) ?_
      have hq9 := Option.some.inj hf
      subst hq9
      subst hQ
      exact r_iret X hG dX8_sheet_18
def rmX8_cell : Room := { frames := 2, cells := 0, slots := 0, locals := 42 }
set_option maxHeartbeats 4000000 in
set_option maxRecDepth 100000 in
theorem c_X8_cell (g : GT) (l : Launch) (o : Nat) (ad : Nat → Nat) (n : Nat) (a1 : Int32) (a2 : Int32) (a3 : Int32) (s0 : MS) (q : Int32 × MS) (hf : f_X8_cell n a1 a2 a3 s0 = some q) : CI g l yX8_cell cX8_cell 4 (some .int) rmX8_cell [.ref o, .int a1, .int a2, .int a3] [wX8 g o ad s0] q.1 [wX8 g o ad q.2] := by
  refine CI_intro RX8 rfl (by decide +kernel) (Nat.le_of_ble_eq_true rfl) ?_
  intro p e s m args below meth c A ls Q hQ X hl hG
  have hl : lv_has ls 4 [(0, .ref o), (1, .int a1), (2, .int a2), (3, .int a3)] := hl
  have hx := X.1
  have hb := X.2.1
  have hown := X.2.2.2.1
  unfold f_X8_cell at hf
  refine lv_iload_n hx hb dX8_cell_0 rfl (lv_at hl 1 rfl) ?_
  obtain ⟨q1, hq1, hf⟩ := cl_inv hf
  refine r_callSi (bc := []) (br := [wX8 g o ad s0]) (bs' := [wX8 g o ad s0]) (As := [.int a1]) (rest := []) X hG hl.1 (c_X8_isSheet g l  n a1 q1 hq1) (List.Perm.refl _) (List.Perm.refl _) lk_X8_isSheet ls_X8_isSheet ml_8_304 rfl rfl ⟨Nat.le_of_ble_eq_true rfl, Nat.le_of_ble_eq_true rfl⟩ rfl rfl (Nat.le_of_ble_eq_true rfl) ⟨Nat.zero_le _, Nat.zero_le _⟩ dX8_cell_1 (fun H locs hG => ?_)
  refine lv_if_ne (tgt := 10) hx hb dX8_cell_4 (by decide) (fun hc2 => ?_) (fun hc2 => ?_)
  · replace hf := ite_f hf hc2
    refine lv_aload_n hx hb dX8_cell_10 rfl (lv_at hl 0 rfl) ?_
    refine G_8_114 X hG 0 rfl dX8_cell_11 ?_
    refine lv_iload_n hx hb dX8_cell_14 rfl (lv_at hl 1 rfl) ?_
    refine r_iald X hG 0 31 rfl rfl hf dX8_cell_15 (fun x3 hf => ?_)
    refine lv_if_ge (tgt := 22) hx hb dX8_cell_16 (by decide) (fun hc4 => ?_) (fun hc4 => ?_)
    · replace hf := ite_t hf hc4
      refine lv_iload_n hx hb dX8_cell_22 rfl (lv_at hl 2 rfl) ?_
      refine lv_iconst (v := 0) hx hb dX8_cell_23 (by decide) ?_
      refine lv_aload_n hx hb dX8_cell_24 rfl (lv_at hl 0 rfl) ?_
      refine G_8_117 X hG 0 rfl dX8_cell_25 ?_
      refine lv_iload_n hx hb dX8_cell_28 rfl (lv_at hl 1 rfl) ?_
      refine r_iald X hG 0 32 rfl rfl hf dX8_cell_29 (fun x5 hf => ?_)
      refine lv_iconst (v := 1) hx hb dX8_cell_30 (by decide) ?_
      refine lv_isub hx hb dX8_cell_31 ?_
      obtain ⟨q6, hq6, hf⟩ := cl_inv hf
      refine r_callSi (bc := []) (br := [wX8 g o ad s0]) (bs' := [wX8 g o ad s0]) (As := [.int a2, .int 0, .int (x5 - 1)]) (rest := []) X hG hl.1 (c_X8_in g l  n a2 0 (x5 - 1) q6 hq6) (List.Perm.refl _) (List.Perm.refl _) lk_X8_in ls_X8_in ml_8_132 rfl rfl ⟨Nat.le_of_ble_eq_true rfl, Nat.le_of_ble_eq_true rfl⟩ rfl rfl (Nat.le_of_ble_eq_true rfl) ⟨Nat.zero_le _, Nat.zero_le _⟩ dX8_cell_32 (fun H locs hG => ?_)
      refine lv_if_ne (tgt := 41) hx hb dX8_cell_35 (by decide) (fun hc7 => ?_) (fun hc7 => ?_)
      · replace hf := ite_f hf hc7
        refine lv_aload_n hx hb dX8_cell_41 rfl (lv_at hl 0 rfl) ?_
        refine G_8_120 X hG 0 rfl dX8_cell_42 ?_
        refine lv_bipush (v := 40) hx hb dX8_cell_45 (by decide) ?_
        refine lv_iload_n hx hb dX8_cell_47 rfl (lv_at hl 1 rfl) ?_
        refine lv_imul hx hb dX8_cell_48 ?_
        refine lv_iload_n hx hb dX8_cell_49 rfl (lv_at hl 2 rfl) ?_
        refine lv_iadd hx hb dX8_cell_50 ?_
        refine lv_aload_n hx hb dX8_cell_51 rfl (lv_at hl 0 rfl) ?_
        refine G_8_114 X hG 0 rfl dX8_cell_52 ?_
        refine lv_iload_n hx hb dX8_cell_55 rfl (lv_at hl 1 rfl) ?_
        refine r_iald X hG 0 31 rfl rfl hf dX8_cell_56 (fun x8 hf => ?_)
        refine jn_use (P := fun (t9 : Int32) => ∀ (H : Heap) (locs : List Loc) (ls : Array Slot), GM g A s.heap H locs [wX8 g o ad s0] → lv_has ls 4 [] → W p l e rmX8_cell s m args below meth c H locs 0 0 Q (F0 m 81 ls [.int t9, .int ((40 * a1) + a2), .ref (ad 59)])) hf (fun t9 hf H locs ls hG hl => ?_) (fun K10 hK10 hf => ?_)
        · refine r_iast X hG 0 33 rfl rfl hf (fun t => [wX8 g o ad t]) rfl dX8_cell_81 (fun z11 H locs hf hG => ?_)
          refine lv_iconst (v := 1) hx hb dX8_cell_82 (by decide) ?_
          have hq9 := Option.some.inj hf
          subst hq9
          subst hQ
          exact r_iret X hG dX8_cell_83
        refine lv_if_ne (tgt := 65) hx hb dX8_cell_57 (by decide) (fun hc12 => ?_) (fun hc12 => ?_)
        · replace hf := ite_f hf hc12
          refine lv_aload_n hx hb dX8_cell_65 rfl (lv_at hl 0 rfl) ?_
          refine G_8_114 X hG 0 rfl dX8_cell_66 ?_
          refine lv_iload_n hx hb dX8_cell_69 rfl (lv_at hl 1 rfl) ?_
          refine r_iald X hG 0 31 rfl rfl hf dX8_cell_70 (fun x13 hf => ?_)
          refine lv_iconst (v := 1) hx hb dX8_cell_71 (by decide) ?_
          refine lv_icmp_ne (tgt := 80) hx hb dX8_cell_72 (by decide) (fun hc14 => ?_) (fun hc14 => ?_)
          · replace hf := ite_f hf hc14
            refine lv_iload_n hx hb dX8_cell_80 rfl (lv_at hl 3 rfl) ?_
            exact hK10 _ hf _ _ _ hG (lv_sub hl [] rfl)
          · replace hf := ite_t hf hc14
            refine lv_iload_n hx hb dX8_cell_75 rfl (lv_at hl 3 rfl) ?_
            refine lv_i2s hx hb dX8_cell_76 rfl ?_
            refine lv_goto (tgt := 81) hx hb dX8_cell_77 (by decide) ?_
            exact hK10 _ hf _ _ _ hG (lv_sub hl [] rfl)
        · replace hf := ite_t hf hc12
          refine lv_iload_n hx hb dX8_cell_60 rfl (lv_at hl 3 rfl) ?_
          refine lv_i2b hx hb dX8_cell_61 rfl ?_
          refine lv_goto (tgt := 81) hx hb dX8_cell_62 (by decide) ?_
          exact hK10 _ hf _ _ _ hG (lv_sub hl [] rfl)
      · replace hf := ite_t hf hc7
        refine lv_bipush (v := (-12)) hx hb dX8_cell_38 (by decide) ?_
        have hq9 := Option.some.inj hf
        subst hq9
        subst hQ
        exact r_iret X hG dX8_cell_40
    · replace hf := ite_f hf hc4
      refine lv_bipush (v := (-11)) hx hb dX8_cell_19 (by decide) ?_
      have hq9 := Option.some.inj hf
      subst hq9
      subst hQ
      exact r_iret X hG dX8_cell_21
  · replace hf := ite_t hf hc2
    refine lv_bipush (v := (-2)) hx hb dX8_cell_7 (by decide) ?_
    have hq9 := Option.some.inj hf
    subst hq9
    subst hQ
    exact r_iret X hG dX8_cell_9
def rmX8_copy : Room := { frames := 2, cells := 0, slots := 0, locals := 42 }
set_option maxHeartbeats 4000000 in
set_option maxRecDepth 100000 in
theorem c_X8_copy (g : GT) (l : Launch) (o : Nat) (ad : Nat → Nat) (n : Nat) (a1 : Int32) (a2 : Int32) (a3 : Int32) (a4 : Int32) (a5 : Int32) (s0 : MS) (q : Int32 × MS) (hf : f_X8_copy n a1 a2 a3 a4 a5 s0 = some q) : CI g l yX8_copy cX8_copy 7 (some .int) rmX8_copy [.ref o, .int a1, .int a2, .int a3, .int a4, .int a5] [wX8 g o ad s0] q.1 [wX8 g o ad q.2] := by
  refine CI_intro RX8 rfl (by decide +kernel) (Nat.le_of_ble_eq_true rfl) ?_
  intro p e s m args below meth c A ls Q hQ X hl hG
  have hl : lv_has ls 7 [(0, .ref o), (1, .int a1), (2, .int a2), (3, .int a3), (4, .int a4), (5, .int a5)] := hl
  have hx := X.1
  have hb := X.2.1
  have hown := X.2.2.2.1
  unfold f_X8_copy at hf
  refine lv_iload_n hx hb dX8_copy_0 rfl (lv_at hl 1 rfl) ?_
  obtain ⟨q1, hq1, hf⟩ := cl_inv hf
  refine r_callSi (bc := []) (br := [wX8 g o ad s0]) (bs' := [wX8 g o ad s0]) (As := [.int a1]) (rest := []) X hG hl.1 (c_X8_isSheet g l  n a1 q1 hq1) (List.Perm.refl _) (List.Perm.refl _) lk_X8_isSheet ls_X8_isSheet ml_8_304 rfl rfl ⟨Nat.le_of_ble_eq_true rfl, Nat.le_of_ble_eq_true rfl⟩ rfl rfl (Nat.le_of_ble_eq_true rfl) ⟨Nat.zero_le _, Nat.zero_le _⟩ dX8_copy_1 (fun H locs hG => ?_)
  refine lv_if_eq (tgt := 14) hx hb dX8_copy_4 (by decide) (fun hc2 => ?_) (fun hc2 => ?_)
  · replace hf := ite_t hf hc2
    refine lv_bipush (v := (-2)) hx hb dX8_copy_14 (by decide) ?_
    have hq9 := Option.some.inj hf
    subst hq9
    subst hQ
    exact r_iret X hG dX8_copy_16
  · replace hf := ite_f hf hc2
    refine lv_iload_n hx hb dX8_copy_7 rfl (lv_at hl 3 rfl) ?_
    obtain ⟨q3, hq3, hf⟩ := cl_inv hf
    refine r_callSi (bc := []) (br := [wX8 g o ad s0]) (bs' := [wX8 g o ad s0]) (As := [.int a3]) (rest := []) X hG hl.1 (c_X8_isSheet g l  n a3 q3 hq3) (List.Perm.refl _) (List.Perm.refl _) lk_X8_isSheet ls_X8_isSheet ml_8_304 rfl rfl ⟨Nat.le_of_ble_eq_true rfl, Nat.le_of_ble_eq_true rfl⟩ rfl rfl (Nat.le_of_ble_eq_true rfl) ⟨Nat.zero_le _, Nat.zero_le _⟩ dX8_copy_8 (fun H locs hG => ?_)
    refine lv_if_ne (tgt := 17) hx hb dX8_copy_11 (by decide) (fun hc4 => ?_) (fun hc4 => ?_)
    · replace hf := ite_f hf hc4
      refine lv_aload_n hx hb dX8_copy_17 rfl (lv_at hl 0 rfl) ?_
      refine G_8_114 X hG 0 rfl dX8_copy_18 ?_
      refine lv_iload_n hx hb dX8_copy_21 rfl (lv_at hl 1 rfl) ?_
      refine r_iald X hG 0 31 rfl rfl hf dX8_copy_22 (fun x5 hf => ?_)
      refine lv_if_lt (tgt := 35) hx hb dX8_copy_23 (by decide) (fun hc6 => ?_) (fun hc6 => ?_)
      · replace hf := ite_t hf hc6
        refine lv_bipush (v := (-11)) hx hb dX8_copy_35 (by decide) ?_
        have hq9 := Option.some.inj hf
        subst hq9
        subst hQ
        exact r_iret X hG dX8_copy_37
      · replace hf := ite_f hf hc6
        refine lv_aload_n hx hb dX8_copy_26 rfl (lv_at hl 0 rfl) ?_
        refine G_8_114 X hG 0 rfl dX8_copy_27 ?_
        refine lv_iload_n hx hb dX8_copy_30 rfl (lv_at hl 3 rfl) ?_
        refine r_iald X hG 0 31 rfl rfl hf dX8_copy_31 (fun x7 hf => ?_)
        refine lv_if_ge (tgt := 38) hx hb dX8_copy_32 (by decide) (fun hc8 => ?_) (fun hc8 => ?_)
        · replace hf := ite_t hf hc8
          refine lv_aload_n hx hb dX8_copy_38 rfl (lv_at hl 0 rfl) ?_
          refine G_8_114 X hG 0 rfl dX8_copy_39 ?_
          refine lv_iload_n hx hb dX8_copy_42 rfl (lv_at hl 1 rfl) ?_
          refine r_iald X hG 0 31 rfl rfl hf dX8_copy_43 (fun x9 hf => ?_)
          refine lv_aload_n hx hb dX8_copy_44 rfl (lv_at hl 0 rfl) ?_
          refine G_8_114 X hG 0 rfl dX8_copy_45 ?_
          refine lv_iload_n hx hb dX8_copy_48 rfl (lv_at hl 3 rfl) ?_
          refine r_iald X hG 0 31 rfl rfl hf dX8_copy_49 (fun x10 hf => ?_)
          refine lv_icmp_eq (tgt := 56) hx hb dX8_copy_50 (by decide) (fun hc11 => ?_) (fun hc11 => ?_)
          · replace hf := ite_t hf hc11
            refine lv_iload hx hb dX8_copy_56 (lv_at hl 5 rfl) ?_
            refine lv_if_lt (tgt := 105) hx hb dX8_copy_58 (by decide) (fun hc12 => ?_) (fun hc12 => ?_)
            · replace hf := ite_t hf hc12
              refine lv_bipush (v := (-12)) hx hb dX8_copy_105 (by decide) ?_
              have hq9 := Option.some.inj hf
              subst hq9
              subst hQ
              exact r_iret X hG dX8_copy_107
            · replace hf := ite_f hf hc12
              refine lv_iload_n hx hb dX8_copy_61 rfl (lv_at hl 2 rfl) ?_
              refine lv_if_lt (tgt := 105) hx hb dX8_copy_62 (by decide) (fun hc13 => ?_) (fun hc13 => ?_)
              · replace hf := ite_t hf hc13
                refine lv_bipush (v := (-12)) hx hb dX8_copy_105 (by decide) ?_
                have hq9 := Option.some.inj hf
                subst hq9
                subst hQ
                exact r_iret X hG dX8_copy_107
              · replace hf := ite_f hf hc13
                refine lv_iload hx hb dX8_copy_65 (lv_at hl 4 rfl) ?_
                refine lv_if_lt (tgt := 105) hx hb dX8_copy_67 (by decide) (fun hc14 => ?_) (fun hc14 => ?_)
                · replace hf := ite_t hf hc14
                  refine lv_bipush (v := (-12)) hx hb dX8_copy_105 (by decide) ?_
                  have hq9 := Option.some.inj hf
                  subst hq9
                  subst hQ
                  exact r_iret X hG dX8_copy_107
                · replace hf := ite_f hf hc14
                  refine lv_iload_n hx hb dX8_copy_70 rfl (lv_at hl 2 rfl) ?_
                  refine lv_i2l hx hb dX8_copy_71 rfl ?_
                  refine lv_iload hx hb dX8_copy_72 (lv_at hl 5 rfl) ?_
                  refine lv_i2l hx hb dX8_copy_74 rfl ?_
                  refine lv_ladd hx hb dX8_copy_75 ?_
                  refine lv_aload_n hx hb dX8_copy_76 rfl (lv_at hl 0 rfl) ?_
                  refine G_8_117 X hG 0 rfl dX8_copy_77 ?_
                  refine lv_iload_n hx hb dX8_copy_80 rfl (lv_at hl 1 rfl) ?_
                  refine r_iald X hG 0 32 rfl rfl hf dX8_copy_81 (fun x15 hf => ?_)
                  refine lv_i2l hx hb dX8_copy_82 rfl ?_
                  refine W.lcmp hx hb dX8_copy_83 ?_
                  refine lv_if_gt (tgt := 105) hx hb dX8_copy_84 (by decide) (fun hc16 => ?_) (fun hc16 => ?_)
                  · replace hf := ite_t hf hc16
                    refine lv_bipush (v := (-12)) hx hb dX8_copy_105 (by decide) ?_
                    have hq9 := Option.some.inj hf
                    subst hq9
                    subst hQ
                    exact r_iret X hG dX8_copy_107
                  · replace hf := ite_f hf hc16
                    refine lv_iload hx hb dX8_copy_87 (lv_at hl 4 rfl) ?_
                    refine lv_i2l hx hb dX8_copy_89 rfl ?_
                    refine lv_iload hx hb dX8_copy_90 (lv_at hl 5 rfl) ?_
                    refine lv_i2l hx hb dX8_copy_92 rfl ?_
                    refine lv_ladd hx hb dX8_copy_93 ?_
                    refine lv_aload_n hx hb dX8_copy_94 rfl (lv_at hl 0 rfl) ?_
                    refine G_8_117 X hG 0 rfl dX8_copy_95 ?_
                    refine lv_iload_n hx hb dX8_copy_98 rfl (lv_at hl 3 rfl) ?_
                    refine r_iald X hG 0 32 rfl rfl hf dX8_copy_99 (fun x17 hf => ?_)
                    refine lv_i2l hx hb dX8_copy_100 rfl ?_
                    refine W.lcmp hx hb dX8_copy_101 ?_
                    refine lv_if_le (tgt := 108) hx hb dX8_copy_102 (by decide) (fun hc18 => ?_) (fun hc18 => ?_)
                    · replace hf := ite_t hf hc18
                      refine lv_iconst (v := 0) hx hb dX8_copy_108 (by decide) ?_
                      refine lv_istore (lv' := [(6, .int 0), (0, .ref o), (1, .int a1), (2, .int a2), (3, .int a3), (4, .int a4), (5, .int a5)]) hx hb dX8_copy_109 hl (by decide) rfl (fun ls hl => ?_)
                      refine lp_go (P := fun (t19 : Int32 × MS) => ∀ (H : Heap) (locs : List Loc) (ls : Array Slot), GM g A s.heap H locs [wX8 g o ad t19.2] → lv_has ls 7 [(0, .ref o), (1, .int a1), (2, .int a2), (3, .int a3), (4, .int a4), (5, .int a5), (6, .int t19.1)] → W p l e rmX8_copy s m args below meth c H locs 0 0 Q (F0 m 111 ls [])) hf (fun K20 hK20 t19 hf H locs ls hG hl => ?_) _ _ _ hG (lv_sub hl [1, 2, 3, 4, 5, 6, 0] rfl)
                      refine lv_iload hx hb dX8_copy_111 (lv_at hl 6 rfl) ?_
                      refine lv_iload hx hb dX8_copy_113 (lv_at hl 5 rfl) ?_
                      refine lv_icmp_ge (tgt := 145) hx hb dX8_copy_115 (by decide) (fun hc21 => ?_) (fun hc21 => ?_)
                      · replace hf := ite_t hf hc21
                        refine lv_iconst (v := 0) hx hb dX8_copy_145 (by decide) ?_
                        refine lv_istore (lv' := [(6, .int 0), (0, .ref o), (1, .int a1), (2, .int a2), (3, .int a3), (4, .int a4), (5, .int a5)]) hx hb dX8_copy_146 hl (by decide) rfl (fun ls hl => ?_)
                        refine lp_go (P := fun (t22 : Int32 × MS) => ∀ (H : Heap) (locs : List Loc) (ls : Array Slot), GM g A s.heap H locs [wX8 g o ad t22.2] → lv_has ls 7 [(0, .ref o), (3, .int a3), (4, .int a4), (5, .int a5), (6, .int t22.1)] → W p l e rmX8_copy s m args below meth c H locs 0 0 Q (F0 m 148 ls [])) hf (fun K23 hK23 t22 hf H locs ls hG hl => ?_) _ _ _ hG (lv_sub hl [1, 4, 5, 6, 0] rfl)
                        refine lv_iload hx hb dX8_copy_148 (lv_at hl 4 rfl) ?_
                        refine lv_iload hx hb dX8_copy_150 (lv_at hl 3 rfl) ?_
                        refine lv_icmp_ge (tgt := 183) hx hb dX8_copy_152 (by decide) (fun hc24 => ?_) (fun hc24 => ?_)
                        · replace hf := ite_t hf hc24
                          refine lv_iload hx hb dX8_copy_183 (lv_at hl 3 rfl) ?_
                          have hq9 := Option.some.inj hf
                          subst hq9
                          subst hQ
                          exact r_iret X hG dX8_copy_185
                        · replace hf := ite_f hf hc24
                          refine lv_aload_n hx hb dX8_copy_155 rfl (lv_at hl 0 rfl) ?_
                          refine G_8_120 X hG 0 rfl dX8_copy_156 ?_
                          refine lv_bipush (v := 40) hx hb dX8_copy_159 (by decide) ?_
                          refine lv_iload_n hx hb dX8_copy_161 rfl (lv_at hl 1 rfl) ?_
                          refine lv_imul hx hb dX8_copy_162 ?_
                          refine lv_iload hx hb dX8_copy_163 (lv_at hl 2 rfl) ?_
                          refine lv_iadd hx hb dX8_copy_165 ?_
                          refine lv_iload hx hb dX8_copy_166 (lv_at hl 4 rfl) ?_
                          refine lv_iadd hx hb dX8_copy_168 ?_
                          refine lv_aload_n hx hb dX8_copy_169 rfl (lv_at hl 0 rfl) ?_
                          refine G_8_123 X hG 0 rfl dX8_copy_170 ?_
                          refine lv_iload hx hb dX8_copy_173 (lv_at hl 4 rfl) ?_
                          refine r_iald X hG 0 34 rfl rfl hf dX8_copy_175 (fun x25 hf => ?_)
                          refine r_iast X hG 0 33 rfl rfl hf (fun t => [wX8 g o ad t]) rfl dX8_copy_176 (fun z26 H locs hf hG => ?_)
                          refine lv_iinc (v := (t22.1 + 1)) (lv' := [(6, .int (t22.1 + 1)), (0, .ref o), (3, .int a3), (4, .int a4), (5, .int a5)]) hx hb dX8_copy_177 hl (k := 4) rfl rfl (by decide) rfl (fun ls hl => ?_)
                          refine lv_goto (tgt := 148) hx hb dX8_copy_180 (by decide) ?_
                          exact hK23 _ hf _ _ _ hG (lv_sub hl [1, 2, 3, 4, 0] rfl)
                      · replace hf := ite_f hf hc21
                        refine lv_aload_n hx hb dX8_copy_118 rfl (lv_at hl 0 rfl) ?_
                        refine G_8_123 X hG 0 rfl dX8_copy_119 ?_
                        refine lv_iload hx hb dX8_copy_122 (lv_at hl 6 rfl) ?_
                        refine lv_aload_n hx hb dX8_copy_124 rfl (lv_at hl 0 rfl) ?_
                        refine G_8_120 X hG 0 rfl dX8_copy_125 ?_
                        refine lv_bipush (v := 40) hx hb dX8_copy_128 (by decide) ?_
                        refine lv_iload_n hx hb dX8_copy_130 rfl (lv_at hl 1 rfl) ?_
                        refine lv_imul hx hb dX8_copy_131 ?_
                        refine lv_iload_n hx hb dX8_copy_132 rfl (lv_at hl 2 rfl) ?_
                        refine lv_iadd hx hb dX8_copy_133 ?_
                        refine lv_iload hx hb dX8_copy_134 (lv_at hl 6 rfl) ?_
                        refine lv_iadd hx hb dX8_copy_136 ?_
                        refine r_iald X hG 0 33 rfl rfl hf dX8_copy_137 (fun x27 hf => ?_)
                        refine r_iast X hG 0 34 rfl rfl hf (fun t => [wX8 g o ad t]) rfl dX8_copy_138 (fun z28 H locs hf hG => ?_)
                        refine lv_iinc (v := (t19.1 + 1)) (lv' := [(6, .int (t19.1 + 1)), (0, .ref o), (1, .int a1), (2, .int a2), (3, .int a3), (4, .int a4), (5, .int a5)]) hx hb dX8_copy_139 hl (k := 6) rfl rfl (by decide) rfl (fun ls hl => ?_)
                        refine lv_goto (tgt := 111) hx hb dX8_copy_142 (by decide) ?_
                        exact hK20 _ hf _ _ _ hG (lv_sub hl [1, 2, 3, 4, 5, 6, 0] rfl)
                    · replace hf := ite_f hf hc18
                      refine lv_bipush (v := (-12)) hx hb dX8_copy_105 (by decide) ?_
                      have hq9 := Option.some.inj hf
                      subst hq9
                      subst hQ
                      exact r_iret X hG dX8_copy_107
          · replace hf := ite_f hf hc11
            refine lv_bipush (v := (-13)) hx hb dX8_copy_53 (by decide) ?_
            have hq9 := Option.some.inj hf
            subst hq9
            subst hQ
            exact r_iret X hG dX8_copy_55
        · replace hf := ite_f hf hc8
          refine lv_bipush (v := (-11)) hx hb dX8_copy_35 (by decide) ?_
          have hq9 := Option.some.inj hf
          subst hq9
          subst hQ
          exact r_iret X hG dX8_copy_37
    · replace hf := ite_t hf hc4
      refine lv_bipush (v := (-2)) hx hb dX8_copy_14 (by decide) ?_
      have hq9 := Option.some.inj hf
      subst hq9
      subst hQ
      exact r_iret X hG dX8_copy_16
def rmX8_sorts : Room := { frames := 2, cells := 0, slots := 0, locals := 44 }
set_option maxHeartbeats 4000000 in
set_option maxRecDepth 100000 in
theorem c_X8_sorts (g : GT) (l : Launch) (o : Nat) (ad : Nat → Nat) (n : Nat) (a1 : Int32) (a2 : Int32) (a3 : Int32) (a4 : Int32) (s0 : MS) (q : Int32 × MS) (hf : f_X8_sorts n a1 a2 a3 a4 s0 = some q) : CI g l yX8_sorts cX8_sorts 10 (some .int) rmX8_sorts [.ref o, .int a1, .int a2, .int a3, .int a4] [wX8 g o ad s0] q.1 [wX8 g o ad q.2] := by
  refine CI_intro RX8 rfl (by decide +kernel) (Nat.le_of_ble_eq_true rfl) ?_
  intro p e s m args below meth c A ls Q hQ X hl hG
  have hl : lv_has ls 10 [(0, .ref o), (1, .int a1), (2, .int a2), (3, .int a3), (4, .int a4)] := hl
  have hx := X.1
  have hb := X.2.1
  have hown := X.2.2.2.1
  unfold f_X8_sorts at hf
  refine lv_iload_n hx hb dX8_sorts_0 rfl (lv_at hl 1 rfl) ?_
  obtain ⟨q1, hq1, hf⟩ := cl_inv hf
  refine r_callSi (bc := []) (br := [wX8 g o ad s0]) (bs' := [wX8 g o ad s0]) (As := [.int a1]) (rest := []) X hG hl.1 (c_X8_isSheet g l  n a1 q1 hq1) (List.Perm.refl _) (List.Perm.refl _) lk_X8_isSheet ls_X8_isSheet ml_8_304 rfl rfl ⟨Nat.le_of_ble_eq_true rfl, Nat.le_of_ble_eq_true rfl⟩ rfl rfl (Nat.le_of_ble_eq_true rfl) ⟨Nat.zero_le _, Nat.zero_le _⟩ dX8_sorts_1 (fun H locs hG => ?_)
  refine lv_if_eq (tgt := 27) hx hb dX8_sorts_4 (by decide) (fun hc2 => ?_) (fun hc2 => ?_)
  · replace hf := ite_t hf hc2
    refine lv_bipush (v := (-2)) hx hb dX8_sorts_27 (by decide) ?_
    have hq9 := Option.some.inj hf
    subst hq9
    subst hQ
    exact r_iret X hG dX8_sorts_29
  · replace hf := ite_f hf hc2
    refine lv_iload_n hx hb dX8_sorts_7 rfl (lv_at hl 2 rfl) ?_
    refine lv_iconst (v := 0) hx hb dX8_sorts_8 (by decide) ?_
    refine lv_iconst (v := 2) hx hb dX8_sorts_9 (by decide) ?_
    obtain ⟨q3, hq3, hf⟩ := cl_inv hf
    refine r_callSi (bc := []) (br := [wX8 g o ad s0]) (bs' := [wX8 g o ad s0]) (As := [.int a2, .int 0, .int 2]) (rest := []) X hG hl.1 (c_X8_in g l  n a2 0 2 q3 hq3) (List.Perm.refl _) (List.Perm.refl _) lk_X8_in ls_X8_in ml_8_132 rfl rfl ⟨Nat.le_of_ble_eq_true rfl, Nat.le_of_ble_eq_true rfl⟩ rfl rfl (Nat.le_of_ble_eq_true rfl) ⟨Nat.zero_le _, Nat.zero_le _⟩ dX8_sorts_10 (fun H locs hG => ?_)
    refine lv_if_eq (tgt := 27) hx hb dX8_sorts_13 (by decide) (fun hc4 => ?_) (fun hc4 => ?_)
    · replace hf := ite_t hf hc4
      refine lv_bipush (v := (-2)) hx hb dX8_sorts_27 (by decide) ?_
      have hq9 := Option.some.inj hf
      subst hq9
      subst hQ
      exact r_iret X hG dX8_sorts_29
    · replace hf := ite_f hf hc4
      refine lv_iload hx hb dX8_sorts_16 (lv_at hl 4 rfl) ?_
      refine lv_iconst (v := 0) hx hb dX8_sorts_18 (by decide) ?_
      refine lv_bipush (v := 8) hx hb dX8_sorts_19 (by decide) ?_
      obtain ⟨q5, hq5, hf⟩ := cl_inv hf
      refine r_callSi (bc := []) (br := [wX8 g o ad s0]) (bs' := [wX8 g o ad s0]) (As := [.int a4, .int 0, .int 8]) (rest := []) X hG hl.1 (c_X8_in g l  n a4 0 8 q5 hq5) (List.Perm.refl _) (List.Perm.refl _) lk_X8_in ls_X8_in ml_8_132 rfl rfl ⟨Nat.le_of_ble_eq_true rfl, Nat.le_of_ble_eq_true rfl⟩ rfl rfl (Nat.le_of_ble_eq_true rfl) ⟨Nat.zero_le _, Nat.zero_le _⟩ dX8_sorts_21 (fun H locs hG => ?_)
      refine lv_if_ne (tgt := 30) hx hb dX8_sorts_24 (by decide) (fun hc6 => ?_) (fun hc6 => ?_)
      · replace hf := ite_f hf hc6
        refine lv_aload_n hx hb dX8_sorts_30 rfl (lv_at hl 0 rfl) ?_
        refine G_8_114 X hG 0 rfl dX8_sorts_31 ?_
        refine lv_iload_n hx hb dX8_sorts_34 rfl (lv_at hl 1 rfl) ?_
        refine r_iald X hG 0 31 rfl rfl hf dX8_sorts_35 (fun x7 hf => ?_)
        refine jn_use (P := fun (t8 : Unit) => ∀ (H : Heap) (locs : List Loc) (ls : Array Slot), GM g A s.heap H locs [wX8 g o ad s0] → lv_has ls 10 [(0, .ref o), (1, .int a1), (3, .int a3), (4, .int a4)] → W p l e rmX8_sorts s m args below meth c H locs 0 0 Q (F0 m 52 ls [])) hf (fun t8 hf H locs ls hG hl => ?_) (fun K9 hK9 hf => ?_)
        · refine lv_aload_n hx hb dX8_sorts_52 rfl (lv_at hl 0 rfl) ?_
          refine G_8_114 X hG 0 rfl dX8_sorts_53 ?_
          refine lv_iload_n hx hb dX8_sorts_56 rfl (lv_at hl 1 rfl) ?_
          refine r_iald X hG 0 31 rfl rfl hf dX8_sorts_57 (fun x10 hf => ?_)
          refine lv_if_ge (tgt := 64) hx hb dX8_sorts_58 (by decide) (fun hc11 => ?_) (fun hc11 => ?_)
          · replace hf := ite_t hf hc11
            refine lv_iconst (v := 0) hx hb dX8_sorts_64 (by decide) ?_
            refine lv_istore (lv' := [(5, .int 0), (0, .ref o), (1, .int a1), (3, .int a3), (4, .int a4)]) hx hb dX8_sorts_65 hl (by decide) rfl (fun ls hl => ?_)
            refine lv_iconst (v := 0) hx hb dX8_sorts_67 (by decide) ?_
            refine lv_istore (lv' := [(6, .int 0), (5, .int 0), (0, .ref o), (1, .int a1), (3, .int a3), (4, .int a4)]) hx hb dX8_sorts_68 hl (by decide) rfl (fun ls hl => ?_)
            refine lp_go (P := fun (t12 : Int32 × Int32 × MS) => ∀ (H : Heap) (locs : List Loc) (ls : Array Slot), GM g A s.heap H locs [wX8 g o ad t12.2.2] → lv_has ls 10 [(0, .ref o), (1, .int a1), (3, .int a3), (4, .int a4), (5, .int t12.1), (6, .int t12.2.1)] → W p l e rmX8_sorts s m args below meth c H locs 0 0 Q (F0 m 70 ls [])) hf (fun K13 hK13 t12 hf H locs ls hG hl => ?_) _ _ _ hG (lv_sub hl [2, 3, 4, 5, 1, 0] rfl)
            refine lv_iload hx hb dX8_sorts_70 (lv_at hl 5 rfl) ?_
            refine lv_iload hx hb dX8_sorts_72 (lv_at hl 3 rfl) ?_
            refine lv_icmp_ge (tgt := 154) hx hb dX8_sorts_74 (by decide) (fun hc14 => ?_) (fun hc14 => ?_)
            · replace hf := ite_t hf hc14
              refine lv_iload hx hb dX8_sorts_154 (lv_at hl 4 rfl) ?_
              have hq9 := Option.some.inj hf
              subst hq9
              subst hQ
              exact r_iret X hG dX8_sorts_156
            · replace hf := ite_f hf hc14
              refine lv_iload_n hx hb dX8_sorts_77 rfl (lv_at hl 2 rfl) ?_
              refine lv_i2l hx hb dX8_sorts_78 rfl ?_
              refine lv_iconst (v := 2) hx hb dX8_sorts_79 (by decide) ?_
              refine lv_iload hx hb dX8_sorts_80 (lv_at hl 5 rfl) ?_
              refine lv_imul hx hb dX8_sorts_82 ?_
              refine lv_i2l hx hb dX8_sorts_83 rfl ?_
              refine lv_ladd hx hb dX8_sorts_84 ?_
              refine r_bnl hf (fun x15 hf => ?_)
              refine lv_lstore (lv' := [(7, .long x15), (0, .ref o), (1, .int a1), (3, .int a3), (4, .int a4), (5, .int t12.1), (6, .int t12.2.1)]) hx hb dX8_sorts_85 hl (by decide) rfl (fun ls hl => ?_)
              refine lv_lload hx hb dX8_sorts_87 (lv_at hl 0 rfl) ?_
              refine lv_lconst (v := 0) hx hb dX8_sorts_89 (by decide) ?_
              refine W.lcmp hx hb dX8_sorts_90 ?_
              refine lv_if_lt (tgt := 109) hx hb dX8_sorts_91 (by decide) (fun hc16 => ?_) (fun hc16 => ?_)
              · replace hf := ite_t hf hc16
                refine lv_bipush (v := (-12)) hx hb dX8_sorts_109 (by decide) ?_
                have hq9 := Option.some.inj hf
                subst hq9
                subst hQ
                exact r_iret X hG dX8_sorts_111
              · replace hf := ite_f hf hc16
                refine lv_lload hx hb dX8_sorts_94 (lv_at hl 0 rfl) ?_
                refine lv_lconst (v := 1) hx hb dX8_sorts_96 (by decide) ?_
                refine lv_ladd hx hb dX8_sorts_97 ?_
                refine lv_aload_n hx hb dX8_sorts_98 rfl (lv_at hl 1 rfl) ?_
                refine G_8_117 X hG 0 rfl dX8_sorts_99 ?_
                refine lv_iload_n hx hb dX8_sorts_102 rfl (lv_at hl 2 rfl) ?_
                refine r_iald X hG 0 32 rfl rfl hf dX8_sorts_103 (fun x17 hf => ?_)
                refine lv_i2l hx hb dX8_sorts_104 rfl ?_
                refine W.lcmp hx hb dX8_sorts_105 ?_
                refine lv_if_lt (tgt := 112) hx hb dX8_sorts_106 (by decide) (fun hc18 => ?_) (fun hc18 => ?_)
                · replace hf := ite_t hf hc18
                  refine lv_bipush (v := 40) hx hb dX8_sorts_112 (by decide) ?_
                  refine lv_iload_n hx hb dX8_sorts_114 rfl (lv_at hl 2 rfl) ?_
                  refine lv_imul hx hb dX8_sorts_115 ?_
                  refine lv_lload hx hb dX8_sorts_116 (lv_at hl 0 rfl) ?_
                  refine lv_l2i hx hb dX8_sorts_118 rfl ?_
                  refine lv_iadd hx hb dX8_sorts_119 ?_
                  refine r_bni hf (fun x19 hf => ?_)
                  refine lv_istore (lv' := [(9, .int x19), (7, .long x15), (0, .ref o), (1, .int a1), (3, .int a3), (4, .int a4), (5, .int t12.1), (6, .int t12.2.1)]) hx hb dX8_sorts_120 hl (by decide) rfl (fun ls hl => ?_)
                  refine lv_aload_n hx hb dX8_sorts_122 rfl (lv_at hl 2 rfl) ?_
                  refine lv_aload_n hx hb dX8_sorts_123 rfl (lv_at hl 2 rfl) ?_
                  refine G_8_120 X hG 0 rfl dX8_sorts_124 ?_
                  refine lv_iload hx hb dX8_sorts_127 (lv_at hl 0 rfl) ?_
                  refine r_iald X hG 0 33 rfl rfl hf dX8_sorts_129 (fun x20 hf => ?_)
                  refine lv_aload_n hx hb dX8_sorts_130 rfl (lv_at hl 2 rfl) ?_
                  refine G_8_120 X hG 0 rfl dX8_sorts_131 ?_
                  refine lv_iload hx hb dX8_sorts_134 (lv_at hl 0 rfl) ?_
                  refine lv_iconst (v := 1) hx hb dX8_sorts_136 (by decide) ?_
                  refine lv_iadd hx hb dX8_sorts_137 ?_
                  refine r_iald X hG 0 33 rfl rfl hf dX8_sorts_138 (fun x21 hf => ?_)
                  obtain ⟨q22, hq22, hf⟩ := cl_inv hf
                  refine r_callVi (bc := [wX8 g o ad t12.2.2]) (br := []) (bs' := [wX8 g o ad q22.2]) (As := [.int x20, .int x21]) (rest := []) X hG hl.1 (c_X8_people g l o ad n x20 x21 t12.2.2 q22 hq22) (List.Perm.refl _) (List.Perm.refl _) lk_X8_people lv_X8_people ml_8_329 (j := 0) (k := 0) rfl rfl rfl rfl rfl ⟨Nat.le_of_ble_eq_true rfl, Nat.le_of_ble_eq_true rfl⟩ rfl rfl (Nat.le_of_ble_eq_true rfl) ⟨Nat.zero_le _, Nat.zero_le _⟩ dX8_sorts_139 (fun H locs hG => ?_)
                  refine jn_use (P := fun (t23 : Int32) => ∀ (H : Heap) (locs : List Loc) (ls : Array Slot), GM g A s.heap H locs [wX8 g o ad q22.2] → lv_has ls 10 [(0, .ref o), (1, .int a1), (3, .int a3), (4, .int a4), (5, .int t23), (6, .int t12.2.1)] → W p l e rmX8_sorts s m args below meth c H locs 0 0 Q (F0 m 148 ls [])) hf (fun t23 hf H locs ls hG hl => ?_) (fun K24 hK24 hf => ?_)
                  · refine lv_iinc (v := (t12.2.1 + 1)) (lv' := [(6, .int (t12.2.1 + 1)), (0, .ref o), (1, .int a1), (3, .int a3), (4, .int a4), (5, .int t23)]) hx hb dX8_sorts_148 hl (k := 5) rfl rfl (by decide) rfl (fun ls hl => ?_)
                    refine lv_goto (tgt := 70) hx hb dX8_sorts_151 (by decide) ?_
                    exact hK13 _ hf _ _ _ hG (lv_sub hl [1, 2, 3, 4, 5, 0] rfl)
                  refine lv_if_lt (tgt := 148) hx hb dX8_sorts_142 (by decide) (fun hc25 => ?_) (fun hc25 => ?_)
                  · replace hf := ite_t hf hc25
                    exact hK24 _ hf _ _ _ hG (lv_sub hl [2, 3, 4, 5, 6, 7] rfl)
                  · replace hf := ite_f hf hc25
                    refine lv_iinc (v := (t12.1 + 1)) (lv' := [(5, .int (t12.1 + 1)), (9, .int x19), (7, .long x15), (0, .ref o), (1, .int a1), (3, .int a3), (4, .int a4), (6, .int t12.2.1)]) hx hb dX8_sorts_145 hl (k := 6) rfl rfl (by decide) rfl (fun ls hl => ?_)
                    exact hK24 _ hf _ _ _ hG (lv_sub hl [3, 4, 5, 6, 0, 7] rfl)
                · replace hf := ite_f hf hc18
                  refine lv_bipush (v := (-12)) hx hb dX8_sorts_109 (by decide) ?_
                  have hq9 := Option.some.inj hf
                  subst hq9
                  subst hQ
                  exact r_iret X hG dX8_sorts_111
          · replace hf := ite_f hf hc11
            refine lv_bipush (v := (-11)) hx hb dX8_sorts_61 (by decide) ?_
            have hq9 := Option.some.inj hf
            subst hq9
            subst hQ
            exact r_iret X hG dX8_sorts_63
        refine lv_if_lt (tgt := 52) hx hb dX8_sorts_36 (by decide) (fun hc26 => ?_) (fun hc26 => ?_)
        · replace hf := ite_t hf hc26
          exact hK9 _ hf _ _ _ hG (lv_sub hl [0, 1, 3, 4] rfl)
        · replace hf := ite_f hf hc26
          refine lv_aload_n hx hb dX8_sorts_39 rfl (lv_at hl 0 rfl) ?_
          refine G_8_114 X hG 0 rfl dX8_sorts_40 ?_
          refine lv_iload_n hx hb dX8_sorts_43 rfl (lv_at hl 1 rfl) ?_
          refine r_iald X hG 0 31 rfl rfl hf dX8_sorts_44 (fun x27 hf => ?_)
          refine lv_iload_n hx hb dX8_sorts_45 rfl (lv_at hl 2 rfl) ?_
          refine lv_icmp_eq (tgt := 52) hx hb dX8_sorts_46 (by decide) (fun hc28 => ?_) (fun hc28 => ?_)
          · replace hf := ite_t hf hc28
            exact hK9 _ hf _ _ _ hG (lv_sub hl [0, 1, 3, 4] rfl)
          · replace hf := ite_f hf hc28
            refine lv_bipush (v := (-13)) hx hb dX8_sorts_49 (by decide) ?_
            have hq9 := Option.some.inj hf
            subst hq9
            subst hQ
            exact r_iret X hG dX8_sorts_51
      · replace hf := ite_t hf hc6
        refine lv_bipush (v := (-2)) hx hb dX8_sorts_27 (by decide) ?_
        have hq9 := Option.some.inj hf
        subst hq9
        subst hQ
        exact r_iret X hG dX8_sorts_29
def rmX8_isUnder : Room := { frames := 0, cells := 0, slots := 0, locals := 0 }
set_option maxHeartbeats 4000000 in
set_option maxRecDepth 100000 in
theorem c_X8_isUnder (g : GT) (l : Launch) (n : Nat) (a1 : Int32) (a2 : Int32) (q : Int32) (hf : f_X8_isUnder n a1 a2 = some q) : CI g l yX8_isUnder cX8_isUnder 2 (some .boolean) rmX8_isUnder [.int a1, .int a2] [] q [] := by
  refine CI_intro RX8 rfl (by decide +kernel) (Nat.le_of_ble_eq_true rfl) ?_
  intro p e s m args below meth c A ls Q hQ X hl hG
  have hl : lv_has ls 2 [(0, .int a1), (1, .int a2)] := hl
  have hx := X.1
  have hb := X.2.1
  have hown := X.2.2.2.1
  unfold f_X8_isUnder at hf
  refine lv_iload_n hx hb dX8_isUnder_0 rfl (lv_at hl 1 rfl) ?_
  refine lv_if_eq (tgt := 44) hx hb dX8_isUnder_1 (by decide) (fun hc1 => ?_) (fun hc1 => ?_)
  · replace hf := ite_t hf hc1
    refine lv_iconst (v := 1) hx hb dX8_isUnder_44 (by decide) ?_
    refine lv_goto (tgt := 49) hx hb dX8_isUnder_45 (by decide) ?_
    obtain ⟨hz, hf⟩ := ck_inv hf
    have hq9 := Option.some.inj hf
    subst hq9
    subst hQ
    exact r_zret X hG (of_decide_eq_true hz) dX8_isUnder_49
  · replace hf := ite_f hf hc1
    refine lv_iload_n hx hb dX8_isUnder_4 rfl (lv_at hl 0 rfl) ?_
    refine lv_iload_n hx hb dX8_isUnder_5 rfl (lv_at hl 1 rfl) ?_
    refine lv_icmp_eq (tgt := 44) hx hb dX8_isUnder_6 (by decide) (fun hc2 => ?_) (fun hc2 => ?_)
    · replace hf := ite_t hf hc2
      refine lv_iconst (v := 1) hx hb dX8_isUnder_44 (by decide) ?_
      refine lv_goto (tgt := 49) hx hb dX8_isUnder_45 (by decide) ?_
      obtain ⟨hz, hf⟩ := ck_inv hf
      have hq9 := Option.some.inj hf
      subst hq9
      subst hQ
      exact r_zret X hG (of_decide_eq_true hz) dX8_isUnder_49
    · replace hf := ite_f hf hc2
      refine lv_iload_n hx hb dX8_isUnder_9 rfl (lv_at hl 1 rfl) ?_
      refine lv_iconst (v := 1) hx hb dX8_isUnder_10 (by decide) ?_
      refine jn_use (P := fun (t3 : Unit) => ∀ (H : Heap) (locs : List Loc) (ls : Array Slot), GM g A s.heap H locs [] → lv_has ls 2 [(0, .int a1), (1, .int a2)] → W p l e rmX8_isUnder s m args below meth c H locs 0 0 Q (F0 m 24 ls [])) hf (fun t3 hf H locs ls hG hl => ?_) (fun K4 hK4 hf => ?_)
      · refine lv_iload_n hx hb dX8_isUnder_24 rfl (lv_at hl 1 rfl) ?_
        refine lv_iconst (v := 3) hx hb dX8_isUnder_25 (by decide) ?_
        refine jn_use (P := fun (t5 : Unit) => ∀ (H : Heap) (locs : List Loc) (ls : Array Slot), GM g A s.heap H locs [] → lv_has ls 2 [(0, .int a1), (1, .int a2)] → W p l e rmX8_isUnder s m args below meth c H locs 0 0 Q (F0 m 34 ls [])) hf (fun t5 hf H locs ls hG hl => ?_) (fun K6 hK6 hf => ?_)
        · refine lv_iload_n hx hb dX8_isUnder_34 rfl (lv_at hl 1 rfl) ?_
          refine lv_iconst (v := 2) hx hb dX8_isUnder_35 (by decide) ?_
          refine lv_icmp_ne (tgt := 48) hx hb dX8_isUnder_36 (by decide) (fun hc7 => ?_) (fun hc7 => ?_)
          · replace hf := ite_f hf hc7
            refine lv_iconst (v := 0) hx hb dX8_isUnder_48 (by decide) ?_
            obtain ⟨hz, hf⟩ := ck_inv hf
            have hq9 := Option.some.inj hf
            subst hq9
            subst hQ
            exact r_zret X hG (of_decide_eq_true hz) dX8_isUnder_49
          · replace hf := ite_t hf hc7
            refine lv_iload_n hx hb dX8_isUnder_39 rfl (lv_at hl 0 rfl) ?_
            refine lv_iconst (v := 4) hx hb dX8_isUnder_40 (by decide) ?_
            refine lv_icmp_ne (tgt := 48) hx hb dX8_isUnder_41 (by decide) (fun hc8 => ?_) (fun hc8 => ?_)
            · replace hf := ite_f hf hc8
              refine lv_iconst (v := 0) hx hb dX8_isUnder_48 (by decide) ?_
              obtain ⟨hz, hf⟩ := ck_inv hf
              have hq9 := Option.some.inj hf
              subst hq9
              subst hQ
              exact r_zret X hG (of_decide_eq_true hz) dX8_isUnder_49
            · replace hf := ite_t hf hc8
              refine lv_iconst (v := 1) hx hb dX8_isUnder_44 (by decide) ?_
              refine lv_goto (tgt := 49) hx hb dX8_isUnder_45 (by decide) ?_
              obtain ⟨hz, hf⟩ := ck_inv hf
              have hq9 := Option.some.inj hf
              subst hq9
              subst hQ
              exact r_zret X hG (of_decide_eq_true hz) dX8_isUnder_49
        refine lv_icmp_ne (tgt := 34) hx hb dX8_isUnder_26 (by decide) (fun hc9 => ?_) (fun hc9 => ?_)
        · replace hf := ite_f hf hc9
          exact hK6 _ hf _ _ _ hG (lv_sub hl [0, 1] rfl)
        · replace hf := ite_t hf hc9
          refine lv_iload_n hx hb dX8_isUnder_29 rfl (lv_at hl 0 rfl) ?_
          refine lv_iconst (v := 5) hx hb dX8_isUnder_30 (by decide) ?_
          refine lv_icmp_eq (tgt := 44) hx hb dX8_isUnder_31 (by decide) (fun hc10 => ?_) (fun hc10 => ?_)
          · replace hf := ite_t hf hc10
            refine lv_iconst (v := 1) hx hb dX8_isUnder_44 (by decide) ?_
            refine lv_goto (tgt := 49) hx hb dX8_isUnder_45 (by decide) ?_
            obtain ⟨hz, hf⟩ := ck_inv hf
            have hq9 := Option.some.inj hf
            subst hq9
            subst hQ
            exact r_zret X hG (of_decide_eq_true hz) dX8_isUnder_49
          · replace hf := ite_f hf hc10
            exact hK6 _ hf _ _ _ hG (lv_sub hl [0, 1] rfl)
      refine lv_icmp_ne (tgt := 24) hx hb dX8_isUnder_11 (by decide) (fun hc11 => ?_) (fun hc11 => ?_)
      · replace hf := ite_f hf hc11
        exact hK4 _ hf _ _ _ hG (lv_sub hl [0, 1] rfl)
      · replace hf := ite_t hf hc11
        refine lv_iload_n hx hb dX8_isUnder_14 rfl (lv_at hl 0 rfl) ?_
        refine lv_iconst (v := 3) hx hb dX8_isUnder_15 (by decide) ?_
        refine lv_icmp_eq (tgt := 44) hx hb dX8_isUnder_16 (by decide) (fun hc12 => ?_) (fun hc12 => ?_)
        · replace hf := ite_t hf hc12
          refine lv_iconst (v := 1) hx hb dX8_isUnder_44 (by decide) ?_
          refine lv_goto (tgt := 49) hx hb dX8_isUnder_45 (by decide) ?_
          obtain ⟨hz, hf⟩ := ck_inv hf
          have hq9 := Option.some.inj hf
          subst hq9
          subst hQ
          exact r_zret X hG (of_decide_eq_true hz) dX8_isUnder_49
        · replace hf := ite_f hf hc12
          refine lv_iload_n hx hb dX8_isUnder_19 rfl (lv_at hl 0 rfl) ?_
          refine lv_iconst (v := 5) hx hb dX8_isUnder_20 (by decide) ?_
          refine lv_icmp_eq (tgt := 44) hx hb dX8_isUnder_21 (by decide) (fun hc13 => ?_) (fun hc13 => ?_)
          · replace hf := ite_t hf hc13
            refine lv_iconst (v := 1) hx hb dX8_isUnder_44 (by decide) ?_
            refine lv_goto (tgt := 49) hx hb dX8_isUnder_45 (by decide) ?_
            obtain ⟨hz, hf⟩ := ck_inv hf
            have hq9 := Option.some.inj hf
            subst hq9
            subst hQ
            exact r_zret X hG (of_decide_eq_true hz) dX8_isUnder_49
          · replace hf := ite_f hf hc13
            exact hK4 _ hf _ _ _ hG (lv_sub hl [0, 1] rfl)
def rmX8_taken : Room := { frames := 2, cells := 0, slots := 0, locals := 43 }
set_option maxHeartbeats 4000000 in
set_option maxRecDepth 100000 in
theorem c_X8_taken (g : GT) (l : Launch) (o : Nat) (ad : Nat → Nat) (n : Nat) (a1 : Int32) (a2 : Int32) (s0 : MS) (q : Int32) (hf : f_X8_taken n a1 a2 s0 = some q) : CI g l yX8_taken cX8_taken 3 (some .int) rmX8_taken [.ref o, .int a1, .int a2] [wX8 g o ad s0] q [wX8 g o ad s0] := by
  refine CI_intro RX8 rfl (by decide +kernel) (Nat.le_of_ble_eq_true rfl) ?_
  intro p e s m args below meth c A ls Q hQ X hl hG
  have hl : lv_has ls 3 [(0, .ref o), (1, .int a1), (2, .int a2)] := hl
  have hx := X.1
  have hb := X.2.1
  have hown := X.2.2.2.1
  unfold f_X8_taken at hf
  refine lv_iload_n hx hb dX8_taken_0 rfl (lv_at hl 2 rfl) ?_
  refine lv_iconst (v := 0) hx hb dX8_taken_1 (by decide) ?_
  refine lv_iconst (v := 5) hx hb dX8_taken_2 (by decide) ?_
  obtain ⟨q1, hq1, hf⟩ := cl_inv hf
  refine r_callSi (bc := []) (br := [wX8 g o ad s0]) (bs' := [wX8 g o ad s0]) (As := [.int a2, .int 0, .int 5]) (rest := []) X hG hl.1 (c_X8_in g l  n a2 0 5 q1 hq1) (List.Perm.refl _) (List.Perm.refl _) lk_X8_in ls_X8_in ml_8_132 rfl rfl ⟨Nat.le_of_ble_eq_true rfl, Nat.le_of_ble_eq_true rfl⟩ rfl rfl (Nat.le_of_ble_eq_true rfl) ⟨Nat.zero_le _, Nat.zero_le _⟩ dX8_taken_3 (fun H locs hG => ?_)
  refine lv_if_ne (tgt := 12) hx hb dX8_taken_6 (by decide) (fun hc2 => ?_) (fun hc2 => ?_)
  · replace hf := ite_f hf hc2
    refine lv_aload_n hx hb dX8_taken_12 rfl (lv_at hl 0 rfl) ?_
    refine lv_iload_n hx hb dX8_taken_13 rfl (lv_at hl 1 rfl) ?_
    obtain ⟨q3, hq3, hf⟩ := cl_inv hf
    refine r_callVi (bc := [wX8 g o ad s0]) (br := []) (bs' := [wX8 g o ad s0]) (As := [.int a1]) (rest := []) X hG hl.1 (c_X8_isWay g l o ad n a1 s0 q3 hq3) (List.Perm.refl _) (List.Perm.refl _) lk_X8_isWay lv_X8_isWay ml_8_152 (j := 0) (k := 0) rfl rfl rfl rfl rfl ⟨Nat.le_of_ble_eq_true rfl, Nat.le_of_ble_eq_true rfl⟩ rfl rfl (Nat.le_of_ble_eq_true rfl) ⟨Nat.zero_le _, Nat.zero_le _⟩ dX8_taken_14 (fun H locs hG => ?_)
    refine lv_if_ne (tgt := 23) hx hb dX8_taken_17 (by decide) (fun hc4 => ?_) (fun hc4 => ?_)
    · replace hf := ite_f hf hc4
      refine lv_aload_n hx hb dX8_taken_23 rfl (lv_at hl 0 rfl) ?_
      refine G_8_31 X hG 0 rfl dX8_taken_24 ?_
      refine lv_iload_n hx hb dX8_taken_27 rfl (lv_at hl 1 rfl) ?_
      refine r_iald X hG 0 8 rfl rfl hf dX8_taken_28 (fun x5 hf => ?_)
      refine lv_iload_n hx hb dX8_taken_29 rfl (lv_at hl 2 rfl) ?_
      obtain ⟨q6, hq6, hf⟩ := cl_inv hf
      refine r_callSi (bc := []) (br := [wX8 g o ad s0]) (bs' := [wX8 g o ad s0]) (As := [.int x5, .int a2]) (rest := []) X hG hl.1 (c_X8_isUnder g l  n x5 a2 q6 hq6) (List.Perm.refl _) (List.Perm.refl _) lk_X8_isUnder ls_X8_isUnder ml_8_332 rfl rfl ⟨Nat.le_of_ble_eq_true rfl, Nat.le_of_ble_eq_true rfl⟩ rfl rfl (Nat.le_of_ble_eq_true rfl) ⟨Nat.zero_le _, Nat.zero_le _⟩ dX8_taken_30 (fun H locs hG => ?_)
      refine lv_if_eq (tgt := 45) hx hb dX8_taken_33 (by decide) (fun hc7 => ?_) (fun hc7 => ?_)
      · replace hf := ite_t hf hc7
        refine lv_bipush (v := (-13)) hx hb dX8_taken_45 (by decide) ?_
        have hq9 := Option.some.inj hf
        subst hq9
        subst hQ
        exact r_iret X hG dX8_taken_47
      · replace hf := ite_f hf hc7
        refine lv_aload_n hx hb dX8_taken_36 rfl (lv_at hl 0 rfl) ?_
        refine G_8_37 X hG 0 rfl dX8_taken_37 ?_
        refine lv_iload_n hx hb dX8_taken_40 rfl (lv_at hl 1 rfl) ?_
        refine r_iald X hG 0 10 rfl rfl hf dX8_taken_41 (fun x8 hf => ?_)
        refine lv_goto (tgt := 47) hx hb dX8_taken_42 (by decide) ?_
        have hq9 := Option.some.inj hf
        subst hq9
        subst hQ
        exact r_iret X hG dX8_taken_47
    · replace hf := ite_t hf hc4
      refine lv_bipush (v := (-11)) hx hb dX8_taken_20 (by decide) ?_
      have hq9 := Option.some.inj hf
      subst hq9
      subst hQ
      exact r_iret X hG dX8_taken_22
  · replace hf := ite_t hf hc2
    refine lv_bipush (v := (-2)) hx hb dX8_taken_9 (by decide) ?_
    have hq9 := Option.some.inj hf
    subst hq9
    subst hQ
    exact r_iret X hG dX8_taken_11
