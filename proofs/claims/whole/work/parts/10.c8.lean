def rmX8_in : Room := { frames := 0, cells := 0, slots := 0, locals := 0 }
set_option maxHeartbeats 4000000 in
set_option maxRecDepth 100000 in
theorem c_X8_in (g : GT) (l : Launch) (n : Nat) (a1 : Int32) (a2 : Int32) (a3 : Int32) (q : Int32) (hf : f_X8_in n a1 a2 a3 = some q) : CI g l yX8_in cX8_in 3 (some .boolean) rmX8_in [.int a1, .int a2, .int a3] [] q [] := by
  refine CI_intro RX8 rfl (by decide +kernel) (Nat.le_of_ble_eq_true rfl) ?_
  intro p e s m args below meth c A ls Q hQ X hl hG
  have hl : lv_has ls 3 [(0, .int a1), (1, .int a2), (2, .int a3)] := hl
  have hx := X.1
  have hb := X.2.1
  have hown := X.2.2.2.1
  unfold f_X8_in at hf
  refine lv_iload_n hx hb dX8_in_0 rfl (lv_at hl 0 rfl) ?_
  refine lv_iload_n hx hb dX8_in_1 rfl (lv_at hl 1 rfl) ?_
  refine lv_icmp_lt (tgt := 14) hx hb dX8_in_2 (by decide) (fun hc1 => ?_) (fun hc1 => ?_)
  · replace hf := ite_t hf hc1
    refine lv_iconst (v := 0) hx hb dX8_in_14 (by decide) ?_
    obtain ⟨hz, hf⟩ := ck_inv hf
    cases hf
    subst hQ
    exact r_zret X hG (of_decide_eq_true hz) dX8_in_15
  · replace hf := ite_f hf hc1
    refine lv_iload_n hx hb dX8_in_5 rfl (lv_at hl 0 rfl) ?_
    refine lv_iload_n hx hb dX8_in_6 rfl (lv_at hl 2 rfl) ?_
    refine lv_icmp_gt (tgt := 14) hx hb dX8_in_7 (by decide) (fun hc2 => ?_) (fun hc2 => ?_)
    · replace hf := ite_t hf hc2
      refine lv_iconst (v := 0) hx hb dX8_in_14 (by decide) ?_
      obtain ⟨hz, hf⟩ := ck_inv hf
      cases hf
      subst hQ
      exact r_zret X hG (of_decide_eq_true hz) dX8_in_15
    · replace hf := ite_f hf hc2
      refine lv_iconst (v := 1) hx hb dX8_in_10 (by decide) ?_
      refine lv_goto (tgt := 15) hx hb dX8_in_11 (by decide) ?_
      obtain ⟨hz, hf⟩ := ck_inv hf
      cases hf
      subst hQ
      exact r_zret X hG (of_decide_eq_true hz) dX8_in_15
def rmX8_held : Room := { frames := 0, cells := 0, slots := 0, locals := 0 }
set_option maxHeartbeats 4000000 in
set_option maxRecDepth 100000 in
theorem c_X8_held (g : GT) (l : Launch) (n : Nat) (a1 : Int32) (a2 : Int32) (a3 : Int32) (q : Int32) (hf : f_X8_held n a1 a2 a3 = some q) : CI g l yX8_held cX8_held 3 (some .int) rmX8_held [.int a1, .int a2, .int a3] [] q [] := by
  refine CI_intro RX8 rfl (by decide +kernel) (Nat.le_of_ble_eq_true rfl) ?_
  intro p e s m args below meth c A ls Q hQ X hl hG
  have hl : lv_has ls 3 [(0, .int a1), (1, .int a2), (2, .int a3)] := hl
  have hx := X.1
  have hb := X.2.1
  have hown := X.2.2.2.1
  unfold f_X8_held at hf
  refine lv_iload_n hx hb dX8_held_0 rfl (lv_at hl 0 rfl) ?_
  refine lv_iload_n hx hb dX8_held_1 rfl (lv_at hl 1 rfl) ?_
  refine lv_icmp_ge (tgt := 9) hx hb dX8_held_2 (by decide) (fun hc1 => ?_) (fun hc1 => ?_)
  · replace hf := ite_t hf hc1
    refine lv_iload_n hx hb dX8_held_9 rfl (lv_at hl 0 rfl) ?_
    refine lv_iload_n hx hb dX8_held_10 rfl (lv_at hl 2 rfl) ?_
    refine lv_icmp_le (tgt := 18) hx hb dX8_held_11 (by decide) (fun hc2 => ?_) (fun hc2 => ?_)
    · replace hf := ite_t hf hc2
      refine lv_iload_n hx hb dX8_held_18 rfl (lv_at hl 0 rfl) ?_
      cases hf
      subst hQ
      exact r_iret X hG dX8_held_19
    · replace hf := ite_f hf hc2
      refine lv_iload_n hx hb dX8_held_14 rfl (lv_at hl 2 rfl) ?_
      refine lv_goto (tgt := 19) hx hb dX8_held_15 (by decide) ?_
      cases hf
      subst hQ
      exact r_iret X hG dX8_held_19
  · replace hf := ite_f hf hc1
    refine lv_iload_n hx hb dX8_held_5 rfl (lv_at hl 1 rfl) ?_
    refine lv_goto (tgt := 19) hx hb dX8_held_6 (by decide) ?_
    cases hf
    subst hQ
    exact r_iret X hG dX8_held_19
def rmX8_isSort : Room := { frames := 1, cells := 0, slots := 0, locals := 22 }
set_option maxHeartbeats 4000000 in
set_option maxRecDepth 100000 in
theorem c_X8_isSort (g : GT) (l : Launch) (o : Nat) (ad : Nat → Nat) (n : Nat) (a1 : Int32) (s0 : MS) (q : Int32) (hf : f_X8_isSort n a1 s0 = some q) : CI g l yX8_isSort cX8_isSort 2 (some .boolean) rmX8_isSort [.ref o, .int a1] [wX8 g o ad s0] q [wX8 g o ad s0] := by
  refine CI_intro RX8 rfl (by decide +kernel) (Nat.le_of_ble_eq_true rfl) ?_
  intro p e s m args below meth c A ls Q hQ X hl hG
  have hl : lv_has ls 2 [(0, .ref o), (1, .int a1)] := hl
  have hx := X.1
  have hb := X.2.1
  have hown := X.2.2.2.1
  unfold f_X8_isSort at hf
  refine lv_iload_n hx hb dX8_isSort_0 rfl (lv_at hl 1 rfl) ?_
  refine lv_iconst (v := 0) hx hb dX8_isSort_1 (by decide) ?_
  refine lv_aload_n hx hb dX8_isSort_2 rfl (lv_at hl 0 rfl) ?_
  refine G_8_129 X hG 0 rfl dX8_isSort_3 ?_
  refine lv_iconst (v := 1) hx hb dX8_isSort_6 (by decide) ?_
  refine lv_isub hx hb dX8_isSort_7 ?_
  obtain ⟨q1, hq1, hf⟩ := cl_inv hf
  refine r_callSi (bc := []) (br := [wX8 g o ad s0]) (bs' := [wX8 g o ad s0]) (As := [.int a1, .int 0, .int ((s0.1 1) - 1)]) (rest := []) X hG hl.1 (c_X8_in g l  n a1 0 ((s0.1 1) - 1) q1 hq1) (List.Perm.refl _) (List.Perm.refl _) lk_X8_in ls_X8_in ml_8_132 rfl rfl ⟨Nat.le_of_ble_eq_true rfl, Nat.le_of_ble_eq_true rfl⟩ rfl rfl (Nat.le_of_ble_eq_true rfl) ⟨Nat.zero_le _, Nat.zero_le _⟩ dX8_isSort_8 (fun H locs hG => ?_)
  obtain ⟨hz, hf⟩ := ck_inv hf
  cases hf
  subst hQ
  exact r_zret X hG (of_decide_eq_true hz) dX8_isSort_11
def rmX8_people : Room := { frames := 1, cells := 0, slots := 0, locals := 22 }
set_option maxHeartbeats 4000000 in
set_option maxRecDepth 100000 in
theorem c_X8_people (g : GT) (l : Launch) (o : Nat) (ad : Nat → Nat) (n : Nat) (a1 : Int32) (a2 : Int32) (s0 : MS) (q : Int32 × MS) (hf : f_X8_people n a1 a2 s0 = some q) : CI g l yX8_people cX8_people 3 (some .int) rmX8_people [.ref o, .int a1, .int a2] [wX8 g o ad s0] q.1 [wX8 g o ad q.2] := by
  refine CI_intro RX8 rfl (by decide +kernel) (Nat.le_of_ble_eq_true rfl) ?_
  intro p e s m args below meth c A ls Q hQ X hl hG
  have hl : lv_has ls 3 [(0, .ref o), (1, .int a1), (2, .int a2)] := hl
  have hx := X.1
  have hb := X.2.1
  have hown := X.2.2.2.1
  unfold f_X8_people at hf
  refine lv_iload_n hx hb dX8_people_0 rfl (lv_at hl 1 rfl) ?_
  refine lv_iconst (v := 0) hx hb dX8_people_1 (by decide) ?_
  refine lv_sipush (v := 400) hx hb dX8_people_2 (by decide) ?_
  obtain ⟨q1, hq1, hf⟩ := cl_inv hf
  refine r_callSi (bc := []) (br := [wX8 g o ad s0]) (bs' := [wX8 g o ad s0]) (As := [.int a1, .int 0, .int 400]) (rest := []) X hG hl.1 (c_X8_in g l  n a1 0 400 q1 hq1) (List.Perm.refl _) (List.Perm.refl _) lk_X8_in ls_X8_in ml_8_132 rfl rfl ⟨Nat.le_of_ble_eq_true rfl, Nat.le_of_ble_eq_true rfl⟩ rfl rfl (Nat.le_of_ble_eq_true rfl) ⟨Nat.zero_le _, Nat.zero_le _⟩ dX8_people_5 (fun H locs hG => ?_)
  refine lv_if_eq (tgt := 41) hx hb dX8_people_8 (by decide) (fun hc2 => ?_) (fun hc2 => ?_)
  · replace hf := ite_t hf hc2
    refine lv_bipush (v := (-2)) hx hb dX8_people_41 (by decide) ?_
    cases hf
    subst hQ
    exact r_iret X hG dX8_people_43
  · replace hf := ite_f hf hc2
    refine lv_iload_n hx hb dX8_people_11 rfl (lv_at hl 2 rfl) ?_
    refine lv_if_lt (tgt := 41) hx hb dX8_people_12 (by decide) (fun hc3 => ?_) (fun hc3 => ?_)
    · replace hf := ite_t hf hc3
      refine lv_bipush (v := (-2)) hx hb dX8_people_41 (by decide) ?_
      cases hf
      subst hQ
      exact r_iret X hG dX8_people_43
    · replace hf := ite_f hf hc3
      refine lv_iload_n hx hb dX8_people_15 rfl (lv_at hl 2 rfl) ?_
      refine lv_sipush (v := 1000) hx hb dX8_people_16 (by decide) ?_
      refine r_idiv X hf dX8_people_19 (fun hf => ?_)
      refine lv_bipush (v := 40) hx hb dX8_people_20 (by decide) ?_
      refine lv_icmp_gt (tgt := 41) hx hb dX8_people_22 (by decide) (fun hc4 => ?_) (fun hc4 => ?_)
      · replace hf := ite_t hf hc4
        refine lv_bipush (v := (-2)) hx hb dX8_people_41 (by decide) ?_
        cases hf
        subst hQ
        exact r_iret X hG dX8_people_43
      · replace hf := ite_f hf hc4
        refine lv_iload_n hx hb dX8_people_25 rfl (lv_at hl 2 rfl) ?_
        refine lv_bipush (v := 10) hx hb dX8_people_26 (by decide) ?_
        refine r_idiv X hf dX8_people_28 (fun hf => ?_)
        refine lv_bipush (v := 100) hx hb dX8_people_29 (by decide) ?_
        refine r_irem X hf dX8_people_31 (fun hf => ?_)
        refine lv_iconst (v := 1) hx hb dX8_people_32 (by decide) ?_
        refine lv_bipush (v := 60) hx hb dX8_people_33 (by decide) ?_
        obtain ⟨q5, hq5, hf⟩ := cl_inv hf
        refine r_callSi (bc := []) (br := [wX8 g o ad s0]) (bs' := [wX8 g o ad s0]) (As := [.int ((a2 / 10) - (a2 / 10) / 100 * 100), .int 1, .int 60]) (rest := []) X hG hl.1 (c_X8_in g l  n ((a2 / 10) - (a2 / 10) / 100 * 100) 1 60 q5 hq5) (List.Perm.refl _) (List.Perm.refl _) lk_X8_in ls_X8_in ml_8_132 rfl rfl ⟨Nat.le_of_ble_eq_true rfl, Nat.le_of_ble_eq_true rfl⟩ rfl rfl (Nat.le_of_ble_eq_true rfl) ⟨Nat.zero_le _, Nat.zero_le _⟩ dX8_people_35 (fun H locs hG => ?_)
        refine lv_if_ne (tgt := 44) hx hb dX8_people_38 (by decide) (fun hc6 => ?_) (fun hc6 => ?_)
        · replace hf := ite_f hf hc6
          refine lv_aload_n hx hb dX8_people_44 rfl (lv_at hl 0 rfl) ?_
          refine G_8_129 X hG 0 rfl dX8_people_45 ?_
          refine lv_bipush (v := 6) hx hb dX8_people_48 (by decide) ?_
          refine lv_icmp_ne (tgt := 56) hx hb dX8_people_50 (by decide) (fun hc7 => ?_) (fun hc7 => ?_)
          · replace hf := ite_f hf hc7
            refine lv_aload_n hx hb dX8_people_56 rfl (lv_at hl 0 rfl) ?_
            refine G_8_7 X hG 0 rfl dX8_people_57 ?_
            refine lv_aload_n hx hb dX8_people_60 rfl (lv_at hl 0 rfl) ?_
            refine G_8_129 X hG 0 rfl dX8_people_61 ?_
            refine lv_iload_n hx hb dX8_people_64 rfl (lv_at hl 1 rfl) ?_
            refine r_iast X hG 0 1 rfl rfl hf (fun t => [wX8 g o ad t]) rfl dX8_people_65 (fun s8 H locs hf hG => ?_)
            refine lv_aload_n hx hb dX8_people_66 rfl (lv_at hl 0 rfl) ?_
            refine G_8_13 X hG 0 rfl dX8_people_67 ?_
            refine lv_aload_n hx hb dX8_people_70 rfl (lv_at hl 0 rfl) ?_
            refine G_8_129 X hG 0 rfl dX8_people_71 ?_
            refine lv_iload_n hx hb dX8_people_74 rfl (lv_at hl 2 rfl) ?_
            refine lv_sipush (v := 1000) hx hb dX8_people_75 (by decide) ?_
            refine r_idiv X hf dX8_people_78 (fun hf => ?_)
            refine r_iast X hG 0 2 rfl rfl hf (fun t => [wX8 g o ad t]) rfl dX8_people_79 (fun s9 H locs hf hG => ?_)
            refine lv_aload_n hx hb dX8_people_80 rfl (lv_at hl 0 rfl) ?_
            refine G_8_16 X hG 0 rfl dX8_people_81 ?_
            refine lv_aload_n hx hb dX8_people_84 rfl (lv_at hl 0 rfl) ?_
            refine G_8_129 X hG 0 rfl dX8_people_85 ?_
            refine lv_iload_n hx hb dX8_people_88 rfl (lv_at hl 2 rfl) ?_
            refine lv_bipush (v := 10) hx hb dX8_people_89 (by decide) ?_
            refine r_idiv X hf dX8_people_91 (fun hf => ?_)
            refine lv_bipush (v := 100) hx hb dX8_people_92 (by decide) ?_
            refine r_irem X hf dX8_people_94 (fun hf => ?_)
            refine r_iast X hG 0 3 rfl rfl hf (fun t => [wX8 g o ad t]) rfl dX8_people_95 (fun s10 H locs hf hG => ?_)
            refine lv_aload_n hx hb dX8_people_96 rfl (lv_at hl 0 rfl) ?_
            refine G_8_19 X hG 0 rfl dX8_people_97 ?_
            refine lv_aload_n hx hb dX8_people_100 rfl (lv_at hl 0 rfl) ?_
            refine G_8_129 X hG 0 rfl dX8_people_101 ?_
            refine lv_iload_n hx hb dX8_people_104 rfl (lv_at hl 2 rfl) ?_
            refine lv_bipush (v := 10) hx hb dX8_people_105 (by decide) ?_
            refine r_irem X hf dX8_people_107 (fun hf => ?_)
            refine r_iast X hG 0 4 rfl rfl hf (fun t => [wX8 g o ad t]) rfl dX8_people_108 (fun s11 H locs hf hG => ?_)
            refine lv_aload_n hx hb dX8_people_109 rfl (lv_at hl 0 rfl) ?_
            refine lv_dup hx hb dX8_people_110 rfl ?_
            refine G_8_129 X hG 0 rfl dX8_people_111 ?_
            refine lv_iconst (v := 1) hx hb dX8_people_114 (by decide) ?_
            refine lv_iadd hx hb dX8_people_115 ?_
            refine P_8_129 X hG 0 rfl hf (fun t => [wX8 g o ad t]) (fun _ => rfl) dX8_people_116 (fun s12 H locs hf hG => ?_)
            refine lv_aload_n hx hb dX8_people_119 rfl (lv_at hl 0 rfl) ?_
            refine G_8_129 X hG 0 rfl dX8_people_120 ?_
            refine lv_iconst (v := 1) hx hb dX8_people_123 (by decide) ?_
            refine lv_isub hx hb dX8_people_124 ?_
            cases hf
            subst hQ
            exact r_iret X hG dX8_people_125
          · replace hf := ite_t hf hc7
            refine lv_bipush (v := (-4)) hx hb dX8_people_53 (by decide) ?_
            cases hf
            subst hQ
            exact r_iret X hG dX8_people_55
        · replace hf := ite_t hf hc6
          refine lv_bipush (v := (-2)) hx hb dX8_people_41 (by decide) ?_
          cases hf
          subst hQ
          exact r_iret X hG dX8_people_43
def rmX8_waitingNow : Room := { frames := 0, cells := 0, slots := 0, locals := 0 }
set_option maxHeartbeats 4000000 in
set_option maxRecDepth 100000 in
theorem c_X8_waitingNow (g : GT) (l : Launch) (o : Nat) (ad : Nat → Nat) (n : Nat) (s0 : MS) (q : Int32) (hf : f_X8_waitingNow n s0 = some q) : CI g l yX8_waitingNow cX8_waitingNow 3 (some .int) rmX8_waitingNow [.ref o] [wX8 g o ad s0] q [wX8 g o ad s0] := by
  refine CI_intro RX8 rfl (by decide +kernel) (Nat.le_of_ble_eq_true rfl) ?_
  intro p e s m args below meth c A ls Q hQ X hl hG
  have hl : lv_has ls 3 [(0, .ref o)] := hl
  have hx := X.1
  have hb := X.2.1
  have hown := X.2.2.2.1
  unfold f_X8_waitingNow at hf
  refine lv_iconst (v := 0) hx hb dX8_waitingNow_0 (by decide) ?_
  refine lv_istore_n (lv' := [(1, .int 0), (0, .ref o)]) hx hb dX8_waitingNow_1 rfl hl (by decide) rfl (fun ls hl => ?_)
  refine lv_iconst (v := 0) hx hb dX8_waitingNow_2 (by decide) ?_
  refine lv_istore_n (lv' := [(2, .int 0), (1, .int 0), (0, .ref o)]) hx hb dX8_waitingNow_3 rfl hl (by decide) rfl (fun ls hl => ?_)
  refine lp_go (P := fun (t1 : Int32 × Int32) => ∀ (H : Heap) (locs : List Loc) (ls : Array Slot), GM g A s.heap H locs [wX8 g o ad s0] → lv_has ls 3 [(0, .ref o), (1, .int t1.1), (2, .int t1.2)] → W p l e rmX8_waitingNow s m args below meth c H locs 0 0 Q (F0 m 4 ls [])) hf (fun K2 hK2 t1 hf H locs ls hG hl => ?_) _ _ _ hG (lv_sub hl [2, 1, 0] rfl)
  refine lv_iload_n hx hb dX8_waitingNow_4 rfl (lv_at hl 2 rfl) ?_
  refine lv_bipush (v := 120) hx hb dX8_waitingNow_5 (by decide) ?_
  refine lv_aload_n hx hb dX8_waitingNow_7 rfl (lv_at hl 0 rfl) ?_
  refine G_8_129 X hG 0 rfl dX8_waitingNow_8 ?_
  refine lv_imul hx hb dX8_waitingNow_11 ?_
  refine lv_icmp_ge (tgt := 30) hx hb dX8_waitingNow_12 (by decide) (fun hc3 => ?_) (fun hc3 => ?_)
  · replace hf := ite_t hf hc3
    refine lv_iload_n hx hb dX8_waitingNow_30 rfl (lv_at hl 1 rfl) ?_
    cases hf
    subst hQ
    exact r_iret X hG dX8_waitingNow_31
  · replace hf := ite_f hf hc3
    refine lv_iload_n hx hb dX8_waitingNow_15 rfl (lv_at hl 1 rfl) ?_
    refine lv_aload_n hx hb dX8_waitingNow_16 rfl (lv_at hl 0 rfl) ?_
    refine G_8_87 X hG 0 rfl dX8_waitingNow_17 ?_
    refine lv_iload_n hx hb dX8_waitingNow_20 rfl (lv_at hl 2 rfl) ?_
    refine r_iald X hG 0 22 rfl rfl hf dX8_waitingNow_21 (fun x4 hf => ?_)
    refine lv_iadd hx hb dX8_waitingNow_22 ?_
    refine r_bni hf (fun x5 hf => ?_)
    refine lv_istore_n (lv' := [(1, .int x5), (0, .ref o), (2, .int t1.2)]) hx hb dX8_waitingNow_23 rfl hl (by decide) rfl (fun ls hl => ?_)
    refine lv_iinc (v := (t1.2 + 1)) (lv' := [(2, .int (t1.2 + 1)), (1, .int x5), (0, .ref o)]) hx hb dX8_waitingNow_24 hl (k := 2) rfl rfl (by decide) rfl (fun ls hl => ?_)
    refine lv_goto (tgt := 4) hx hb dX8_waitingNow_27 (by decide) ?_
    exact hK2 _ hf _ _ _ hG (lv_sub hl [2, 1, 0] rfl)
def rmX8_isAhead : Room := { frames := 0, cells := 0, slots := 0, locals := 0 }
set_option maxHeartbeats 4000000 in
set_option maxRecDepth 100000 in
theorem c_X8_isAhead (g : GT) (l : Launch) (o : Nat) (ad : Nat → Nat) (n : Nat) (a1 : Int32) (a2 : Int32) (a3 : Int32) (a4 : Int32) (a5 : Int32) (s0 : MS) (q : Int32) (hf : f_X8_isAhead n a1 a2 a3 a4 a5 s0 = some q) : CI g l yX8_isAhead cX8_isAhead 6 (some .boolean) rmX8_isAhead [.ref o, .int a1, .int a2, .int a3, .int a4, .int a5] [wX8 g o ad s0] q [wX8 g o ad s0] := by
  refine CI_intro RX8 rfl (by decide +kernel) (Nat.le_of_ble_eq_true rfl) ?_
  intro p e s m args below meth c A ls Q hQ X hl hG
  have hl : lv_has ls 6 [(0, .ref o), (1, .int a1), (2, .int a2), (3, .int a3), (4, .int a4), (5, .int a5)] := hl
  have hx := X.1
  have hb := X.2.1
  have hown := X.2.2.2.1
  unfold f_X8_isAhead at hf
  refine lv_iload_n hx hb dX8_isAhead_0 rfl (lv_at hl 1 rfl) ?_
  refine lv_iconst (v := 1) hx hb dX8_isAhead_1 (by decide) ?_
  refine jn_use (P := fun (t1 : Unit) => ∀ (H : Heap) (locs : List Loc) (ls : Array Slot), GM g A s.heap H locs [wX8 g o ad s0] → lv_has ls 6 [(1, .int a1), (2, .int a2), (3, .int a3), (4, .int a4), (5, .int a5)] → W p l e rmX8_isAhead s m args below meth c H locs 0 0 Q (F0 m 43 ls [])) hf (fun t1 hf H locs ls hG hl => ?_) (fun K2 hK2 hf => ?_)
  · refine lv_iload_n hx hb dX8_isAhead_43 rfl (lv_at hl 0 rfl) ?_
    refine lv_iconst (v := 2) hx hb dX8_isAhead_44 (by decide) ?_
    refine jn_use (P := fun (t3 : Unit) => ∀ (H : Heap) (locs : List Loc) (ls : Array Slot), GM g A s.heap H locs [wX8 g o ad s0] → lv_has ls 6 [(2, .int a2), (3, .int a3), (4, .int a4), (5, .int a5)] → W p l e rmX8_isAhead s m args below meth c H locs 0 0 Q (F0 m 66 ls [])) hf (fun t3 hf H locs ls hG hl => ?_) (fun K4 hK4 hf => ?_)
    · refine lv_iload_n hx hb dX8_isAhead_66 rfl (lv_at hl 1 rfl) ?_
      refine lv_iload hx hb dX8_isAhead_67 (lv_at hl 3 rfl) ?_
      refine lv_icmp_eq (tgt := 86) hx hb dX8_isAhead_69 (by decide) (fun hc5 => ?_) (fun hc5 => ?_)
      · replace hf := ite_t hf hc5
        refine lv_iload_n hx hb dX8_isAhead_86 rfl (lv_at hl 0 rfl) ?_
        refine lv_iload hx hb dX8_isAhead_87 (lv_at hl 2 rfl) ?_
        refine lv_icmp_ge (tgt := 96) hx hb dX8_isAhead_89 (by decide) (fun hc6 => ?_) (fun hc6 => ?_)
        · replace hf := ite_t hf hc6
          refine lv_iconst (v := 0) hx hb dX8_isAhead_96 (by decide) ?_
          obtain ⟨hz, hf⟩ := ck_inv hf
          cases hf
          subst hQ
          exact r_zret X hG (of_decide_eq_true hz) dX8_isAhead_97
        · replace hf := ite_f hf hc6
          refine lv_iconst (v := 1) hx hb dX8_isAhead_92 (by decide) ?_
          refine lv_goto (tgt := 97) hx hb dX8_isAhead_93 (by decide) ?_
          obtain ⟨hz, hf⟩ := ck_inv hf
          cases hf
          subst hQ
          exact r_zret X hG (of_decide_eq_true hz) dX8_isAhead_97
      · replace hf := ite_f hf hc5
        refine lv_iload_n hx hb dX8_isAhead_72 rfl (lv_at hl 1 rfl) ?_
        refine lv_iload hx hb dX8_isAhead_73 (lv_at hl 3 rfl) ?_
        refine lv_icmp_ge (tgt := 82) hx hb dX8_isAhead_75 (by decide) (fun hc7 => ?_) (fun hc7 => ?_)
        · replace hf := ite_t hf hc7
          refine lv_iconst (v := 0) hx hb dX8_isAhead_82 (by decide) ?_
          refine lv_goto (tgt := 97) hx hb dX8_isAhead_83 (by decide) ?_
          obtain ⟨hz, hf⟩ := ck_inv hf
          cases hf
          subst hQ
          exact r_zret X hG (of_decide_eq_true hz) dX8_isAhead_97
        · replace hf := ite_f hf hc7
          refine lv_iconst (v := 1) hx hb dX8_isAhead_78 (by decide) ?_
          refine lv_goto (tgt := 97) hx hb dX8_isAhead_79 (by decide) ?_
          obtain ⟨hz, hf⟩ := ck_inv hf
          cases hf
          subst hQ
          exact r_zret X hG (of_decide_eq_true hz) dX8_isAhead_97
    refine lv_icmp_ne (tgt := 66) hx hb dX8_isAhead_45 (by decide) (fun hc8 => ?_) (fun hc8 => ?_)
    · replace hf := ite_f hf hc8
      exact hK4 _ hf _ _ _ hG (lv_sub hl [1, 2, 3, 4] rfl)
    · replace hf := ite_t hf hc8
      refine lv_iload_n hx hb dX8_isAhead_48 rfl (lv_at hl 1 rfl) ?_
      refine lv_iload hx hb dX8_isAhead_49 (lv_at hl 3 rfl) ?_
      refine lv_icmp_eq (tgt := 66) hx hb dX8_isAhead_51 (by decide) (fun hc9 => ?_) (fun hc9 => ?_)
      · replace hf := ite_t hf hc9
        exact hK4 _ hf _ _ _ hG (lv_sub hl [1, 2, 3, 4] rfl)
      · replace hf := ite_f hf hc9
        refine lv_iload_n hx hb dX8_isAhead_54 rfl (lv_at hl 1 rfl) ?_
        refine lv_iload hx hb dX8_isAhead_55 (lv_at hl 3 rfl) ?_
        refine lv_icmp_ge (tgt := 64) hx hb dX8_isAhead_57 (by decide) (fun hc10 => ?_) (fun hc10 => ?_)
        · replace hf := ite_t hf hc10
          refine lv_iconst (v := 0) hx hb dX8_isAhead_64 (by decide) ?_
          obtain ⟨hz, hf⟩ := ck_inv hf
          cases hf
          subst hQ
          exact r_zret X hG (of_decide_eq_true hz) dX8_isAhead_65
        · replace hf := ite_f hf hc10
          refine lv_iconst (v := 1) hx hb dX8_isAhead_60 (by decide) ?_
          refine lv_goto (tgt := 65) hx hb dX8_isAhead_61 (by decide) ?_
          obtain ⟨hz, hf⟩ := ck_inv hf
          cases hf
          subst hQ
          exact r_zret X hG (of_decide_eq_true hz) dX8_isAhead_65
  refine lv_icmp_ne (tgt := 43) hx hb dX8_isAhead_2 (by decide) (fun hc11 => ?_) (fun hc11 => ?_)
  · replace hf := ite_f hf hc11
    exact hK2 _ hf _ _ _ hG (lv_sub hl [1, 2, 3, 4, 5] rfl)
  · replace hf := ite_t hf hc11
    refine lv_aload_n hx hb dX8_isAhead_5 rfl (lv_at hl 0 rfl) ?_
    refine G_8_13 X hG 0 rfl dX8_isAhead_6 ?_
    refine lv_iload_n hx hb dX8_isAhead_9 rfl (lv_at hl 2 rfl) ?_
    refine r_iald X hG 0 2 rfl rfl hf dX8_isAhead_10 (fun x12 hf => ?_)
    refine lv_aload_n hx hb dX8_isAhead_11 rfl (lv_at hl 0 rfl) ?_
    refine G_8_13 X hG 0 rfl dX8_isAhead_12 ?_
    refine lv_iload hx hb dX8_isAhead_15 (lv_at hl 4 rfl) ?_
    refine r_iald X hG 0 2 rfl rfl hf dX8_isAhead_17 (fun x13 hf => ?_)
    refine lv_icmp_eq (tgt := 43) hx hb dX8_isAhead_18 (by decide) (fun hc14 => ?_) (fun hc14 => ?_)
    · replace hf := ite_t hf hc14
      exact hK2 _ hf _ _ _ hG (lv_sub hl [1, 2, 3, 4, 5] rfl)
    · replace hf := ite_f hf hc14
      refine lv_aload_n hx hb dX8_isAhead_21 rfl (lv_at hl 0 rfl) ?_
      refine G_8_13 X hG 0 rfl dX8_isAhead_22 ?_
      refine lv_iload_n hx hb dX8_isAhead_25 rfl (lv_at hl 2 rfl) ?_
      refine r_iald X hG 0 2 rfl rfl hf dX8_isAhead_26 (fun x15 hf => ?_)
      refine lv_aload_n hx hb dX8_isAhead_27 rfl (lv_at hl 0 rfl) ?_
      refine G_8_13 X hG 0 rfl dX8_isAhead_28 ?_
      refine lv_iload hx hb dX8_isAhead_31 (lv_at hl 4 rfl) ?_
      refine r_iald X hG 0 2 rfl rfl hf dX8_isAhead_33 (fun x16 hf => ?_)
      refine lv_icmp_le (tgt := 41) hx hb dX8_isAhead_34 (by decide) (fun hc17 => ?_) (fun hc17 => ?_)
      · replace hf := ite_t hf hc17
        refine lv_iconst (v := 0) hx hb dX8_isAhead_41 (by decide) ?_
        obtain ⟨hz, hf⟩ := ck_inv hf
        cases hf
        subst hQ
        exact r_zret X hG (of_decide_eq_true hz) dX8_isAhead_42
      · replace hf := ite_f hf hc17
        refine lv_iconst (v := 1) hx hb dX8_isAhead_37 (by decide) ?_
        refine lv_goto (tgt := 42) hx hb dX8_isAhead_38 (by decide) ?_
        obtain ⟨hz, hf⟩ := ck_inv hf
        cases hf
        subst hQ
        exact r_zret X hG (of_decide_eq_true hz) dX8_isAhead_42
def rmX8_load : Room := { frames := 1, cells := 0, slots := 0, locals := 25 }
set_option maxHeartbeats 4000000 in
set_option maxRecDepth 100000 in
theorem c_X8_load (g : GT) (l : Launch) (o : Nat) (ad : Nat → Nat) (n : Nat) (a1 : Int32) (a2 : Int32) (a3 : Int32) (a4 : Int32) (s0 : MS) (q : MS) (hf : f_X8_load n a1 a2 a3 a4 s0 = some q) : CV g l yX8_load cX8_load 8 none rmX8_load [.ref o, .int a1, .int a2, .int a3, .int a4] [wX8 g o ad s0] [wX8 g o ad q] := by
  refine CV_intro RX8 rfl (by decide +kernel) (Nat.le_of_ble_eq_true rfl) ?_
  intro p e s m args below meth c A ls Q hQ X hl hG
  have hl : lv_has ls 8 [(0, .ref o), (1, .int a1), (2, .int a2), (3, .int a3), (4, .int a4)] := hl
  have hx := X.1
  have hb := X.2.1
  have hown := X.2.2.2.1
  unfold f_X8_load at hf
  refine lv_iload_n hx hb dX8_load_0 rfl (lv_at hl 2 rfl) ?_
  refine lv_istore (lv' := [(5, .int a2), (0, .ref o), (1, .int a1), (2, .int a2), (3, .int a3), (4, .int a4)]) hx hb dX8_load_1 hl (by decide) rfl (fun ls hl => ?_)
  refine lp_go (P := fun (t1 : Int32 × MS) => ∀ (H : Heap) (locs : List Loc) (ls : Array Slot), GM g A s.heap H locs [wX8 g o ad t1.2] → lv_has ls 8 [(0, .ref o), (1, .int a1), (3, .int a3), (5, .int t1.1)] → W p l e rmX8_load s m args below meth c H locs 0 0 Q (F0 m 3 ls [])) hf (fun K2 hK2 t1 hf H locs ls hG hl => ?_) _ _ _ hG (lv_sub hl [1, 2, 4, 0] rfl)
  refine lv_iload hx hb dX8_load_3 (lv_at hl 3 rfl) ?_
  refine lv_if_le (tgt := 159) hx hb dX8_load_5 (by decide) (fun hc3 => ?_) (fun hc3 => ?_)
  · replace hf := ite_t hf hc3
    cases hf
    subst hQ
    exact r_vret X hG dX8_load_159
  · replace hf := ite_f hf hc3
    refine lv_iconst (v := (-1)) hx hb dX8_load_8 (by decide) ?_
    refine lv_istore (lv' := [(6, .int (-1)), (0, .ref o), (1, .int a1), (3, .int a3), (5, .int t1.1)]) hx hb dX8_load_9 hl (by decide) rfl (fun ls hl => ?_)
    refine lv_iconst (v := 0) hx hb dX8_load_11 (by decide) ?_
    refine lv_istore (lv' := [(7, .int 0), (6, .int (-1)), (0, .ref o), (1, .int a1), (3, .int a3), (5, .int t1.1)]) hx hb dX8_load_12 hl (by decide) rfl (fun ls hl => ?_)
    refine lp_go (P := fun (t4 : Int32 × Int32) => ∀ (H : Heap) (locs : List Loc) (ls : Array Slot), GM g A s.heap H locs [wX8 g o ad t1.2] → lv_has ls 8 [(0, .ref o), (1, .int a1), (3, .int a3), (5, .int t1.1), (6, .int t4.1), (7, .int t4.2)] → W p l e rmX8_load s m args below meth c H locs 0 0 Q (F0 m 14 ls [])) hf (fun K5 hK5 t4 hf H locs ls hG hl => ?_) _ _ _ hG (lv_sub hl [2, 3, 4, 5, 1, 0] rfl)
    refine lv_iload hx hb dX8_load_14 (lv_at hl 5 rfl) ?_
    refine lv_bipush (v := 120) hx hb dX8_load_16 (by decide) ?_
    refine lv_aload_n hx hb dX8_load_18 rfl (lv_at hl 0 rfl) ?_
    refine G_8_129 X hG 0 rfl dX8_load_19 ?_
    refine lv_imul hx hb dX8_load_22 ?_
    refine lv_icmp_ge (tgt := 79) hx hb dX8_load_23 (by decide) (fun hc6 => ?_) (fun hc6 => ?_)
    · replace hf := ite_t hf hc6
      refine lv_iload hx hb dX8_load_79 (lv_at hl 4 rfl) ?_
      refine lv_if_ge (tgt := 85) hx hb dX8_load_81 (by decide) (fun hc7 => ?_) (fun hc7 => ?_)
      · replace hf := ite_t hf hc7
        refine lv_aload_n hx hb dX8_load_85 rfl (lv_at hl 0 rfl) ?_
        refine G_8_87 X hG 0 rfl dX8_load_86 ?_
        refine lv_iload hx hb dX8_load_89 (lv_at hl 4 rfl) ?_
        refine r_iald X hG 0 22 rfl rfl hf dX8_load_91 (fun x8 hf => ?_)
        refine lv_iload hx hb dX8_load_92 (lv_at hl 3 rfl) ?_
        refine jn_use (P := fun (t9 : Int32) => ∀ (H : Heap) (locs : List Loc) (ls : Array Slot), GM g A s.heap H locs [wX8 g o ad t1.2] → lv_has ls 8 [(0, .ref o), (1, .int a1), (3, .int a3), (5, .int t1.1), (6, .int t4.1)] → W p l e rmX8_load s m args below meth c H locs 0 0 Q (F0 m 109 ls [.int t9])) hf (fun t9 hf H locs ls hG hl => ?_) (fun K10 hK10 hf => ?_)
        · refine lv_istore (lv' := [(7, .int t9), (0, .ref o), (1, .int a1), (3, .int a3), (5, .int t1.1), (6, .int t4.1)]) hx hb dX8_load_109 hl (by decide) rfl (fun ls hl => ?_)
          refine lv_aload_n hx hb dX8_load_111 rfl (lv_at hl 1 rfl) ?_
          refine G_8_87 X hG 0 rfl dX8_load_112 ?_
          refine lv_iload hx hb dX8_load_115 (lv_at hl 5 rfl) ?_
          refine lv_dup2_11 hx hb dX8_load_117 rfl rfl ?_
          refine r_iald X hG 0 22 rfl rfl hf dX8_load_118 (fun x11 hf => ?_)
          refine lv_iload hx hb dX8_load_119 (lv_at hl 0 rfl) ?_
          refine lv_isub hx hb dX8_load_121 ?_
          refine r_iast X hG 0 22 rfl rfl hf (fun t => [wX8 g o ad t]) rfl dX8_load_122 (fun s12 H locs hf hG => ?_)
          refine lv_aload_n hx hb dX8_load_123 rfl (lv_at hl 1 rfl) ?_
          refine G_8_96 X hG 0 rfl dX8_load_124 ?_
          refine lv_iload hx hb dX8_load_127 (lv_at hl 5 rfl) ?_
          refine lv_bipush (v := 120) hx hb dX8_load_129 (by decide) ?_
          refine r_idiv X hf dX8_load_131 (fun hf => ?_)
          refine lv_dup2_11 hx hb dX8_load_132 rfl rfl ?_
          refine r_iald X hG 0 25 rfl rfl hf dX8_load_133 (fun x13 hf => ?_)
          refine lv_iload hx hb dX8_load_134 (lv_at hl 0 rfl) ?_
          refine lv_iadd hx hb dX8_load_136 ?_
          refine r_iast X hG 0 25 rfl rfl hf (fun t => [wX8 g o ad t]) rfl dX8_load_137 (fun s14 H locs hf hG => ?_)
          refine lv_aload_n hx hb dX8_load_138 rfl (lv_at hl 1 rfl) ?_
          refine G_8_90 X hG 0 rfl dX8_load_139 ?_
          refine lv_iload_n hx hb dX8_load_142 rfl (lv_at hl 2 rfl) ?_
          refine lv_dup2_11 hx hb dX8_load_143 rfl rfl ?_
          refine r_iald X hG 0 23 rfl rfl hf dX8_load_144 (fun x15 hf => ?_)
          refine lv_iload hx hb dX8_load_145 (lv_at hl 0 rfl) ?_
          refine lv_iadd hx hb dX8_load_147 ?_
          refine r_iast X hG 0 23 rfl rfl hf (fun t => [wX8 g o ad t]) rfl dX8_load_148 (fun s16 H locs hf hG => ?_)
          refine lv_iload hx hb dX8_load_149 (lv_at hl 4 rfl) ?_
          refine lv_iload hx hb dX8_load_151 (lv_at hl 0 rfl) ?_
          refine lv_isub hx hb dX8_load_153 ?_
          refine r_bni hf (fun x17 hf => ?_)
          refine lv_istore (lv' := [(5, .int x17), (7, .int t9), (0, .ref o), (1, .int a1), (3, .int a3), (6, .int t4.1)]) hx hb dX8_load_154 hl (by decide) rfl (fun ls hl => ?_)
          refine lv_goto (tgt := 3) hx hb dX8_load_156 (by decide) ?_
          exact hK2 _ hf _ _ _ hG (lv_sub hl [2, 3, 4, 0] rfl)
        refine lv_icmp_ge (tgt := 107) hx hb dX8_load_94 (by decide) (fun hc18 => ?_) (fun hc18 => ?_)
        · replace hf := ite_t hf hc18
          refine lv_iload hx hb dX8_load_107 (lv_at hl 3 rfl) ?_
          exact hK10 _ hf _ _ _ hG (lv_sub hl [0, 1, 2, 3, 4] rfl)
        · replace hf := ite_f hf hc18
          refine lv_aload_n hx hb dX8_load_97 rfl (lv_at hl 0 rfl) ?_
          refine G_8_87 X hG 0 rfl dX8_load_98 ?_
          refine lv_iload hx hb dX8_load_101 (lv_at hl 4 rfl) ?_
          refine r_iald X hG 0 22 rfl rfl hf dX8_load_103 (fun x19 hf => ?_)
          refine lv_goto (tgt := 109) hx hb dX8_load_104 (by decide) ?_
          exact hK10 _ hf _ _ _ hG (lv_sub hl [0, 1, 2, 3, 4] rfl)
      · replace hf := ite_f hf hc7
        cases hf
        subst hQ
        exact r_vret X hG dX8_load_84
    · replace hf := ite_f hf hc6
      refine lv_aload_n hx hb dX8_load_26 rfl (lv_at hl 0 rfl) ?_
      refine G_8_87 X hG 0 rfl dX8_load_27 ?_
      refine lv_iload hx hb dX8_load_30 (lv_at hl 5 rfl) ?_
      refine r_iald X hG 0 22 rfl rfl hf dX8_load_32 (fun x20 hf => ?_)
      refine jn_use (P := fun (t21 : Int32) => ∀ (H : Heap) (locs : List Loc) (ls : Array Slot), GM g A s.heap H locs [wX8 g o ad t1.2] → lv_has ls 8 [(0, .ref o), (1, .int a1), (3, .int a3), (5, .int t1.1), (6, .int t21), (7, .int t4.2)] → W p l e rmX8_load s m args below meth c H locs 0 0 Q (F0 m 73 ls [])) hf (fun t21 hf H locs ls hG hl => ?_) (fun K22 hK22 hf => ?_)
      · refine lv_iinc (v := (t4.2 + 1)) (lv' := [(7, .int (t4.2 + 1)), (0, .ref o), (1, .int a1), (3, .int a3), (5, .int t1.1), (6, .int t21)]) hx hb dX8_load_73 hl (k := 5) rfl rfl (by decide) rfl (fun ls hl => ?_)
        refine lv_goto (tgt := 14) hx hb dX8_load_76 (by decide) ?_
        exact hK5 _ hf _ _ _ hG (lv_sub hl [1, 2, 3, 4, 5, 0] rfl)
      refine lv_if_le (tgt := 73) hx hb dX8_load_33 (by decide) (fun hc23 => ?_) (fun hc23 => ?_)
      · replace hf := ite_t hf hc23
        exact hK22 _ hf _ _ _ hG (lv_sub hl [0, 1, 2, 3, 4, 5] rfl)
      · replace hf := ite_f hf hc23
        refine lv_iload hx hb dX8_load_36 (lv_at hl 4 rfl) ?_
        refine jn_use (P := fun (t24 : Unit) => ∀ (H : Heap) (locs : List Loc) (ls : Array Slot), GM g A s.heap H locs [wX8 g o ad t1.2] → lv_has ls 8 [(0, .ref o), (1, .int a1), (3, .int a3), (5, .int t1.1), (7, .int t4.2)] → W p l e rmX8_load s m args below meth c H locs 0 0 Q (F0 m 69 ls [])) hf (fun t24 hf H locs ls hG hl => ?_) (fun K25 hK25 hf => ?_)
        · refine lv_iload hx hb dX8_load_69 (lv_at hl 4 rfl) ?_
          refine lv_istore (lv' := [(6, .int t4.2), (0, .ref o), (1, .int a1), (3, .int a3), (5, .int t1.1), (7, .int t4.2)]) hx hb dX8_load_71 hl (by decide) rfl (fun ls hl => ?_)
          exact hK22 _ hf _ _ _ hG (lv_sub hl [1, 2, 3, 4, 0, 5] rfl)
        refine lv_if_lt (tgt := 69) hx hb dX8_load_38 (by decide) (fun hc26 => ?_) (fun hc26 => ?_)
        · replace hf := ite_t hf hc26
          exact hK25 _ hf _ _ _ hG (lv_sub hl [0, 1, 2, 3, 5] rfl)
        · replace hf := ite_f hf hc26
          refine lv_aload_n hx hb dX8_load_41 rfl (lv_at hl 0 rfl) ?_
          refine lv_iload_n hx hb dX8_load_42 rfl (lv_at hl 2 rfl) ?_
          refine lv_iload hx hb dX8_load_43 (lv_at hl 5 rfl) ?_
          refine lv_bipush (v := 120) hx hb dX8_load_45 (by decide) ?_
          refine r_idiv X hf dX8_load_47 (fun hf => ?_)
          refine lv_iload hx hb dX8_load_48 (lv_at hl 5 rfl) ?_
          refine lv_bipush (v := 120) hx hb dX8_load_50 (by decide) ?_
          refine r_irem X hf dX8_load_52 (fun hf => ?_)
          refine lv_iload hx hb dX8_load_53 (lv_at hl 4 rfl) ?_
          refine lv_bipush (v := 120) hx hb dX8_load_55 (by decide) ?_
          refine r_idiv X hf dX8_load_57 (fun hf => ?_)
          refine lv_iload hx hb dX8_load_58 (lv_at hl 4 rfl) ?_
          refine lv_bipush (v := 120) hx hb dX8_load_60 (by decide) ?_
          refine r_irem X hf dX8_load_62 (fun hf => ?_)
          obtain ⟨q27, hq27, hf⟩ := cl_inv hf
          refine r_callVi (bc := [wX8 g o ad t1.2]) (br := []) (bs' := [wX8 g o ad t1.2]) (As := [.int a3, .int (t4.2 / 120), .int (t4.2 - t4.2 / 120 * 120), .int (t4.1 / 120), .int (t4.1 - t4.1 / 120 * 120)]) (rest := []) X hG hl.1 (c_X8_isAhead g l o ad n a3 (t4.2 / 120) (t4.2 - t4.2 / 120 * 120) (t4.1 / 120) (t4.1 - t4.1 / 120 * 120) t1.2 q27 hq27) (List.Perm.refl _) (List.Perm.refl _) lk_X8_isAhead lv_X8_isAhead ml_8_248 (j := 0) (k := 0) rfl rfl rfl rfl rfl ⟨Nat.le_of_ble_eq_true rfl, Nat.le_of_ble_eq_true rfl⟩ rfl rfl (Nat.le_of_ble_eq_true rfl) ⟨Nat.zero_le _, Nat.zero_le _⟩ dX8_load_63 (fun H locs hG => ?_)
          refine lv_if_eq (tgt := 73) hx hb dX8_load_66 (by decide) (fun hc28 => ?_) (fun hc28 => ?_)
          · replace hf := ite_t hf hc28
            exact hK22 _ hf _ _ _ hG (lv_sub hl [0, 1, 2, 3, 4, 5] rfl)
          · replace hf := ite_f hf hc28
            exact hK25 _ hf _ _ _ hG (lv_sub hl [0, 1, 2, 3, 5] rfl)
def rmX8_leftOf : Room := { frames := 0, cells := 0, slots := 0, locals := 0 }
set_option maxHeartbeats 4000000 in
set_option maxRecDepth 100000 in
theorem c_X8_leftOf (g : GT) (l : Launch) (o : Nat) (ad : Nat → Nat) (n : Nat) (a1 : Int32) (s0 : MS) (q : Int32) (hf : f_X8_leftOf n a1 s0 = some q) : CI g l yX8_leftOf cX8_leftOf 2 (some .int) rmX8_leftOf [.ref o, .int a1] [wX8 g o ad s0] q [wX8 g o ad s0] := by
  refine CI_intro RX8 rfl (by decide +kernel) (Nat.le_of_ble_eq_true rfl) ?_
  intro p e s m args below meth c A ls Q hQ X hl hG
  have hl : lv_has ls 2 [(0, .ref o), (1, .int a1)] := hl
  have hx := X.1
  have hb := X.2.1
  have hown := X.2.2.2.1
  unfold f_X8_leftOf at hf
  refine lv_aload_n hx hb dX8_leftOf_0 rfl (lv_at hl 0 rfl) ?_
  refine G_8_7 X hG 0 rfl dX8_leftOf_1 ?_
  refine lv_iload_n hx hb dX8_leftOf_4 rfl (lv_at hl 1 rfl) ?_
  refine r_iald X hG 0 1 rfl rfl hf dX8_leftOf_5 (fun x1 hf => ?_)
  refine lv_aload_n hx hb dX8_leftOf_6 rfl (lv_at hl 0 rfl) ?_
  refine G_8_96 X hG 0 rfl dX8_leftOf_7 ?_
  refine lv_iload_n hx hb dX8_leftOf_10 rfl (lv_at hl 1 rfl) ?_
  refine r_iald X hG 0 25 rfl rfl hf dX8_leftOf_11 (fun x2 hf => ?_)
  refine lv_isub hx hb dX8_leftOf_12 ?_
  cases hf
  subst hQ
  exact r_iret X hG dX8_leftOf_13
def rmX8_leftOfAll : Room := { frames := 1, cells := 0, slots := 0, locals := 21 }
set_option maxHeartbeats 4000000 in
set_option maxRecDepth 100000 in
theorem c_X8_leftOfAll (g : GT) (l : Launch) (o : Nat) (ad : Nat → Nat) (n : Nat) (s0 : MS) (q : Int32) (hf : f_X8_leftOfAll n s0 = some q) : CI g l yX8_leftOfAll cX8_leftOfAll 3 (some .int) rmX8_leftOfAll [.ref o] [wX8 g o ad s0] q [wX8 g o ad s0] := by
  refine CI_intro RX8 rfl (by decide +kernel) (Nat.le_of_ble_eq_true rfl) ?_
  intro p e s m args below meth c A ls Q hQ X hl hG
  have hl : lv_has ls 3 [(0, .ref o)] := hl
  have hx := X.1
  have hb := X.2.1
  have hown := X.2.2.2.1
  unfold f_X8_leftOfAll at hf
  refine lv_iconst (v := 0) hx hb dX8_leftOfAll_0 (by decide) ?_
  refine lv_istore_n (lv' := [(1, .int 0), (0, .ref o)]) hx hb dX8_leftOfAll_1 rfl hl (by decide) rfl (fun ls hl => ?_)
  refine lv_iconst (v := 0) hx hb dX8_leftOfAll_2 (by decide) ?_
  refine lv_istore_n (lv' := [(2, .int 0), (1, .int 0), (0, .ref o)]) hx hb dX8_leftOfAll_3 rfl hl (by decide) rfl (fun ls hl => ?_)
  refine lp_go (P := fun (t1 : Int32 × Int32) => ∀ (H : Heap) (locs : List Loc) (ls : Array Slot), GM g A s.heap H locs [wX8 g o ad s0] → lv_has ls 3 [(0, .ref o), (1, .int t1.1), (2, .int t1.2)] → W p l e rmX8_leftOfAll s m args below meth c H locs 0 0 Q (F0 m 4 ls [])) hf (fun K2 hK2 t1 hf H locs ls hG hl => ?_) _ _ _ hG (lv_sub hl [2, 1, 0] rfl)
  refine lv_iload_n hx hb dX8_leftOfAll_4 rfl (lv_at hl 2 rfl) ?_
  refine lv_aload_n hx hb dX8_leftOfAll_5 rfl (lv_at hl 0 rfl) ?_
  refine G_8_129 X hG 0 rfl dX8_leftOfAll_6 ?_
  refine lv_icmp_ge (tgt := 26) hx hb dX8_leftOfAll_9 (by decide) (fun hc3 => ?_) (fun hc3 => ?_)
  · replace hf := ite_t hf hc3
    refine lv_iload_n hx hb dX8_leftOfAll_26 rfl (lv_at hl 1 rfl) ?_
    cases hf
    subst hQ
    exact r_iret X hG dX8_leftOfAll_27
  · replace hf := ite_f hf hc3
    refine lv_iload_n hx hb dX8_leftOfAll_12 rfl (lv_at hl 1 rfl) ?_
    refine lv_aload_n hx hb dX8_leftOfAll_13 rfl (lv_at hl 0 rfl) ?_
    refine lv_iload_n hx hb dX8_leftOfAll_14 rfl (lv_at hl 2 rfl) ?_
    obtain ⟨q4, hq4, hf⟩ := cl_inv hf
    refine r_callVi (bc := [wX8 g o ad s0]) (br := []) (bs' := [wX8 g o ad s0]) (As := [.int t1.2]) (rest := [.int t1.1]) X hG hl.1 (c_X8_leftOf g l o ad n t1.2 s0 q4 hq4) (List.Perm.refl _) (List.Perm.refl _) lk_X8_leftOf lv_X8_leftOf ml_8_289 (j := 0) (k := 0) rfl rfl rfl rfl rfl ⟨Nat.le_of_ble_eq_true rfl, Nat.le_of_ble_eq_true rfl⟩ rfl rfl (Nat.le_of_ble_eq_true rfl) ⟨Nat.zero_le _, Nat.zero_le _⟩ dX8_leftOfAll_15 (fun H locs hG => ?_)
    refine lv_iadd hx hb dX8_leftOfAll_18 ?_
    refine r_bni hf (fun x5 hf => ?_)
    refine lv_istore_n (lv' := [(1, .int x5), (0, .ref o), (2, .int t1.2)]) hx hb dX8_leftOfAll_19 rfl hl (by decide) rfl (fun ls hl => ?_)
    refine lv_iinc (v := (t1.2 + 1)) (lv' := [(2, .int (t1.2 + 1)), (1, .int x5), (0, .ref o)]) hx hb dX8_leftOfAll_20 hl (k := 2) rfl rfl (by decide) rfl (fun ls hl => ?_)
    refine lv_goto (tgt := 4) hx hb dX8_leftOfAll_23 (by decide) ?_
    exact hK2 _ hf _ _ _ hG (lv_sub hl [2, 1, 0] rfl)
