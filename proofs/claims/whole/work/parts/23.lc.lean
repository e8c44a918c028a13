def f_X7_firstRule (n : Nat) : Option MS :=
  lp (fun K102 (t101 : Int32 × MS × MS) =>
    if (slen 0) ≤ t101.1 then (
      cl (f_X4_read n t101.2.2 t101.2.1) fun q104 =>
      some q104.2.2)
    else (
      ck (ib t101.1 (K_len.getD 0 0)) <| bn (schr 0 (Int32.toNatClampNeg t101.1)) fun x105 =>
      cl (f_X4_append n x105 t101.2.2) fun q107 =>
      K102 ((t101.1 + 1), t101.2.1, q107))) n (0, st0_X5, st0_X4)
def rmn_first : Room := { frames := 74, cells := 6, slots := 494, locals := 4098 }
theorem lk_X7_firstRule : LKC yX7_firstRule cX7_firstRule 3 (some (.object "LastCar$Text")) 0 := ⟨TW_at 260 (by decide +kernel) (by decide +kernel), TW_at 59 (by decide +kernel) (by decide +kernel), by decide +kernel, by decide +kernel, by decide +kernel⟩
theorem ls_X7_firstRule : Cond.static yX7_firstRule ∈ TW := TW_at 259 (by decide +kernel) (by decide +kernel)
set_option maxHeartbeats 4000000 in
set_option maxRecDepth 100000 in
theorem n_first (g : GT) (l : Launch) (n : Nat) (q : MS) (hf : f_X7_firstRule n = some q) : CR g l yX7_firstRule cX7_firstRule 3 (some (.object "LastCar$Text")) rmn_first [] [] (fun (u : Nat × (Nat → Nat)) => u.1) (fun u => [wX5 g u.1 u.2 q]) 6 494 := by
  refine CR_intro RX7 rfl (by decide +kernel) (Nat.le_of_ble_eq_true rfl) ?_
  intro p e s m args below meth c A ls Q hQ X hl hG
  have hl : lv_has ls 3 [] := hl
  have hx := X.1
  have hb := X.2.1
  have hown := X.2.2.2.1
  unfold f_X7_firstRule at hf
  obtain ⟨locs, hlocs⟩ : ∃ L : List Loc, L = [] := ⟨_, rfl⟩
  rw [← hlocs] at hG ⊢
  refine r_new (ci := 4) (fs := [.null, .int 0, .int 0, .int 0, .int 0, .int 0]) (C := RX4) (T := TX4) (N := 6) X hG inX4 tyX4 tyX4_ok (TW_at 177 (by decide +kernel) (by decide +kernel)) (TW_at 178 (by decide +kernel) (by decide +kernel)) (TW_at 64 (by decide +kernel) (by decide +kernel)) rfl nfX4 (by show (_ : Nat) ≤ _; decide) (by show (_ : Nat) ≤ _; decide) dX7_firstRule_0 (fun q1 H hG => ?_)
  have hG : GM g A s.heap H locs [oX4 g q1 (fun _ => 0) (fun _ => none)] := hG
  refine W.widen (k := 1) (n := 6) (by omega) (by omega) ?_
  refine lv_dup hx hb dX7_firstRule_3 rfl ?_
  refine r_callIN (host := "LastCar") (bc := [oX4 g q1 (fun _ => 0) (fun _ => none)]) (br := []) (As := []) (rest := [.ref q1]) X hG hl.1 (n_X4 g l q1) (List.Perm.refl _) lk_X4_init rfl li_X4_init (NW_at 179 (by decide +kernel) (by decide +kernel)) rfl rfl ⟨Nat.le_of_ble_eq_true rfl, Nat.le_of_ble_eq_true rfl⟩ rfl rfl (Nat.le_of_ble_eq_true rfl) ⟨by show (_ : Nat) ≤ _; decide, by show (_ : Nat) ≤ _; decide⟩ dX7_firstRule_4 (fun u2 H locs hG => ?_)
  have hG : GM g A s.heap H locs [wX4 g q1 u2 st0_X4] := hG
  refine W.widen (k := 2) (n := 166) (by omega) (by omega) ?_
  refine lv_astore_n (lv' := [(0, .ref q1)]) hx hb dX7_firstRule_7 rfl hl (by decide) rfl (fun ls hl => ?_)
  refine r_new (ci := 5) (fs := [.null, .null, .null, .int 0]) (C := RX5) (T := TX5) (N := 4) X hG inX5 tyX5 tyX5_ok (TW_at 203 (by decide +kernel) (by decide +kernel)) (TW_at 261 (by decide +kernel) (by decide +kernel)) (TW_at 66 (by decide +kernel) (by decide +kernel)) rfl nfX5 (by show (_ : Nat) ≤ _; decide) (by show (_ : Nat) ≤ _; decide) dX7_firstRule_8 (fun q3 H hG => ?_)
  have hG : GM g A s.heap H locs [wX4 g q1 u2 st0_X4, oX5 g q3 (fun _ => 0) (fun _ => none)] := hG
  refine W.widen (k := 3) (n := 170) (by omega) (by omega) ?_
  refine lv_dup hx hb dX7_firstRule_11 rfl ?_
  refine r_callIN (host := "LastCar") (bc := [oX5 g q3 (fun _ => 0) (fun _ => none)]) (br := [wX4 g q1 u2 st0_X4]) (As := []) (rest := [.ref q3]) X hG hl.1 (n_X5 g l q3) ((blk_perm2 [1, 0] 2 rfl rfl (by decide)).flatten) lk_X5_init rfl li_X5_init (NW_at 262 (by decide +kernel) (by decide +kernel)) rfl rfl ⟨Nat.le_of_ble_eq_true rfl, Nat.le_of_ble_eq_true rfl⟩ rfl rfl (Nat.le_of_ble_eq_true rfl) ⟨by show (_ : Nat) ≤ _; decide, by show (_ : Nat) ≤ _; decide⟩ dX7_firstRule_12 (fun u4 H locs hG => ?_)
  have hG : GM g A s.heap H locs [wX5 g q3 u4 st0_X5, wX4 g q1 u2 st0_X4] := hG
  refine W.widen (k := 6) (n := 494) (by omega) (by omega) ?_
  refine lv_astore_n (lv' := [(1, .ref q3), (0, .ref q1)]) hx hb dX7_firstRule_15 rfl hl (by decide) rfl (fun ls hl => ?_)
  refine lv_iconst (v := 0) hx hb dX7_firstRule_16 (by decide) ?_
  refine lv_istore_n (lv' := [(2, .int 0), (1, .ref q3), (0, .ref q1)]) hx hb dX7_firstRule_17 rfl hl (by decide) rfl (fun ls hl => ?_)
  refine lp_go (P := fun (t101 : Int32 × MS × MS) => ∀ (H : Heap) (locs : List Loc) (ls : Array Slot), GM g A s.heap H locs [wX5 g q3 u4 t101.2.1, wX4 g q1 u2 t101.2.2] → lv_has ls 3 [(0, .ref q1), (1, .ref q3), (2, .int t101.1)] → W p l e rmn_first s m args below meth c H locs 6 494 Q (F0 m 18 ls [])) hf (fun K102 hK102 t101 hf H locs ls hG hl => ?_) _ _ _ hG (lv_sub hl [2, 1, 0] rfl)
  refine lv_iload_n hx hb dX7_firstRule_18 rfl (lv_at hl 2 rfl) ?_
  refine va_ldcS hx hb hown (FX_s0 X) dX7_firstRule_19 ?_
  refine r_callRi (bc := []) (br := [wX5 g q3 u4 t101.2.1, wX4 g q1 u2 t101.2.2]) (bs' := [wX5 g q3 u4 t101.2.1, wX4 g q1 u2 t101.2.2]) (As := []) (rest := [.int t101.1]) X hG hl.1 (c_slen g l 0 (by decide)) (List.Perm.refl _) (List.Perm.refl _) lk_J0_length_8abf5 lv_J0_length_8abf5 (TW_at 280 (by decide +kernel) (by decide +kernel)) (str_recv X hG (by decide)) rfl rfl ⟨Nat.le_of_ble_eq_true rfl, Nat.le_of_ble_eq_true rfl⟩ rfl rfl (Nat.le_of_ble_eq_true rfl) ⟨by show (_ : Nat) ≤ _; decide, by show (_ : Nat) ≤ _; decide⟩ dX7_firstRule_21 (fun H locs hG => ?_)
  refine lv_icmp_ge (tgt := 43) hx hb dX7_firstRule_24 (by decide) (fun hc103 => ?_) (fun hc103 => ?_)
  · replace hf := ite_t hf hc103
    refine lv_aload_n hx hb dX7_firstRule_43 rfl (lv_at hl 0 rfl) ?_
    refine lv_aload_n hx hb dX7_firstRule_44 rfl (lv_at hl 1 rfl) ?_
    obtain ⟨q104, hq104, hf⟩ := cl_inv hf
    refine r_callVi (bc := [wX4 g q1 u2 t101.2.2, wX5 g q3 u4 t101.2.1]) (br := []) (bs' := [wX5 g q3 u4 q104.2.2, wX4 g q1 u2 q104.2.1]) (As := [.ref q3]) (rest := []) X hG hl.1 (c_X4_read g l q1 u2 q3 u4 n t101.2.2 t101.2.1 q104 hq104) ((blk_perm2 [1, 0] 2 rfl rfl (by decide)).flatten) ((blk_perm2 [1, 0] 2 rfl rfl (by decide)).flatten) lk_X4_read lv_X4_read ml_7_98 (j := 1) (k := 0) rfl rfl rfl rfl rfl ⟨Nat.le_of_ble_eq_true rfl, Nat.le_of_ble_eq_true rfl⟩ rfl rfl (Nat.le_of_ble_eq_true rfl) ⟨by show (_ : Nat) ≤ _; decide, by show (_ : Nat) ≤ _; decide⟩ dX7_firstRule_45 (fun H locs hG => ?_)
    refine lv_pop hx hb dX7_firstRule_48 rfl ?_
    refine lv_aload_n hx hb dX7_firstRule_49 rfl (lv_at hl 1 rfl) ?_
    have hq9 := Option.some.inj hf
    subst hq9
    subst hQ
    have hG := GM_drop (hG.perm (b2 := [wX4 g q1 u2 q104.2.1, wX5 g q3 u4 q104.2.2]) ((blk_perm2 [1, 0] 2 rfl rfl (by decide)).flatten))
    exact r_rret (ad := fun u => u.1) (bs'' := fun (u : Nat × (Nat → Nat)) => [wX5 g u.1 u.2 q104.2.2]) (q3, u4) X hG dX7_firstRule_50
  · replace hf := ite_f hf hc103
    refine lv_aload_n hx hb dX7_firstRule_27 rfl (lv_at hl 0 rfl) ?_
    refine va_ldcS hx hb hown (FX_s0 X) dX7_firstRule_28 ?_
    refine lv_iload_n hx hb dX7_firstRule_30 rfl (lv_at hl 2 rfl) ?_
    obtain ⟨hb106, hf⟩ := ck_inv hf
    refine r_callRi (bc := []) (br := [wX5 g q3 u4 t101.2.1, wX4 g q1 u2 t101.2.2]) (bs' := [wX5 g q3 u4 t101.2.1, wX4 g q1 u2 t101.2.2]) (As := [.int t101.1]) (rest := [.ref q1]) X hG hl.1 (c_schr2 g l 0 t101.1 (by decide) hb106) (List.Perm.refl _) (List.Perm.refl _) lk_J0_charAt_5068e lv_J0_charAt_5068e (TW_at 290 (by decide +kernel) (by decide +kernel)) (str_recv X hG (by decide)) rfl rfl ⟨Nat.le_of_ble_eq_true rfl, Nat.le_of_ble_eq_true rfl⟩ rfl rfl (Nat.le_of_ble_eq_true rfl) ⟨by show (_ : Nat) ≤ _; decide, by show (_ : Nat) ≤ _; decide⟩ dX7_firstRule_31 (fun H locs hG => ?_)
    refine r_bni hf (fun x105 hf => ?_)
    obtain ⟨q107, hq107, hf⟩ := cl_inv hf
    refine r_callVv (bc := [wX4 g q1 u2 t101.2.2]) (br := [wX5 g q3 u4 t101.2.1]) (bs' := [wX5 g q3 u4 t101.2.1, wX4 g q1 u2 q107]) (As := [.int x105]) (rest := []) X hG hl.1 (c_X4_append g l q1 u2 n x105 t101.2.2 q107 hq107) ((blk_perm2 [1, 0] 2 rfl rfl (by decide)).flatten) ((blk_perm2 [1, 0] 2 rfl rfl (by decide)).flatten) lk_X4_append lv_X4_append ml_7_94 (j := 1) (k := 0) rfl rfl rfl rfl rfl ⟨Nat.le_of_ble_eq_true rfl, Nat.le_of_ble_eq_true rfl⟩ rfl rfl (Nat.le_of_ble_eq_true rfl) ⟨by show (_ : Nat) ≤ _; decide, by show (_ : Nat) ≤ _; decide⟩ dX7_firstRule_34 (fun H locs hG => ?_)
    refine lv_iinc (v := (t101.1 + 1)) (lv' := [(2, .int (t101.1 + 1)), (0, .ref q1), (1, .ref q3)]) hx hb dX7_firstRule_37 hl (k := 2) rfl rfl (by decide) rfl (fun ls hl => ?_)
    refine lv_goto (tgt := 18) hx hb dX7_firstRule_40 (by decide) ?_
    exact hK102 _ hf _ _ _ hG (lv_sub hl [1, 2, 0] rfl)
def st0_C (t0 : MS) : CS := (((va_up (va_up (va_up (fun _ => 0) 2 0) 5 0) 9 1), fun _ _ => 0), st0_X2, st0_X2, st0_X0, st0_N, st0_X6 0 0 0, st0_X4, (fun i => if i = 0 then t0 else st0_X5), (fun _ => st0_X3), st0_X1, st0_N)
def rmn_X7 : Room := { frames := 75, cells := 79, slots := 4576, locals := 4120 }
set_option maxHeartbeats 4000000 in
set_option maxRecDepth 100000 in
theorem n_X7 (g : GT) (l : Launch) (o : Nat) (n : Nat) (t0 : MS) (hf : f_X7_firstRule n = some t0) : CN g l yX7_init cX7_init 2 rmn_X7 [.ref o] [oX7 g o (fun _ => 0) (fun _ => none)] (fun (a : Nat → Nat → Nat) => wC g o a 0 (st0_C t0)) 79 4576 := by
  refine CN_intro RX7 rfl rfl (by decide +kernel) (Nat.le_of_ble_eq_true rfl) ?_
  intro p e s m args below meth c9 A ls Q hQ X hl hmn hG
  have hl : lv_has ls 2 [(0, .ref o)] := hl
  have hx := X.1
  have hb := X.2.1
  have hown := X.2.2.2.1
  obtain ⟨H, hH⟩ : ∃ H, H = s.heap := ⟨_, rfl⟩
  obtain ⟨locs, hlocs⟩ : ∃ L : List Loc, L = [] := ⟨_, rfl⟩
  rw [← hlocs] at hG ⊢
  have hG : GM g A s.heap H locs [oX7 g o (fun _ => 0) (fun _ => none)] := by rw [hH]; exact hG
  rw [show W p l e rmn_X7 s m args below meth c9 s.heap locs 0 0 Q (F0 m 0 ls []) = W p l e rmn_X7 s m args below meth c9 H locs 0 0 Q (F0 m 0 ls []) by rw [hH]]
  refine lv_aload_n hx hb dX7_init_0 rfl (lv_at hl 0 rfl) ?_
  refine r_objInit X hl.1 (TW_at 80 (by decide +kernel) (by decide +kernel)) (TW_at 81 (by decide +kernel) (by decide +kernel)) (TW_at 82 (by decide +kernel) (by decide +kernel)) (Nat.le_of_ble_eq_true rfl) (Nat.le_of_ble_eq_true rfl) dX7_init_1 ?_
  refine lv_aload_n hx hb dX7_init_4 rfl (lv_at hl 0 rfl) ?_
  refine r_new (ci := 2) (fs := [.int 0, .null, .null, .null, .null, .null, .int 0, .int 0, .int 0, .int 0]) (C := RX2) (T := TX2) (N := 10) X hG inX2 tyX2 tyX2_ok (TW_at 83 (by decide +kernel) (by decide +kernel)) (TW_at 84 (by decide +kernel) (by decide +kernel)) (TW_at 60 (by decide +kernel) (by decide +kernel)) rfl nfX2 (by show (_ : Nat) ≤ _; decide) (by show (_ : Nat) ≤ _; decide) dX7_init_5 (fun q1 H hG => ?_)
  have hG : GM g A s.heap H locs [oX7 g o (fun _ => 0) (fun _ => none), oX2 g q1 (fun _ => 0) (fun _ => none)] := hG
  refine W.widen (k := 1) (n := 10) (by omega) (by omega) ?_
  refine lv_dup hx hb dX7_init_8 rfl ?_
  refine r_callI (bc := [oX2 g q1 (fun _ => 0) (fun _ => none)]) (br := [oX7 g o (fun _ => 0) (fun _ => none)]) (As := []) (rest := [.ref q1, .ref o]) X hG hl.1 (n_X2 g l q1) ((blk_perm2 [1, 0] 2 rfl rfl (by decide)).flatten) lk_X2_init rfl li_X2_init (TW_at 85 (by decide +kernel) (by decide +kernel)) rfl rfl ⟨Nat.le_of_ble_eq_true rfl, Nat.le_of_ble_eq_true rfl⟩ rfl rfl (Nat.le_of_ble_eq_true rfl) ⟨by show (_ : Nat) ≤ _; decide, by show (_ : Nat) ≤ _; decide⟩ dX7_init_9 (fun u2 H locs hG => ?_)
  have hG : GM g A s.heap H locs [wX2 g q1 u2 st0_X2, oX7 g o (fun _ => 0) (fun _ => none)] := hG
  refine W.widen (k := 6) (n := 154) (by omega) (by omega) ?_
  refine PO_7_10 X hmn hG 1 rfl dX7_init_12 (fun H locs hG => ?_)
  have hG : GM g A s.heap H locs [wX2 g q1 u2 st0_X2, oX7 g o (fun _ => 0) (va_up (fun _ => none) 0 (some q1))] := hG
  refine lv_aload_n hx hb dX7_init_15 rfl (lv_at hl 0 rfl) ?_
  refine r_new (ci := 2) (fs := [.int 0, .null, .null, .null, .null, .null, .int 0, .int 0, .int 0, .int 0]) (C := RX2) (T := TX2) (N := 10) X hG inX2 tyX2 tyX2_ok (TW_at 83 (by decide +kernel) (by decide +kernel)) (TW_at 84 (by decide +kernel) (by decide +kernel)) (TW_at 60 (by decide +kernel) (by decide +kernel)) rfl nfX2 (by show (_ : Nat) ≤ _; decide) (by show (_ : Nat) ≤ _; decide) dX7_init_16 (fun q3 H hG => ?_)
  have hG : GM g A s.heap H locs [wX2 g q1 u2 st0_X2, oX7 g o (fun _ => 0) (va_up (fun _ => none) 0 (some q1)), oX2 g q3 (fun _ => 0) (fun _ => none)] := hG
  refine W.widen (k := 7) (n := 164) (by omega) (by omega) ?_
  refine lv_dup hx hb dX7_init_19 rfl ?_
  refine r_callI (bc := [oX2 g q3 (fun _ => 0) (fun _ => none)]) (br := [wX2 g q1 u2 st0_X2, oX7 g o (fun _ => 0) (va_up (fun _ => none) 0 (some q1))]) (As := []) (rest := [.ref q3, .ref o]) X hG hl.1 (n_X2 g l q3) ((blk_perm2 [2, 0, 1] 3 rfl rfl (by decide)).flatten) lk_X2_init rfl li_X2_init (TW_at 85 (by decide +kernel) (by decide +kernel)) rfl rfl ⟨Nat.le_of_ble_eq_true rfl, Nat.le_of_ble_eq_true rfl⟩ rfl rfl (Nat.le_of_ble_eq_true rfl) ⟨by show (_ : Nat) ≤ _; decide, by show (_ : Nat) ≤ _; decide⟩ dX7_init_20 (fun u4 H locs hG => ?_)
  have hG : GM g A s.heap H locs [wX2 g q3 u4 st0_X2, wX2 g q1 u2 st0_X2, oX7 g o (fun _ => 0) (va_up (fun _ => none) 0 (some q1))] := hG
  refine W.widen (k := 12) (n := 308) (by omega) (by omega) ?_
  refine PO_7_16 X hmn hG 2 rfl dX7_init_23 (fun H locs hG => ?_)
  have hG : GM g A s.heap H locs [wX2 g q3 u4 st0_X2, wX2 g q1 u2 st0_X2, oX7 g o (fun _ => 0) (va_up (va_up (fun _ => none) 0 (some q1)) 1 (some q3))] := hG
  refine lv_aload_n hx hb dX7_init_26 rfl (lv_at hl 0 rfl) ?_
  refine lv_iconst (v := 0) hx hb dX7_init_27 (by decide) ?_
  refine PO_7_19 X hG 2 rfl (by decide) dX7_init_28 (fun H locs hG => ?_)
  have hG : GM g A s.heap H locs [wX2 g q3 u4 st0_X2, wX2 g q1 u2 st0_X2, oX7 g o (va_up (fun _ => 0) 2 0) (va_up (va_up (fun _ => none) 0 (some q1)) 1 (some q3))] := hG
  refine lv_aload_n hx hb dX7_init_31 rfl (lv_at hl 0 rfl) ?_
  refine r_new (ci := 0) (fs := [.int 0, .null, .null, .null]) (C := RX0) (T := TX0) (N := 4) X hG inX0 tyX0 tyX0_ok (TW_at 137 (by decide +kernel) (by decide +kernel)) (TW_at 138 (by decide +kernel) (by decide +kernel)) (TW_at 62 (by decide +kernel) (by decide +kernel)) rfl nfX0 (by show (_ : Nat) ≤ _; decide) (by show (_ : Nat) ≤ _; decide) dX7_init_32 (fun q5 H hG => ?_)
  have hG : GM g A s.heap H locs [wX2 g q3 u4 st0_X2, wX2 g q1 u2 st0_X2, oX7 g o (va_up (fun _ => 0) 2 0) (va_up (va_up (fun _ => none) 0 (some q1)) 1 (some q3)), oX0 g q5 (fun _ => 0) (fun _ => none)] := hG
  refine W.widen (k := 13) (n := 312) (by omega) (by omega) ?_
  refine lv_dup hx hb dX7_init_35 rfl ?_
  refine r_callIN (host := "LastCar") (bc := [oX0 g q5 (fun _ => 0) (fun _ => none)]) (br := [wX2 g q3 u4 st0_X2, wX2 g q1 u2 st0_X2, oX7 g o (va_up (fun _ => 0) 2 0) (va_up (va_up (fun _ => none) 0 (some q1)) 1 (some q3))]) (As := []) (rest := [.ref q5, .ref o]) X hG hl.1 (n_X0 g l q5) ((blk_perm2 [3, 0, 1, 2] 4 rfl rfl (by decide)).flatten) lk_X0_init rfl li_X0_init (NW_at 139 (by decide +kernel) (by decide +kernel)) rfl rfl ⟨Nat.le_of_ble_eq_true rfl, Nat.le_of_ble_eq_true rfl⟩ rfl rfl (Nat.le_of_ble_eq_true rfl) ⟨by show (_ : Nat) ≤ _; decide, by show (_ : Nat) ≤ _; decide⟩ dX7_init_36 (fun u6 H locs hG => ?_)
  have hG : GM g A s.heap H locs [wX0 g q5 u6 st0_X0, wX2 g q3 u4 st0_X2, wX2 g q1 u2 st0_X2, oX7 g o (va_up (fun _ => 0) 2 0) (va_up (va_up (fun _ => none) 0 (some q1)) 1 (some q3))] := hG
  refine W.widen (k := 16) (n := 324) (by omega) (by omega) ?_
  refine PO_7_26 X hmn hG 3 rfl dX7_init_39 (fun H locs hG => ?_)
  have hG : GM g A s.heap H locs [wX0 g q5 u6 st0_X0, wX2 g q3 u4 st0_X2, wX2 g q1 u2 st0_X2, oX7 g o (va_up (fun _ => 0) 2 0) (va_up (va_up (va_up (fun _ => none) 0 (some q1)) 1 (some q3)) 3 (some q5))] := hG
  refine lv_aload_n hx hb dX7_init_42 rfl (lv_at hl 0 rfl) ?_
  refine lv_bipush (v := 8) hx hb dX7_init_43 (by decide) ?_
  refine r_newQ (N' := 8) 5 rfl X hG X.2.2.2.2.2.1.2.2.2.2.2.2.2.2.2.2.2.1 (TW_at 157 (by decide +kernel) (by decide +kernel)) (by decide) (by decide) (by decide) (by show (_ : Nat) ≤ _; decide) (by show (_ : Nat) ≤ _; decide) dX7_init_45 (fun q7 H hG => ?_)
  have hG : GM g A s.heap H locs [wX0 g q5 u6 st0_X0, wX2 g q3 u4 st0_X2, wX2 g q1 u2 st0_X2, oX7 g o (va_up (fun _ => 0) 2 0) (va_up (va_up (va_up (fun _ => none) 0 (some q1)) 1 (some q3)) 3 (some q5)), aQ g 5 q7 8 (fun _ => none)] := hG
  refine W.widen (k := 17) (n := 332) (by omega) (by omega) ?_
  refine PO_7_32 X hmn hG 3 rfl dX7_init_48 (fun H locs hG => ?_)
  have hG : GM g A s.heap H locs [wX0 g q5 u6 st0_X0, wX2 g q3 u4 st0_X2, wX2 g q1 u2 st0_X2, oX7 g o (va_up (fun _ => 0) 2 0) (va_up (va_up (va_up (va_up (fun _ => none) 0 (some q1)) 1 (some q3)) 3 (some q5)) 4 (some q7)), aQ g 5 q7 8 (fun _ => none)] := hG
  refine lv_aload_n hx hb dX7_init_51 rfl (lv_at hl 0 rfl) ?_
  refine lv_iconst (v := 0) hx hb dX7_init_52 (by decide) ?_
  refine PO_7_36 X hG 3 rfl dX7_init_53 (fun H locs hG => ?_)
  have hG : GM g A s.heap H locs [wX0 g q5 u6 st0_X0, wX2 g q3 u4 st0_X2, wX2 g q1 u2 st0_X2, oX7 g o (va_up (va_up (fun _ => 0) 2 0) 5 0) (va_up (va_up (va_up (va_up (fun _ => none) 0 (some q1)) 1 (some q3)) 3 (some q5)) 4 (some q7)), aQ g 5 q7 8 (fun _ => none)] := hG
  refine lv_aload_n hx hb dX7_init_56 rfl (lv_at hl 0 rfl) ?_
  refine r_new (ci := 6) (fs := [.int 0, .int 0, .int 0]) (C := RX6) (T := TX6) (N := 3) X hG inX6 tyX6 tyX6_ok (TW_at 157 (by decide +kernel) (by decide +kernel)) (TW_at 159 (by decide +kernel) (by decide +kernel)) (TW_at 63 (by decide +kernel) (by decide +kernel)) rfl nfX6 (by show (_ : Nat) ≤ _; decide) (by show (_ : Nat) ≤ _; decide) dX7_init_57 (fun q8 H hG => ?_)
  have hG : GM g A s.heap H locs [wX0 g q5 u6 st0_X0, wX2 g q3 u4 st0_X2, wX2 g q1 u2 st0_X2, oX7 g o (va_up (va_up (fun _ => 0) 2 0) 5 0) (va_up (va_up (va_up (va_up (fun _ => none) 0 (some q1)) 1 (some q3)) 3 (some q5)) 4 (some q7)), aQ g 5 q7 8 (fun _ => none), oX6 g q8 (fun _ => 0) (fun _ => none)] := hG
  refine W.widen (k := 18) (n := 335) (by omega) (by omega) ?_
  refine lv_dup hx hb dX7_init_60 rfl ?_
  refine lv_iconst (v := 0) hx hb dX7_init_61 (by decide) ?_
  refine lv_iconst (v := 0) hx hb dX7_init_62 (by decide) ?_
  refine lv_iconst (v := 0) hx hb dX7_init_63 (by decide) ?_
  refine r_callI (bc := [oX6 g q8 (fun _ => 0) (fun _ => none)]) (br := [wX0 g q5 u6 st0_X0, wX2 g q3 u4 st0_X2, wX2 g q1 u2 st0_X2, oX7 g o (va_up (va_up (fun _ => 0) 2 0) 5 0) (va_up (va_up (va_up (va_up (fun _ => none) 0 (some q1)) 1 (some q3)) 3 (some q5)) 4 (some q7)), aQ g 5 q7 8 (fun _ => none)]) (As := [.int 0, .int 0, .int 0]) (rest := [.ref q8, .ref o]) X hG hl.1 (n_X6 g l q8 0 0 0) ((blk_perm2 [5, 0, 1, 2, 3, 4] 6 rfl rfl (by decide)).flatten) lk_X6_init rfl li_X6_init (TW_at 160 (by decide +kernel) (by decide +kernel)) rfl rfl ⟨Nat.le_of_ble_eq_true rfl, Nat.le_of_ble_eq_true rfl⟩ rfl rfl (Nat.le_of_ble_eq_true rfl) ⟨by show (_ : Nat) ≤ _; decide, by show (_ : Nat) ≤ _; decide⟩ dX7_init_64 (fun u9 H locs hG => ?_)
  have hG : GM g A s.heap H locs [wX6 g q8 u9 (st0_X6 0 0 0), wX0 g q5 u6 st0_X0, wX2 g q3 u4 st0_X2, wX2 g q1 u2 st0_X2, oX7 g o (va_up (va_up (fun _ => 0) 2 0) 5 0) (va_up (va_up (va_up (va_up (fun _ => none) 0 (some q1)) 1 (some q3)) 3 (some q5)) 4 (some q7)), aQ g 5 q7 8 (fun _ => none)] := hG
  refine W.widen (k := 18) (n := 335) (by omega) (by omega) ?_
  refine PO_7_43 X hmn hG 4 rfl dX7_init_67 (fun H locs hG => ?_)
  have hG : GM g A s.heap H locs [wX6 g q8 u9 (st0_X6 0 0 0), wX0 g q5 u6 st0_X0, wX2 g q3 u4 st0_X2, wX2 g q1 u2 st0_X2, oX7 g o (va_up (va_up (fun _ => 0) 2 0) 5 0) (va_up (va_up (va_up (va_up (va_up (fun _ => none) 0 (some q1)) 1 (some q3)) 3 (some q5)) 4 (some q7)) 6 (some q8)), aQ g 5 q7 8 (fun _ => none)] := hG
  refine lv_aload_n hx hb dX7_init_70 rfl (lv_at hl 0 rfl) ?_
  refine r_new (ci := 4) (fs := [.null, .int 0, .int 0, .int 0, .int 0, .int 0]) (C := RX4) (T := TX4) (N := 6) X hG inX4 tyX4 tyX4_ok (TW_at 177 (by decide +kernel) (by decide +kernel)) (TW_at 178 (by decide +kernel) (by decide +kernel)) (TW_at 64 (by decide +kernel) (by decide +kernel)) rfl nfX4 (by show (_ : Nat) ≤ _; decide) (by show (_ : Nat) ≤ _; decide) dX7_init_71 (fun q10 H hG => ?_)
  have hG : GM g A s.heap H locs [wX6 g q8 u9 (st0_X6 0 0 0), wX0 g q5 u6 st0_X0, wX2 g q3 u4 st0_X2, wX2 g q1 u2 st0_X2, oX7 g o (va_up (va_up (fun _ => 0) 2 0) 5 0) (va_up (va_up (va_up (va_up (va_up (fun _ => none) 0 (some q1)) 1 (some q3)) 3 (some q5)) 4 (some q7)) 6 (some q8)), aQ g 5 q7 8 (fun _ => none), oX4 g q10 (fun _ => 0) (fun _ => none)] := hG
  refine W.widen (k := 19) (n := 341) (by omega) (by omega) ?_
  refine lv_dup hx hb dX7_init_74 rfl ?_
  refine r_callIN (host := "LastCar") (bc := [oX4 g q10 (fun _ => 0) (fun _ => none)]) (br := [wX6 g q8 u9 (st0_X6 0 0 0), wX0 g q5 u6 st0_X0, wX2 g q3 u4 st0_X2, wX2 g q1 u2 st0_X2, oX7 g o (va_up (va_up (fun _ => 0) 2 0) 5 0) (va_up (va_up (va_up (va_up (va_up (fun _ => none) 0 (some q1)) 1 (some q3)) 3 (some q5)) 4 (some q7)) 6 (some q8)), aQ g 5 q7 8 (fun _ => none)]) (As := []) (rest := [.ref q10, .ref o]) X hG hl.1 (n_X4 g l q10) ((blk_perm2 [6, 0, 1, 2, 3, 4, 5] 7 rfl rfl (by decide)).flatten) lk_X4_init rfl li_X4_init (NW_at 179 (by decide +kernel) (by decide +kernel)) rfl rfl ⟨Nat.le_of_ble_eq_true rfl, Nat.le_of_ble_eq_true rfl⟩ rfl rfl (Nat.le_of_ble_eq_true rfl) ⟨by show (_ : Nat) ≤ _; decide, by show (_ : Nat) ≤ _; decide⟩ dX7_init_75 (fun u11 H locs hG => ?_)
  have hG : GM g A s.heap H locs [wX4 g q10 u11 st0_X4, wX6 g q8 u9 (st0_X6 0 0 0), wX0 g q5 u6 st0_X0, wX2 g q3 u4 st0_X2, wX2 g q1 u2 st0_X2, oX7 g o (va_up (va_up (fun _ => 0) 2 0) 5 0) (va_up (va_up (va_up (va_up (va_up (fun _ => none) 0 (some q1)) 1 (some q3)) 3 (some q5)) 4 (some q7)) 6 (some q8)), aQ g 5 q7 8 (fun _ => none)] := hG
  refine W.widen (k := 20) (n := 501) (by omega) (by omega) ?_
  refine PO_7_50 X hmn hG 5 rfl dX7_init_78 (fun H locs hG => ?_)
  have hG : GM g A s.heap H locs [wX4 g q10 u11 st0_X4, wX6 g q8 u9 (st0_X6 0 0 0), wX0 g q5 u6 st0_X0, wX2 g q3 u4 st0_X2, wX2 g q1 u2 st0_X2, oX7 g o (va_up (va_up (fun _ => 0) 2 0) 5 0) (va_up (va_up (va_up (va_up (va_up (va_up (fun _ => none) 0 (some q1)) 1 (some q3)) 3 (some q5)) 4 (some q7)) 6 (some q8)) 7 (some q10)), aQ g 5 q7 8 (fun _ => none)] := hG
  refine lv_aload_n hx hb dX7_init_81 rfl (lv_at hl 0 rfl) ?_
  refine lv_bipush (v := 6) hx hb dX7_init_82 (by decide) ?_
  refine r_newQ (N' := 6) 3 rfl X hG X.2.2.2.2.2.1.2.2.2.2.2.2.2.2.2.1 (TW_at 203 (by decide +kernel) (by decide +kernel)) (by decide) (by decide) (by decide) (by show (_ : Nat) ≤ _; decide) (by show (_ : Nat) ≤ _; decide) dX7_init_84 (fun q12 H hG => ?_)
  have hG : GM g A s.heap H locs [wX4 g q10 u11 st0_X4, wX6 g q8 u9 (st0_X6 0 0 0), wX0 g q5 u6 st0_X0, wX2 g q3 u4 st0_X2, wX2 g q1 u2 st0_X2, oX7 g o (va_up (va_up (fun _ => 0) 2 0) 5 0) (va_up (va_up (va_up (va_up (va_up (va_up (fun _ => none) 0 (some q1)) 1 (some q3)) 3 (some q5)) 4 (some q7)) 6 (some q8)) 7 (some q10)), aQ g 5 q7 8 (fun _ => none), aQ g 3 q12 6 (fun _ => none)] := hG
  refine W.widen (k := 21) (n := 507) (by omega) (by omega) ?_
  refine PO_7_56 X hmn hG 5 rfl dX7_init_87 (fun H locs hG => ?_)
  have hG : GM g A s.heap H locs [wX4 g q10 u11 st0_X4, wX6 g q8 u9 (st0_X6 0 0 0), wX0 g q5 u6 st0_X0, wX2 g q3 u4 st0_X2, wX2 g q1 u2 st0_X2, oX7 g o (va_up (va_up (fun _ => 0) 2 0) 5 0) (va_up (va_up (va_up (va_up (va_up (va_up (va_up (fun _ => none) 0 (some q1)) 1 (some q3)) 3 (some q5)) 4 (some q7)) 6 (some q8)) 7 (some q10)) 8 (some q12)), aQ g 5 q7 8 (fun _ => none), aQ g 3 q12 6 (fun _ => none)] := hG
  refine lv_aload_n hx hb dX7_init_90 rfl (lv_at hl 0 rfl) ?_
  refine lv_iconst (v := 1) hx hb dX7_init_91 (by decide) ?_
  refine PO_7_60 X hG 5 rfl dX7_init_92 (fun H locs hG => ?_)
  have hG : GM g A s.heap H locs [wX4 g q10 u11 st0_X4, wX6 g q8 u9 (st0_X6 0 0 0), wX0 g q5 u6 st0_X0, wX2 g q3 u4 st0_X2, wX2 g q1 u2 st0_X2, oX7 g o (va_up (va_up (va_up (fun _ => 0) 2 0) 5 0) 9 1) (va_up (va_up (va_up (va_up (va_up (va_up (va_up (fun _ => none) 0 (some q1)) 1 (some q3)) 3 (some q5)) 4 (some q7)) 6 (some q8)) 7 (some q10)) 8 (some q12)), aQ g 5 q7 8 (fun _ => none), aQ g 3 q12 6 (fun _ => none)] := hG
  refine lv_aload_n hx hb dX7_init_95 rfl (lv_at hl 0 rfl) ?_
  refine lv_iconst (v := 4) hx hb dX7_init_96 (by decide) ?_
  refine r_newQ (N' := 4) 4 rfl X hG X.2.2.2.2.2.1.2.2.2.2.2.2.2.2.2.2.1 (TW_at 205 (by decide +kernel) (by decide +kernel)) (by decide) (by decide) (by decide) (by show (_ : Nat) ≤ _; decide) (by show (_ : Nat) ≤ _; decide) dX7_init_97 (fun q13 H hG => ?_)
  have hG : GM g A s.heap H locs [wX4 g q10 u11 st0_X4, wX6 g q8 u9 (st0_X6 0 0 0), wX0 g q5 u6 st0_X0, wX2 g q3 u4 st0_X2, wX2 g q1 u2 st0_X2, oX7 g o (va_up (va_up (va_up (fun _ => 0) 2 0) 5 0) 9 1) (va_up (va_up (va_up (va_up (va_up (va_up (va_up (fun _ => none) 0 (some q1)) 1 (some q3)) 3 (some q5)) 4 (some q7)) 6 (some q8)) 7 (some q10)) 8 (some q12)), aQ g 5 q7 8 (fun _ => none), aQ g 3 q12 6 (fun _ => none), aQ g 4 q13 4 (fun _ => none)] := hG
  refine W.widen (k := 22) (n := 511) (by omega) (by omega) ?_
  refine PO_7_65 X hmn hG 5 rfl dX7_init_100 (fun H locs hG => ?_)
  have hG : GM g A s.heap H locs [wX4 g q10 u11 st0_X4, wX6 g q8 u9 (st0_X6 0 0 0), wX0 g q5 u6 st0_X0, wX2 g q3 u4 st0_X2, wX2 g q1 u2 st0_X2, oX7 g o (va_up (va_up (va_up (fun _ => 0) 2 0) 5 0) 9 1) (va_up (va_up (va_up (va_up (va_up (va_up (va_up (va_up (fun _ => none) 0 (some q1)) 1 (some q3)) 3 (some q5)) 4 (some q7)) 6 (some q8)) 7 (some q10)) 8 (some q12)) 10 (some q13)), aQ g 5 q7 8 (fun _ => none), aQ g 3 q12 6 (fun _ => none), aQ g 4 q13 4 (fun _ => none)] := hG
  refine lv_aload_n hx hb dX7_init_103 rfl (lv_at hl 0 rfl) ?_
  refine r_new (ci := 1) (fs := [.null, .null, .null, .null, .null, .null, .null, .null, .null, .int 0, .null, .int 0, .int 0]) (C := RX1) (T := TX1) (N := 13) X hG inX1 tyX1 tyX1_ok (TW_at 207 (by decide +kernel) (by decide +kernel)) (TW_at 208 (by decide +kernel) (by decide +kernel)) (TW_at 65 (by decide +kernel) (by decide +kernel)) rfl nfX1 (by show (_ : Nat) ≤ _; decide) (by show (_ : Nat) ≤ _; decide) dX7_init_104 (fun q14 H hG => ?_)
  have hG : GM g A s.heap H locs [wX4 g q10 u11 st0_X4, wX6 g q8 u9 (st0_X6 0 0 0), wX0 g q5 u6 st0_X0, wX2 g q3 u4 st0_X2, wX2 g q1 u2 st0_X2, oX7 g o (va_up (va_up (va_up (fun _ => 0) 2 0) 5 0) 9 1) (va_up (va_up (va_up (va_up (va_up (va_up (va_up (va_up (fun _ => none) 0 (some q1)) 1 (some q3)) 3 (some q5)) 4 (some q7)) 6 (some q8)) 7 (some q10)) 8 (some q12)) 10 (some q13)), aQ g 5 q7 8 (fun _ => none), aQ g 3 q12 6 (fun _ => none), aQ g 4 q13 4 (fun _ => none), oX1 g q14 (fun _ => 0) (fun _ => none)] := hG
  refine W.widen (k := 23) (n := 524) (by omega) (by omega) ?_
  refine lv_dup hx hb dX7_init_107 rfl ?_
  refine r_callIN (host := "LastCar") (bc := [oX1 g q14 (fun _ => 0) (fun _ => none)]) (br := [wX4 g q10 u11 st0_X4, wX6 g q8 u9 (st0_X6 0 0 0), wX0 g q5 u6 st0_X0, wX2 g q3 u4 st0_X2, wX2 g q1 u2 st0_X2, oX7 g o (va_up (va_up (va_up (fun _ => 0) 2 0) 5 0) 9 1) (va_up (va_up (va_up (va_up (va_up (va_up (va_up (va_up (fun _ => none) 0 (some q1)) 1 (some q3)) 3 (some q5)) 4 (some q7)) 6 (some q8)) 7 (some q10)) 8 (some q12)) 10 (some q13)), aQ g 5 q7 8 (fun _ => none), aQ g 3 q12 6 (fun _ => none), aQ g 4 q13 4 (fun _ => none)]) (As := []) (rest := [.ref q14, .ref o]) X hG hl.1 (n_X1 g l q14) ((blk_perm2 [9, 0, 1, 2, 3, 4, 5, 6, 7, 8] 10 rfl rfl (by decide)).flatten) lk_X1_init rfl li_X1_init (NW_at 209 (by decide +kernel) (by decide +kernel)) rfl rfl ⟨Nat.le_of_ble_eq_true rfl, Nat.le_of_ble_eq_true rfl⟩ rfl rfl (Nat.le_of_ble_eq_true rfl) ⟨by show (_ : Nat) ≤ _; decide, by show (_ : Nat) ≤ _; decide⟩ dX7_init_108 (fun u15 H locs hG => ?_)
  have hG : GM g A s.heap H locs [wX1 g q14 u15 st0_X1, wF g (u15 3) 6 st0_N, wX4 g q10 u11 st0_X4, wX6 g q8 u9 (st0_X6 0 0 0), wX0 g q5 u6 st0_X0, wX2 g q3 u4 st0_X2, wX2 g q1 u2 st0_X2, oX7 g o (va_up (va_up (va_up (fun _ => 0) 2 0) 5 0) 9 1) (va_up (va_up (va_up (va_up (va_up (va_up (va_up (va_up (fun _ => none) 0 (some q1)) 1 (some q3)) 3 (some q5)) 4 (some q7)) 6 (some q8)) 7 (some q10)) 8 (some q12)) 10 (some q13)), aQ g 5 q7 8 (fun _ => none), aQ g 3 q12 6 (fun _ => none), aQ g 4 q13 4 (fun _ => none)] := hG
  refine W.widen (k := 45) (n := 2270) (by omega) (by omega) ?_
  refine PO_7_72 X hmn hG 7 rfl dX7_init_111 (fun H locs hG => ?_)
  have hG : GM g A s.heap H locs [wX1 g q14 u15 st0_X1, wF g (u15 3) 6 st0_N, wX4 g q10 u11 st0_X4, wX6 g q8 u9 (st0_X6 0 0 0), wX0 g q5 u6 st0_X0, wX2 g q3 u4 st0_X2, wX2 g q1 u2 st0_X2, oX7 g o (va_up (va_up (va_up (fun _ => 0) 2 0) 5 0) 9 1) (va_up (va_up (va_up (va_up (va_up (va_up (va_up (va_up (va_up (fun _ => none) 0 (some q1)) 1 (some q3)) 3 (some q5)) 4 (some q7)) 6 (some q8)) 7 (some q10)) 8 (some q12)) 10 (some q13)) 11 (some q14)), aQ g 5 q7 8 (fun _ => none), aQ g 3 q12 6 (fun _ => none), aQ g 4 q13 4 (fun _ => none)] := hG
  refine lv_aload_n hx hb dX7_init_114 rfl (lv_at hl 0 rfl) ?_
  refine r_get (v := .ref q12) X hG 7 0 rfl rfl rfl 8 (by decide) inX7 (TW_at 458 (by decide +kernel) (by decide +kernel)) rfl dX7_init_115 ?_
  refine lv_iconst (v := 0) hx hb dX7_init_118 (by decide) ?_
  refine r_callSr (bc := []) (br := [wX1 g q14 u15 st0_X1, wF g (u15 3) 6 st0_N, wX4 g q10 u11 st0_X4, wX6 g q8 u9 (st0_X6 0 0 0), wX0 g q5 u6 st0_X0, wX2 g q3 u4 st0_X2, wX2 g q1 u2 st0_X2, oX7 g o (va_up (va_up (va_up (fun _ => 0) 2 0) 5 0) 9 1) (va_up (va_up (va_up (va_up (va_up (va_up (va_up (va_up (va_up (fun _ => none) 0 (some q1)) 1 (some q3)) 3 (some q5)) 4 (some q7)) 6 (some q8)) 7 (some q10)) 8 (some q12)) 10 (some q13)) 11 (some q14)), aQ g 5 q7 8 (fun _ => none), aQ g 3 q12 6 (fun _ => none), aQ g 4 q13 4 (fun _ => none)]) (As := []) (rest := [.int 0, .ref q12]) X hG hl.1 (n_first g l n t0 hf) (List.Perm.refl _) lk_X7_firstRule ls_X7_firstRule (TW_at 258 (by decide +kernel) (by decide +kernel)) rfl rfl ⟨Nat.le_of_ble_eq_true rfl, Nat.le_of_ble_eq_true rfl⟩ rfl rfl (Nat.le_of_ble_eq_true rfl) ⟨by show (_ : Nat) ≤ _; decide, by show (_ : Nat) ≤ _; decide⟩ dX7_init_119 (fun u16 H locs hG => ?_)
  have hG : GM g A s.heap H locs [wX5 g u16.1 u16.2 t0, wX1 g q14 u15 st0_X1, wF g (u15 3) 6 st0_N, wX4 g q10 u11 st0_X4, wX6 g q8 u9 (st0_X6 0 0 0), wX0 g q5 u6 st0_X0, wX2 g q3 u4 st0_X2, wX2 g q1 u2 st0_X2, oX7 g o (va_up (va_up (va_up (fun _ => 0) 2 0) 5 0) 9 1) (va_up (va_up (va_up (va_up (va_up (va_up (va_up (va_up (va_up (fun _ => none) 0 (some q1)) 1 (some q3)) 3 (some q5)) 4 (some q7)) 6 (some q8)) 7 (some q10)) 8 (some q12)) 10 (some q13)) 11 (some q14)), aQ g 5 q7 8 (fun _ => none), aQ g 3 q12 6 (fun _ => none), aQ g 4 q13 4 (fun _ => none)] := hG
  refine W.widen (k := 51) (n := 2764) (by omega) (by omega) ?_
  refine r_aastq (ci := 5) (r := (RX5, TX5, 4)) 3 rfl X hG 10 0 rfl rfl 0 0 rfl rfl rfl (ib_in (by decide)) dX7_init_122 (fun H locs hG => ?_)
  have hG : GM g A s.heap H locs [wX5 g u16.1 u16.2 t0, wX1 g q14 u15 st0_X1, wF g (u15 3) 6 st0_N, wX4 g q10 u11 st0_X4, wX6 g q8 u9 (st0_X6 0 0 0), wX0 g q5 u6 st0_X0, wX2 g q3 u4 st0_X2, wX2 g q1 u2 st0_X2, oX7 g o (va_up (va_up (va_up (fun _ => 0) 2 0) 5 0) 9 1) (va_up (va_up (va_up (va_up (va_up (va_up (va_up (va_up (va_up (fun _ => none) 0 (some q1)) 1 (some q3)) 3 (some q5)) 4 (some q7)) 6 (some q8)) 7 (some q10)) 8 (some q12)) 10 (some q13)) 11 (some q14)), aQ g 5 q7 8 (fun _ => none), aQ g 3 q12 6 (va_up (fun _ => none) 0 (some u16.1)), aQ g 4 q13 4 (fun _ => none)] := hG
  refine lv_iconst (v := 1) hx hb dX7_init_123 (by decide) ?_
  refine lv_istore_n (lv' := [(1, .int 1), (0, .ref o)]) hx hb dX7_init_124 rfl hl (by decide) rfl (fun ls hl => ?_)
  refine lv_iload_n hx hb dX7_init_125 rfl (lv_at hl 0 rfl) ?_
  refine lv_bipush (v := 6) hx hb dX7_init_126 (by decide) ?_
  refine lv_icmp_ge (tgt := 150) hx hb dX7_init_128 (by decide) (fun hc => absurd hc (by decide)) (fun hc => ?_)
  refine lv_aload_n hx hb dX7_init_131 rfl (lv_at hl 1 rfl) ?_
  refine r_get (v := .ref q12) X hG 8 0 rfl rfl rfl 8 (by decide) inX7 (TW_at 458 (by decide +kernel) (by decide +kernel)) rfl dX7_init_132 ?_
  refine lv_iload_n hx hb dX7_init_135 rfl (lv_at hl 0 rfl) ?_
  refine r_new (ci := 5) (fs := [.null, .null, .null, .int 0]) (C := RX5) (T := TX5) (N := 4) X hG inX5 tyX5 tyX5_ok (TW_at 203 (by decide +kernel) (by decide +kernel)) (TW_at 261 (by decide +kernel) (by decide +kernel)) (TW_at 66 (by decide +kernel) (by decide +kernel)) rfl nfX5 (by show (_ : Nat) ≤ _; decide) (by show (_ : Nat) ≤ _; decide) dX7_init_136 (fun q17 H hG => ?_)
  have hG : GM g A s.heap H locs [wX5 g u16.1 u16.2 t0, wX1 g q14 u15 st0_X1, wF g (u15 3) 6 st0_N, wX4 g q10 u11 st0_X4, wX6 g q8 u9 (st0_X6 0 0 0), wX0 g q5 u6 st0_X0, wX2 g q3 u4 st0_X2, wX2 g q1 u2 st0_X2, oX7 g o (va_up (va_up (va_up (fun _ => 0) 2 0) 5 0) 9 1) (va_up (va_up (va_up (va_up (va_up (va_up (va_up (va_up (va_up (fun _ => none) 0 (some q1)) 1 (some q3)) 3 (some q5)) 4 (some q7)) 6 (some q8)) 7 (some q10)) 8 (some q12)) 10 (some q13)) 11 (some q14)), aQ g 5 q7 8 (fun _ => none), aQ g 3 q12 6 (va_up (fun _ => none) 0 (some u16.1)), aQ g 4 q13 4 (fun _ => none), oX5 g q17 (fun _ => 0) (fun _ => none)] := hG
  refine W.widen (k := 52) (n := 2768) (by omega) (by omega) ?_
  refine lv_dup hx hb dX7_init_139 rfl ?_
  refine r_callIN (host := "LastCar") (bc := [oX5 g q17 (fun _ => 0) (fun _ => none)]) (br := [wX5 g u16.1 u16.2 t0, wX1 g q14 u15 st0_X1, wF g (u15 3) 6 st0_N, wX4 g q10 u11 st0_X4, wX6 g q8 u9 (st0_X6 0 0 0), wX0 g q5 u6 st0_X0, wX2 g q3 u4 st0_X2, wX2 g q1 u2 st0_X2, oX7 g o (va_up (va_up (va_up (fun _ => 0) 2 0) 5 0) 9 1) (va_up (va_up (va_up (va_up (va_up (va_up (va_up (va_up (va_up (fun _ => none) 0 (some q1)) 1 (some q3)) 3 (some q5)) 4 (some q7)) 6 (some q8)) 7 (some q10)) 8 (some q12)) 10 (some q13)) 11 (some q14)), aQ g 5 q7 8 (fun _ => none), aQ g 3 q12 6 (va_up (fun _ => none) 0 (some u16.1)), aQ g 4 q13 4 (fun _ => none)]) (As := []) (rest := [.ref q17, .int 1, .ref q12]) X hG hl.1 (n_X5 g l q17) ((blk_perm2 [12, 0, 1, 2, 3, 4, 5, 6, 7, 8, 9, 10, 11] 13 rfl rfl (by decide)).flatten) lk_X5_init rfl li_X5_init (NW_at 262 (by decide +kernel) (by decide +kernel)) rfl rfl ⟨Nat.le_of_ble_eq_true rfl, Nat.le_of_ble_eq_true rfl⟩ rfl rfl (Nat.le_of_ble_eq_true rfl) ⟨by show (_ : Nat) ≤ _; decide, by show (_ : Nat) ≤ _; decide⟩ dX7_init_140 (fun u18 H locs hG => ?_)
  have hG : GM g A s.heap H locs [wX5 g q17 u18 st0_X5, wX5 g u16.1 u16.2 t0, wX1 g q14 u15 st0_X1, wF g (u15 3) 6 st0_N, wX4 g q10 u11 st0_X4, wX6 g q8 u9 (st0_X6 0 0 0), wX0 g q5 u6 st0_X0, wX2 g q3 u4 st0_X2, wX2 g q1 u2 st0_X2, oX7 g o (va_up (va_up (va_up (fun _ => 0) 2 0) 5 0) 9 1) (va_up (va_up (va_up (va_up (va_up (va_up (va_up (va_up (va_up (fun _ => none) 0 (some q1)) 1 (some q3)) 3 (some q5)) 4 (some q7)) 6 (some q8)) 7 (some q10)) 8 (some q12)) 10 (some q13)) 11 (some q14)), aQ g 5 q7 8 (fun _ => none), aQ g 3 q12 6 (va_up (fun _ => none) 0 (some u16.1)), aQ g 4 q13 4 (fun _ => none)] := hG
  refine W.widen (k := 55) (n := 3092) (by omega) (by omega) ?_
  refine r_aastq (ci := 5) (r := (RX5, TX5, 4)) 3 rfl X hG 11 0 rfl rfl 0 0 rfl rfl rfl (ib_in (by decide)) dX7_init_143 (fun H locs hG => ?_)
  have hG : GM g A s.heap H locs [wX5 g q17 u18 st0_X5, wX5 g u16.1 u16.2 t0, wX1 g q14 u15 st0_X1, wF g (u15 3) 6 st0_N, wX4 g q10 u11 st0_X4, wX6 g q8 u9 (st0_X6 0 0 0), wX0 g q5 u6 st0_X0, wX2 g q3 u4 st0_X2, wX2 g q1 u2 st0_X2, oX7 g o (va_up (va_up (va_up (fun _ => 0) 2 0) 5 0) 9 1) (va_up (va_up (va_up (va_up (va_up (va_up (va_up (va_up (va_up (fun _ => none) 0 (some q1)) 1 (some q3)) 3 (some q5)) 4 (some q7)) 6 (some q8)) 7 (some q10)) 8 (some q12)) 10 (some q13)) 11 (some q14)), aQ g 5 q7 8 (fun _ => none), aQ g 3 q12 6 (va_up (va_up (fun _ => none) 0 (some u16.1)) 1 (some q17)), aQ g 4 q13 4 (fun _ => none)] := hG
  refine lv_iinc (v := 2) (lv' := [(1, .int 2), (0, .ref o)]) hx hb dX7_init_144 hl (k := 0) rfl (by decide) (by decide) rfl (fun ls hl => ?_)
  refine lv_goto (tgt := 125) hx hb dX7_init_147 (by decide) ?_
  refine lv_iload_n hx hb dX7_init_125 rfl (lv_at hl 0 rfl) ?_
  refine lv_bipush (v := 6) hx hb dX7_init_126 (by decide) ?_
  refine lv_icmp_ge (tgt := 150) hx hb dX7_init_128 (by decide) (fun hc => absurd hc (by decide)) (fun hc => ?_)
  refine lv_aload_n hx hb dX7_init_131 rfl (lv_at hl 1 rfl) ?_
  refine r_get (v := .ref q12) X hG 9 0 rfl rfl rfl 8 (by decide) inX7 (TW_at 458 (by decide +kernel) (by decide +kernel)) rfl dX7_init_132 ?_
  refine lv_iload_n hx hb dX7_init_135 rfl (lv_at hl 0 rfl) ?_
  refine r_new (ci := 5) (fs := [.null, .null, .null, .int 0]) (C := RX5) (T := TX5) (N := 4) X hG inX5 tyX5 tyX5_ok (TW_at 203 (by decide +kernel) (by decide +kernel)) (TW_at 261 (by decide +kernel) (by decide +kernel)) (TW_at 66 (by decide +kernel) (by decide +kernel)) rfl nfX5 (by show (_ : Nat) ≤ _; decide) (by show (_ : Nat) ≤ _; decide) dX7_init_136 (fun q19 H hG => ?_)
  have hG : GM g A s.heap H locs [wX5 g q17 u18 st0_X5, wX5 g u16.1 u16.2 t0, wX1 g q14 u15 st0_X1, wF g (u15 3) 6 st0_N, wX4 g q10 u11 st0_X4, wX6 g q8 u9 (st0_X6 0 0 0), wX0 g q5 u6 st0_X0, wX2 g q3 u4 st0_X2, wX2 g q1 u2 st0_X2, oX7 g o (va_up (va_up (va_up (fun _ => 0) 2 0) 5 0) 9 1) (va_up (va_up (va_up (va_up (va_up (va_up (va_up (va_up (va_up (fun _ => none) 0 (some q1)) 1 (some q3)) 3 (some q5)) 4 (some q7)) 6 (some q8)) 7 (some q10)) 8 (some q12)) 10 (some q13)) 11 (some q14)), aQ g 5 q7 8 (fun _ => none), aQ g 3 q12 6 (va_up (va_up (fun _ => none) 0 (some u16.1)) 1 (some q17)), aQ g 4 q13 4 (fun _ => none), oX5 g q19 (fun _ => 0) (fun _ => none)] := hG
  refine W.widen (k := 56) (n := 3096) (by omega) (by omega) ?_
  refine lv_dup hx hb dX7_init_139 rfl ?_
  refine r_callIN (host := "LastCar") (bc := [oX5 g q19 (fun _ => 0) (fun _ => none)]) (br := [wX5 g q17 u18 st0_X5, wX5 g u16.1 u16.2 t0, wX1 g q14 u15 st0_X1, wF g (u15 3) 6 st0_N, wX4 g q10 u11 st0_X4, wX6 g q8 u9 (st0_X6 0 0 0), wX0 g q5 u6 st0_X0, wX2 g q3 u4 st0_X2, wX2 g q1 u2 st0_X2, oX7 g o (va_up (va_up (va_up (fun _ => 0) 2 0) 5 0) 9 1) (va_up (va_up (va_up (va_up (va_up (va_up (va_up (va_up (va_up (fun _ => none) 0 (some q1)) 1 (some q3)) 3 (some q5)) 4 (some q7)) 6 (some q8)) 7 (some q10)) 8 (some q12)) 10 (some q13)) 11 (some q14)), aQ g 5 q7 8 (fun _ => none), aQ g 3 q12 6 (va_up (va_up (fun _ => none) 0 (some u16.1)) 1 (some q17)), aQ g 4 q13 4 (fun _ => none)]) (As := []) (rest := [.ref q19, .int 2, .ref q12]) X hG hl.1 (n_X5 g l q19) ((blk_perm2 [13, 0, 1, 2, 3, 4, 5, 6, 7, 8, 9, 10, 11, 12] 14 rfl rfl (by decide)).flatten) lk_X5_init rfl li_X5_init (NW_at 262 (by decide +kernel) (by decide +kernel)) rfl rfl ⟨Nat.le_of_ble_eq_true rfl, Nat.le_of_ble_eq_true rfl⟩ rfl rfl (Nat.le_of_ble_eq_true rfl) ⟨by show (_ : Nat) ≤ _; decide, by show (_ : Nat) ≤ _; decide⟩ dX7_init_140 (fun u20 H locs hG => ?_)
  have hG : GM g A s.heap H locs [wX5 g q19 u20 st0_X5, wX5 g q17 u18 st0_X5, wX5 g u16.1 u16.2 t0, wX1 g q14 u15 st0_X1, wF g (u15 3) 6 st0_N, wX4 g q10 u11 st0_X4, wX6 g q8 u9 (st0_X6 0 0 0), wX0 g q5 u6 st0_X0, wX2 g q3 u4 st0_X2, wX2 g q1 u2 st0_X2, oX7 g o (va_up (va_up (va_up (fun _ => 0) 2 0) 5 0) 9 1) (va_up (va_up (va_up (va_up (va_up (va_up (va_up (va_up (va_up (fun _ => none) 0 (some q1)) 1 (some q3)) 3 (some q5)) 4 (some q7)) 6 (some q8)) 7 (some q10)) 8 (some q12)) 10 (some q13)) 11 (some q14)), aQ g 5 q7 8 (fun _ => none), aQ g 3 q12 6 (va_up (va_up (fun _ => none) 0 (some u16.1)) 1 (some q17)), aQ g 4 q13 4 (fun _ => none)] := hG
  refine W.widen (k := 59) (n := 3420) (by omega) (by omega) ?_
  refine r_aastq (ci := 5) (r := (RX5, TX5, 4)) 3 rfl X hG 12 0 rfl rfl 0 0 rfl rfl rfl (ib_in (by decide)) dX7_init_143 (fun H locs hG => ?_)
  have hG : GM g A s.heap H locs [wX5 g q19 u20 st0_X5, wX5 g q17 u18 st0_X5, wX5 g u16.1 u16.2 t0, wX1 g q14 u15 st0_X1, wF g (u15 3) 6 st0_N, wX4 g q10 u11 st0_X4, wX6 g q8 u9 (st0_X6 0 0 0), wX0 g q5 u6 st0_X0, wX2 g q3 u4 st0_X2, wX2 g q1 u2 st0_X2, oX7 g o (va_up (va_up (va_up (fun _ => 0) 2 0) 5 0) 9 1) (va_up (va_up (va_up (va_up (va_up (va_up (va_up (va_up (va_up (fun _ => none) 0 (some q1)) 1 (some q3)) 3 (some q5)) 4 (some q7)) 6 (some q8)) 7 (some q10)) 8 (some q12)) 10 (some q13)) 11 (some q14)), aQ g 5 q7 8 (fun _ => none), aQ g 3 q12 6 (va_up (va_up (va_up (fun _ => none) 0 (some u16.1)) 1 (some q17)) 2 (some q19)), aQ g 4 q13 4 (fun _ => none)] := hG
  refine lv_iinc (v := 3) (lv' := [(1, .int 3), (0, .ref o)]) hx hb dX7_init_144 hl (k := 0) rfl (by decide) (by decide) rfl (fun ls hl => ?_)
  refine lv_goto (tgt := 125) hx hb dX7_init_147 (by decide) ?_
  refine lv_iload_n hx hb dX7_init_125 rfl (lv_at hl 0 rfl) ?_
  refine lv_bipush (v := 6) hx hb dX7_init_126 (by decide) ?_
  refine lv_icmp_ge (tgt := 150) hx hb dX7_init_128 (by decide) (fun hc => absurd hc (by decide)) (fun hc => ?_)
  refine lv_aload_n hx hb dX7_init_131 rfl (lv_at hl 1 rfl) ?_
  refine r_get (v := .ref q12) X hG 10 0 rfl rfl rfl 8 (by decide) inX7 (TW_at 458 (by decide +kernel) (by decide +kernel)) rfl dX7_init_132 ?_
  refine lv_iload_n hx hb dX7_init_135 rfl (lv_at hl 0 rfl) ?_
  refine r_new (ci := 5) (fs := [.null, .null, .null, .int 0]) (C := RX5) (T := TX5) (N := 4) X hG inX5 tyX5 tyX5_ok (TW_at 203 (by decide +kernel) (by decide +kernel)) (TW_at 261 (by decide +kernel) (by decide +kernel)) (TW_at 66 (by decide +kernel) (by decide +kernel)) rfl nfX5 (by show (_ : Nat) ≤ _; decide) (by show (_ : Nat) ≤ _; decide) dX7_init_136 (fun q21 H hG => ?_)
  have hG : GM g A s.heap H locs [wX5 g q19 u20 st0_X5, wX5 g q17 u18 st0_X5, wX5 g u16.1 u16.2 t0, wX1 g q14 u15 st0_X1, wF g (u15 3) 6 st0_N, wX4 g q10 u11 st0_X4, wX6 g q8 u9 (st0_X6 0 0 0), wX0 g q5 u6 st0_X0, wX2 g q3 u4 st0_X2, wX2 g q1 u2 st0_X2, oX7 g o (va_up (va_up (va_up (fun _ => 0) 2 0) 5 0) 9 1) (va_up (va_up (va_up (va_up (va_up (va_up (va_up (va_up (va_up (fun _ => none) 0 (some q1)) 1 (some q3)) 3 (some q5)) 4 (some q7)) 6 (some q8)) 7 (some q10)) 8 (some q12)) 10 (some q13)) 11 (some q14)), aQ g 5 q7 8 (fun _ => none), aQ g 3 q12 6 (va_up (va_up (va_up (fun _ => none) 0 (some u16.1)) 1 (some q17)) 2 (some q19)), aQ g 4 q13 4 (fun _ => none), oX5 g q21 (fun _ => 0) (fun _ => none)] := hG
  refine W.widen (k := 60) (n := 3424) (by omega) (by omega) ?_
  refine lv_dup hx hb dX7_init_139 rfl ?_
  refine r_callIN (host := "LastCar") (bc := [oX5 g q21 (fun _ => 0) (fun _ => none)]) (br := [wX5 g q19 u20 st0_X5, wX5 g q17 u18 st0_X5, wX5 g u16.1 u16.2 t0, wX1 g q14 u15 st0_X1, wF g (u15 3) 6 st0_N, wX4 g q10 u11 st0_X4, wX6 g q8 u9 (st0_X6 0 0 0), wX0 g q5 u6 st0_X0, wX2 g q3 u4 st0_X2, wX2 g q1 u2 st0_X2, oX7 g o (va_up (va_up (va_up (fun _ => 0) 2 0) 5 0) 9 1) (va_up (va_up (va_up (va_up (va_up (va_up (va_up (va_up (va_up (fun _ => none) 0 (some q1)) 1 (some q3)) 3 (some q5)) 4 (some q7)) 6 (some q8)) 7 (some q10)) 8 (some q12)) 10 (some q13)) 11 (some q14)), aQ g 5 q7 8 (fun _ => none), aQ g 3 q12 6 (va_up (va_up (va_up (fun _ => none) 0 (some u16.1)) 1 (some q17)) 2 (some q19)), aQ g 4 q13 4 (fun _ => none)]) (As := []) (rest := [.ref q21, .int 3, .ref q12]) X hG hl.1 (n_X5 g l q21) ((blk_perm2 [14, 0, 1, 2, 3, 4, 5, 6, 7, 8, 9, 10, 11, 12, 13] 15 rfl rfl (by decide)).flatten) lk_X5_init rfl li_X5_init (NW_at 262 (by decide +kernel) (by decide +kernel)) rfl rfl ⟨Nat.le_of_ble_eq_true rfl, Nat.le_of_ble_eq_true rfl⟩ rfl rfl (Nat.le_of_ble_eq_true rfl) ⟨by show (_ : Nat) ≤ _; decide, by show (_ : Nat) ≤ _; decide⟩ dX7_init_140 (fun u22 H locs hG => ?_)
  have hG : GM g A s.heap H locs [wX5 g q21 u22 st0_X5, wX5 g q19 u20 st0_X5, wX5 g q17 u18 st0_X5, wX5 g u16.1 u16.2 t0, wX1 g q14 u15 st0_X1, wF g (u15 3) 6 st0_N, wX4 g q10 u11 st0_X4, wX6 g q8 u9 (st0_X6 0 0 0), wX0 g q5 u6 st0_X0, wX2 g q3 u4 st0_X2, wX2 g q1 u2 st0_X2, oX7 g o (va_up (va_up (va_up (fun _ => 0) 2 0) 5 0) 9 1) (va_up (va_up (va_up (va_up (va_up (va_up (va_up (va_up (va_up (fun _ => none) 0 (some q1)) 1 (some q3)) 3 (some q5)) 4 (some q7)) 6 (some q8)) 7 (some q10)) 8 (some q12)) 10 (some q13)) 11 (some q14)), aQ g 5 q7 8 (fun _ => none), aQ g 3 q12 6 (va_up (va_up (va_up (fun _ => none) 0 (some u16.1)) 1 (some q17)) 2 (some q19)), aQ g 4 q13 4 (fun _ => none)] := hG
  refine W.widen (k := 63) (n := 3748) (by omega) (by omega) ?_
  refine r_aastq (ci := 5) (r := (RX5, TX5, 4)) 3 rfl X hG 13 0 rfl rfl 0 0 rfl rfl rfl (ib_in (by decide)) dX7_init_143 (fun H locs hG => ?_)
  have hG : GM g A s.heap H locs [wX5 g q21 u22 st0_X5, wX5 g q19 u20 st0_X5, wX5 g q17 u18 st0_X5, wX5 g u16.1 u16.2 t0, wX1 g q14 u15 st0_X1, wF g (u15 3) 6 st0_N, wX4 g q10 u11 st0_X4, wX6 g q8 u9 (st0_X6 0 0 0), wX0 g q5 u6 st0_X0, wX2 g q3 u4 st0_X2, wX2 g q1 u2 st0_X2, oX7 g o (va_up (va_up (va_up (fun _ => 0) 2 0) 5 0) 9 1) (va_up (va_up (va_up (va_up (va_up (va_up (va_up (va_up (va_up (fun _ => none) 0 (some q1)) 1 (some q3)) 3 (some q5)) 4 (some q7)) 6 (some q8)) 7 (some q10)) 8 (some q12)) 10 (some q13)) 11 (some q14)), aQ g 5 q7 8 (fun _ => none), aQ g 3 q12 6 (va_up (va_up (va_up (va_up (fun _ => none) 0 (some u16.1)) 1 (some q17)) 2 (some q19)) 3 (some q21)), aQ g 4 q13 4 (fun _ => none)] := hG
  refine lv_iinc (v := 4) (lv' := [(1, .int 4), (0, .ref o)]) hx hb dX7_init_144 hl (k := 0) rfl (by decide) (by decide) rfl (fun ls hl => ?_)
  refine lv_goto (tgt := 125) hx hb dX7_init_147 (by decide) ?_
  refine lv_iload_n hx hb dX7_init_125 rfl (lv_at hl 0 rfl) ?_
  refine lv_bipush (v := 6) hx hb dX7_init_126 (by decide) ?_
  refine lv_icmp_ge (tgt := 150) hx hb dX7_init_128 (by decide) (fun hc => absurd hc (by decide)) (fun hc => ?_)
  refine lv_aload_n hx hb dX7_init_131 rfl (lv_at hl 1 rfl) ?_
  refine r_get (v := .ref q12) X hG 11 0 rfl rfl rfl 8 (by decide) inX7 (TW_at 458 (by decide +kernel) (by decide +kernel)) rfl dX7_init_132 ?_
  refine lv_iload_n hx hb dX7_init_135 rfl (lv_at hl 0 rfl) ?_
  refine r_new (ci := 5) (fs := [.null, .null, .null, .int 0]) (C := RX5) (T := TX5) (N := 4) X hG inX5 tyX5 tyX5_ok (TW_at 203 (by decide +kernel) (by decide +kernel)) (TW_at 261 (by decide +kernel) (by decide +kernel)) (TW_at 66 (by decide +kernel) (by decide +kernel)) rfl nfX5 (by show (_ : Nat) ≤ _; decide) (by show (_ : Nat) ≤ _; decide) dX7_init_136 (fun q23 H hG => ?_)
  have hG : GM g A s.heap H locs [wX5 g q21 u22 st0_X5, wX5 g q19 u20 st0_X5, wX5 g q17 u18 st0_X5, wX5 g u16.1 u16.2 t0, wX1 g q14 u15 st0_X1, wF g (u15 3) 6 st0_N, wX4 g q10 u11 st0_X4, wX6 g q8 u9 (st0_X6 0 0 0), wX0 g q5 u6 st0_X0, wX2 g q3 u4 st0_X2, wX2 g q1 u2 st0_X2, oX7 g o (va_up (va_up (va_up (fun _ => 0) 2 0) 5 0) 9 1) (va_up (va_up (va_up (va_up (va_up (va_up (va_up (va_up (va_up (fun _ => none) 0 (some q1)) 1 (some q3)) 3 (some q5)) 4 (some q7)) 6 (some q8)) 7 (some q10)) 8 (some q12)) 10 (some q13)) 11 (some q14)), aQ g 5 q7 8 (fun _ => none), aQ g 3 q12 6 (va_up (va_up (va_up (va_up (fun _ => none) 0 (some u16.1)) 1 (some q17)) 2 (some q19)) 3 (some q21)), aQ g 4 q13 4 (fun _ => none), oX5 g q23 (fun _ => 0) (fun _ => none)] := hG
  refine W.widen (k := 64) (n := 3752) (by omega) (by omega) ?_
  refine lv_dup hx hb dX7_init_139 rfl ?_
  refine r_callIN (host := "LastCar") (bc := [oX5 g q23 (fun _ => 0) (fun _ => none)]) (br := [wX5 g q21 u22 st0_X5, wX5 g q19 u20 st0_X5, wX5 g q17 u18 st0_X5, wX5 g u16.1 u16.2 t0, wX1 g q14 u15 st0_X1, wF g (u15 3) 6 st0_N, wX4 g q10 u11 st0_X4, wX6 g q8 u9 (st0_X6 0 0 0), wX0 g q5 u6 st0_X0, wX2 g q3 u4 st0_X2, wX2 g q1 u2 st0_X2, oX7 g o (va_up (va_up (va_up (fun _ => 0) 2 0) 5 0) 9 1) (va_up (va_up (va_up (va_up (va_up (va_up (va_up (va_up (va_up (fun _ => none) 0 (some q1)) 1 (some q3)) 3 (some q5)) 4 (some q7)) 6 (some q8)) 7 (some q10)) 8 (some q12)) 10 (some q13)) 11 (some q14)), aQ g 5 q7 8 (fun _ => none), aQ g 3 q12 6 (va_up (va_up (va_up (va_up (fun _ => none) 0 (some u16.1)) 1 (some q17)) 2 (some q19)) 3 (some q21)), aQ g 4 q13 4 (fun _ => none)]) (As := []) (rest := [.ref q23, .int 4, .ref q12]) X hG hl.1 (n_X5 g l q23) ((blk_perm2 [15, 0, 1, 2, 3, 4, 5, 6, 7, 8, 9, 10, 11, 12, 13, 14] 16 rfl rfl (by decide)).flatten) lk_X5_init rfl li_X5_init (NW_at 262 (by decide +kernel) (by decide +kernel)) rfl rfl ⟨Nat.le_of_ble_eq_true rfl, Nat.le_of_ble_eq_true rfl⟩ rfl rfl (Nat.le_of_ble_eq_true rfl) ⟨by show (_ : Nat) ≤ _; decide, by show (_ : Nat) ≤ _; decide⟩ dX7_init_140 (fun u24 H locs hG => ?_)
  have hG : GM g A s.heap H locs [wX5 g q23 u24 st0_X5, wX5 g q21 u22 st0_X5, wX5 g q19 u20 st0_X5, wX5 g q17 u18 st0_X5, wX5 g u16.1 u16.2 t0, wX1 g q14 u15 st0_X1, wF g (u15 3) 6 st0_N, wX4 g q10 u11 st0_X4, wX6 g q8 u9 (st0_X6 0 0 0), wX0 g q5 u6 st0_X0, wX2 g q3 u4 st0_X2, wX2 g q1 u2 st0_X2, oX7 g o (va_up (va_up (va_up (fun _ => 0) 2 0) 5 0) 9 1) (va_up (va_up (va_up (va_up (va_up (va_up (va_up (va_up (va_up (fun _ => none) 0 (some q1)) 1 (some q3)) 3 (some q5)) 4 (some q7)) 6 (some q8)) 7 (some q10)) 8 (some q12)) 10 (some q13)) 11 (some q14)), aQ g 5 q7 8 (fun _ => none), aQ g 3 q12 6 (va_up (va_up (va_up (va_up (fun _ => none) 0 (some u16.1)) 1 (some q17)) 2 (some q19)) 3 (some q21)), aQ g 4 q13 4 (fun _ => none)] := hG
  refine W.widen (k := 67) (n := 4076) (by omega) (by omega) ?_
  refine r_aastq (ci := 5) (r := (RX5, TX5, 4)) 3 rfl X hG 14 0 rfl rfl 0 0 rfl rfl rfl (ib_in (by decide)) dX7_init_143 (fun H locs hG => ?_)
  have hG : GM g A s.heap H locs [wX5 g q23 u24 st0_X5, wX5 g q21 u22 st0_X5, wX5 g q19 u20 st0_X5, wX5 g q17 u18 st0_X5, wX5 g u16.1 u16.2 t0, wX1 g q14 u15 st0_X1, wF g (u15 3) 6 st0_N, wX4 g q10 u11 st0_X4, wX6 g q8 u9 (st0_X6 0 0 0), wX0 g q5 u6 st0_X0, wX2 g q3 u4 st0_X2, wX2 g q1 u2 st0_X2, oX7 g o (va_up (va_up (va_up (fun _ => 0) 2 0) 5 0) 9 1) (va_up (va_up (va_up (va_up (va_up (va_up (va_up (va_up (va_up (fun _ => none) 0 (some q1)) 1 (some q3)) 3 (some q5)) 4 (some q7)) 6 (some q8)) 7 (some q10)) 8 (some q12)) 10 (some q13)) 11 (some q14)), aQ g 5 q7 8 (fun _ => none), aQ g 3 q12 6 (va_up (va_up (va_up (va_up (va_up (fun _ => none) 0 (some u16.1)) 1 (some q17)) 2 (some q19)) 3 (some q21)) 4 (some q23)), aQ g 4 q13 4 (fun _ => none)] := hG
  refine lv_iinc (v := 5) (lv' := [(1, .int 5), (0, .ref o)]) hx hb dX7_init_144 hl (k := 0) rfl (by decide) (by decide) rfl (fun ls hl => ?_)
  refine lv_goto (tgt := 125) hx hb dX7_init_147 (by decide) ?_
  refine lv_iload_n hx hb dX7_init_125 rfl (lv_at hl 0 rfl) ?_
  refine lv_bipush (v := 6) hx hb dX7_init_126 (by decide) ?_
  refine lv_icmp_ge (tgt := 150) hx hb dX7_init_128 (by decide) (fun hc => absurd hc (by decide)) (fun hc => ?_)
  refine lv_aload_n hx hb dX7_init_131 rfl (lv_at hl 1 rfl) ?_
  refine r_get (v := .ref q12) X hG 12 0 rfl rfl rfl 8 (by decide) inX7 (TW_at 458 (by decide +kernel) (by decide +kernel)) rfl dX7_init_132 ?_
  refine lv_iload_n hx hb dX7_init_135 rfl (lv_at hl 0 rfl) ?_
  refine r_new (ci := 5) (fs := [.null, .null, .null, .int 0]) (C := RX5) (T := TX5) (N := 4) X hG inX5 tyX5 tyX5_ok (TW_at 203 (by decide +kernel) (by decide +kernel)) (TW_at 261 (by decide +kernel) (by decide +kernel)) (TW_at 66 (by decide +kernel) (by decide +kernel)) rfl nfX5 (by show (_ : Nat) ≤ _; decide) (by show (_ : Nat) ≤ _; decide) dX7_init_136 (fun q25 H hG => ?_)
  have hG : GM g A s.heap H locs [wX5 g q23 u24 st0_X5, wX5 g q21 u22 st0_X5, wX5 g q19 u20 st0_X5, wX5 g q17 u18 st0_X5, wX5 g u16.1 u16.2 t0, wX1 g q14 u15 st0_X1, wF g (u15 3) 6 st0_N, wX4 g q10 u11 st0_X4, wX6 g q8 u9 (st0_X6 0 0 0), wX0 g q5 u6 st0_X0, wX2 g q3 u4 st0_X2, wX2 g q1 u2 st0_X2, oX7 g o (va_up (va_up (va_up (fun _ => 0) 2 0) 5 0) 9 1) (va_up (va_up (va_up (va_up (va_up (va_up (va_up (va_up (va_up (fun _ => none) 0 (some q1)) 1 (some q3)) 3 (some q5)) 4 (some q7)) 6 (some q8)) 7 (some q10)) 8 (some q12)) 10 (some q13)) 11 (some q14)), aQ g 5 q7 8 (fun _ => none), aQ g 3 q12 6 (va_up (va_up (va_up (va_up (va_up (fun _ => none) 0 (some u16.1)) 1 (some q17)) 2 (some q19)) 3 (some q21)) 4 (some q23)), aQ g 4 q13 4 (fun _ => none), oX5 g q25 (fun _ => 0) (fun _ => none)] := hG
  refine W.widen (k := 68) (n := 4080) (by omega) (by omega) ?_
  refine lv_dup hx hb dX7_init_139 rfl ?_
  refine r_callIN (host := "LastCar") (bc := [oX5 g q25 (fun _ => 0) (fun _ => none)]) (br := [wX5 g q23 u24 st0_X5, wX5 g q21 u22 st0_X5, wX5 g q19 u20 st0_X5, wX5 g q17 u18 st0_X5, wX5 g u16.1 u16.2 t0, wX1 g q14 u15 st0_X1, wF g (u15 3) 6 st0_N, wX4 g q10 u11 st0_X4, wX6 g q8 u9 (st0_X6 0 0 0), wX0 g q5 u6 st0_X0, wX2 g q3 u4 st0_X2, wX2 g q1 u2 st0_X2, oX7 g o (va_up (va_up (va_up (fun _ => 0) 2 0) 5 0) 9 1) (va_up (va_up (va_up (va_up (va_up (va_up (va_up (va_up (va_up (fun _ => none) 0 (some q1)) 1 (some q3)) 3 (some q5)) 4 (some q7)) 6 (some q8)) 7 (some q10)) 8 (some q12)) 10 (some q13)) 11 (some q14)), aQ g 5 q7 8 (fun _ => none), aQ g 3 q12 6 (va_up (va_up (va_up (va_up (va_up (fun _ => none) 0 (some u16.1)) 1 (some q17)) 2 (some q19)) 3 (some q21)) 4 (some q23)), aQ g 4 q13 4 (fun _ => none)]) (As := []) (rest := [.ref q25, .int 5, .ref q12]) X hG hl.1 (n_X5 g l q25) ((blk_perm2 [16, 0, 1, 2, 3, 4, 5, 6, 7, 8, 9, 10, 11, 12, 13, 14, 15] 17 rfl rfl (by decide)).flatten) lk_X5_init rfl li_X5_init (NW_at 262 (by decide +kernel) (by decide +kernel)) rfl rfl ⟨Nat.le_of_ble_eq_true rfl, Nat.le_of_ble_eq_true rfl⟩ rfl rfl (Nat.le_of_ble_eq_true rfl) ⟨by show (_ : Nat) ≤ _; decide, by show (_ : Nat) ≤ _; decide⟩ dX7_init_140 (fun u26 H locs hG => ?_)
  have hG : GM g A s.heap H locs [wX5 g q25 u26 st0_X5, wX5 g q23 u24 st0_X5, wX5 g q21 u22 st0_X5, wX5 g q19 u20 st0_X5, wX5 g q17 u18 st0_X5, wX5 g u16.1 u16.2 t0, wX1 g q14 u15 st0_X1, wF g (u15 3) 6 st0_N, wX4 g q10 u11 st0_X4, wX6 g q8 u9 (st0_X6 0 0 0), wX0 g q5 u6 st0_X0, wX2 g q3 u4 st0_X2, wX2 g q1 u2 st0_X2, oX7 g o (va_up (va_up (va_up (fun _ => 0) 2 0) 5 0) 9 1) (va_up (va_up (va_up (va_up (va_up (va_up (va_up (va_up (va_up (fun _ => none) 0 (some q1)) 1 (some q3)) 3 (some q5)) 4 (some q7)) 6 (some q8)) 7 (some q10)) 8 (some q12)) 10 (some q13)) 11 (some q14)), aQ g 5 q7 8 (fun _ => none), aQ g 3 q12 6 (va_up (va_up (va_up (va_up (va_up (fun _ => none) 0 (some u16.1)) 1 (some q17)) 2 (some q19)) 3 (some q21)) 4 (some q23)), aQ g 4 q13 4 (fun _ => none)] := hG
  refine W.widen (k := 71) (n := 4404) (by omega) (by omega) ?_
  refine r_aastq (ci := 5) (r := (RX5, TX5, 4)) 3 rfl X hG 15 0 rfl rfl 0 0 rfl rfl rfl (ib_in (by decide)) dX7_init_143 (fun H locs hG => ?_)
  have hG : GM g A s.heap H locs [wX5 g q25 u26 st0_X5, wX5 g q23 u24 st0_X5, wX5 g q21 u22 st0_X5, wX5 g q19 u20 st0_X5, wX5 g q17 u18 st0_X5, wX5 g u16.1 u16.2 t0, wX1 g q14 u15 st0_X1, wF g (u15 3) 6 st0_N, wX4 g q10 u11 st0_X4, wX6 g q8 u9 (st0_X6 0 0 0), wX0 g q5 u6 st0_X0, wX2 g q3 u4 st0_X2, wX2 g q1 u2 st0_X2, oX7 g o (va_up (va_up (va_up (fun _ => 0) 2 0) 5 0) 9 1) (va_up (va_up (va_up (va_up (va_up (va_up (va_up (va_up (va_up (fun _ => none) 0 (some q1)) 1 (some q3)) 3 (some q5)) 4 (some q7)) 6 (some q8)) 7 (some q10)) 8 (some q12)) 10 (some q13)) 11 (some q14)), aQ g 5 q7 8 (fun _ => none), aQ g 3 q12 6 (va_up (va_up (va_up (va_up (va_up (va_up (fun _ => none) 0 (some u16.1)) 1 (some q17)) 2 (some q19)) 3 (some q21)) 4 (some q23)) 5 (some q25)), aQ g 4 q13 4 (fun _ => none)] := hG
  refine lv_iinc (v := 6) (lv' := [(1, .int 6), (0, .ref o)]) hx hb dX7_init_144 hl (k := 0) rfl (by decide) (by decide) rfl (fun ls hl => ?_)
  refine lv_goto (tgt := 125) hx hb dX7_init_147 (by decide) ?_
  refine lv_iload_n hx hb dX7_init_125 rfl (lv_at hl 0 rfl) ?_
  refine lv_bipush (v := 6) hx hb dX7_init_126 (by decide) ?_
  refine lv_icmp_ge (tgt := 150) hx hb dX7_init_128 (by decide) (fun hc => ?_) (fun hc => absurd (by decide) hc)
  refine lv_iconst (v := 0) hx hb dX7_init_150 (by decide) ?_
  refine lv_istore_n (lv' := [(1, .int 0), (0, .ref o)]) hx hb dX7_init_151 rfl hl (by decide) rfl (fun ls hl => ?_)
  refine lv_iload_n hx hb dX7_init_152 rfl (lv_at hl 0 rfl) ?_
  refine lv_iconst (v := 4) hx hb dX7_init_153 (by decide) ?_
  refine lv_icmp_ge (tgt := 176) hx hb dX7_init_154 (by decide) (fun hc => absurd hc (by decide)) (fun hc => ?_)
  refine lv_aload_n hx hb dX7_init_157 rfl (lv_at hl 1 rfl) ?_
  refine r_get (v := .ref q13) X hG 13 0 rfl rfl rfl 10 (by decide) inX7 (TW_at 460 (by decide +kernel) (by decide +kernel)) rfl dX7_init_158 ?_
  refine lv_iload_n hx hb dX7_init_161 rfl (lv_at hl 0 rfl) ?_
  refine r_new (ci := 3) (fs := [.int 0, .int 0, .null]) (C := RX3) (T := TX3) (N := 3) X hG inX3 tyX3 tyX3_ok (TW_at 205 (by decide +kernel) (by decide +kernel)) (TW_at 430 (by decide +kernel) (by decide +kernel)) (TW_at 71 (by decide +kernel) (by decide +kernel)) rfl nfX3 (by show (_ : Nat) ≤ _; decide) (by show (_ : Nat) ≤ _; decide) dX7_init_162 (fun q27 H hG => ?_)
  have hG : GM g A s.heap H locs [wX5 g q25 u26 st0_X5, wX5 g q23 u24 st0_X5, wX5 g q21 u22 st0_X5, wX5 g q19 u20 st0_X5, wX5 g q17 u18 st0_X5, wX5 g u16.1 u16.2 t0, wX1 g q14 u15 st0_X1, wF g (u15 3) 6 st0_N, wX4 g q10 u11 st0_X4, wX6 g q8 u9 (st0_X6 0 0 0), wX0 g q5 u6 st0_X0, wX2 g q3 u4 st0_X2, wX2 g q1 u2 st0_X2, oX7 g o (va_up (va_up (va_up (fun _ => 0) 2 0) 5 0) 9 1) (va_up (va_up (va_up (va_up (va_up (va_up (va_up (va_up (va_up (fun _ => none) 0 (some q1)) 1 (some q3)) 3 (some q5)) 4 (some q7)) 6 (some q8)) 7 (some q10)) 8 (some q12)) 10 (some q13)) 11 (some q14)), aQ g 5 q7 8 (fun _ => none), aQ g 3 q12 6 (va_up (va_up (va_up (va_up (va_up (va_up (fun _ => none) 0 (some u16.1)) 1 (some q17)) 2 (some q19)) 3 (some q21)) 4 (some q23)) 5 (some q25)), aQ g 4 q13 4 (fun _ => none), oX3 g q27 (fun _ => 0) (fun _ => none)] := hG
  refine W.widen (k := 72) (n := 4407) (by omega) (by omega) ?_
  refine lv_dup hx hb dX7_init_165 rfl ?_
  refine r_callIN (host := "LastCar") (bc := [oX3 g q27 (fun _ => 0) (fun _ => none)]) (br := [wX5 g q25 u26 st0_X5, wX5 g q23 u24 st0_X5, wX5 g q21 u22 st0_X5, wX5 g q19 u20 st0_X5, wX5 g q17 u18 st0_X5, wX5 g u16.1 u16.2 t0, wX1 g q14 u15 st0_X1, wF g (u15 3) 6 st0_N, wX4 g q10 u11 st0_X4, wX6 g q8 u9 (st0_X6 0 0 0), wX0 g q5 u6 st0_X0, wX2 g q3 u4 st0_X2, wX2 g q1 u2 st0_X2, oX7 g o (va_up (va_up (va_up (fun _ => 0) 2 0) 5 0) 9 1) (va_up (va_up (va_up (va_up (va_up (va_up (va_up (va_up (va_up (fun _ => none) 0 (some q1)) 1 (some q3)) 3 (some q5)) 4 (some q7)) 6 (some q8)) 7 (some q10)) 8 (some q12)) 10 (some q13)) 11 (some q14)), aQ g 5 q7 8 (fun _ => none), aQ g 3 q12 6 (va_up (va_up (va_up (va_up (va_up (va_up (fun _ => none) 0 (some u16.1)) 1 (some q17)) 2 (some q19)) 3 (some q21)) 4 (some q23)) 5 (some q25)), aQ g 4 q13 4 (fun _ => none)]) (As := []) (rest := [.ref q27, .int 0, .ref q13]) X hG hl.1 (n_X3 g l q27) ((blk_perm2 [17, 0, 1, 2, 3, 4, 5, 6, 7, 8, 9, 10, 11, 12, 13, 14, 15, 16] 18 rfl rfl (by decide)).flatten) lk_X3_init rfl li_X3_init (NW_at 431 (by decide +kernel) (by decide +kernel)) rfl rfl ⟨Nat.le_of_ble_eq_true rfl, Nat.le_of_ble_eq_true rfl⟩ rfl rfl (Nat.le_of_ble_eq_true rfl) ⟨by show (_ : Nat) ≤ _; decide, by show (_ : Nat) ≤ _; decide⟩ dX7_init_166 (fun u28 H locs hG => ?_)
  have hG : GM g A s.heap H locs [wX3 g q27 u28 st0_X3, wX5 g q25 u26 st0_X5, wX5 g q23 u24 st0_X5, wX5 g q21 u22 st0_X5, wX5 g q19 u20 st0_X5, wX5 g q17 u18 st0_X5, wX5 g u16.1 u16.2 t0, wX1 g q14 u15 st0_X1, wF g (u15 3) 6 st0_N, wX4 g q10 u11 st0_X4, wX6 g q8 u9 (st0_X6 0 0 0), wX0 g q5 u6 st0_X0, wX2 g q3 u4 st0_X2, wX2 g q1 u2 st0_X2, oX7 g o (va_up (va_up (va_up (fun _ => 0) 2 0) 5 0) 9 1) (va_up (va_up (va_up (va_up (va_up (va_up (va_up (va_up (va_up (fun _ => none) 0 (some q1)) 1 (some q3)) 3 (some q5)) 4 (some q7)) 6 (some q8)) 7 (some q10)) 8 (some q12)) 10 (some q13)) 11 (some q14)), aQ g 5 q7 8 (fun _ => none), aQ g 3 q12 6 (va_up (va_up (va_up (va_up (va_up (va_up (fun _ => none) 0 (some u16.1)) 1 (some q17)) 2 (some q19)) 3 (some q21)) 4 (some q23)) 5 (some q25)), aQ g 4 q13 4 (fun _ => none)] := hG
  refine W.widen (k := 73) (n := 4447) (by omega) (by omega) ?_
  refine r_aastq (ci := 3) (r := (RX3, TX3, 3)) 4 rfl X hG 17 0 rfl rfl 0 0 rfl rfl rfl (ib_in (by decide)) dX7_init_169 (fun H locs hG => ?_)
  have hG : GM g A s.heap H locs [wX3 g q27 u28 st0_X3, wX5 g q25 u26 st0_X5, wX5 g q23 u24 st0_X5, wX5 g q21 u22 st0_X5, wX5 g q19 u20 st0_X5, wX5 g q17 u18 st0_X5, wX5 g u16.1 u16.2 t0, wX1 g q14 u15 st0_X1, wF g (u15 3) 6 st0_N, wX4 g q10 u11 st0_X4, wX6 g q8 u9 (st0_X6 0 0 0), wX0 g q5 u6 st0_X0, wX2 g q3 u4 st0_X2, wX2 g q1 u2 st0_X2, oX7 g o (va_up (va_up (va_up (fun _ => 0) 2 0) 5 0) 9 1) (va_up (va_up (va_up (va_up (va_up (va_up (va_up (va_up (va_up (fun _ => none) 0 (some q1)) 1 (some q3)) 3 (some q5)) 4 (some q7)) 6 (some q8)) 7 (some q10)) 8 (some q12)) 10 (some q13)) 11 (some q14)), aQ g 5 q7 8 (fun _ => none), aQ g 3 q12 6 (va_up (va_up (va_up (va_up (va_up (va_up (fun _ => none) 0 (some u16.1)) 1 (some q17)) 2 (some q19)) 3 (some q21)) 4 (some q23)) 5 (some q25)), aQ g 4 q13 4 (va_up (fun _ => none) 0 (some q27))] := hG
  refine lv_iinc (v := 1) (lv' := [(1, .int 1), (0, .ref o)]) hx hb dX7_init_170 hl (k := 0) rfl (by decide) (by decide) rfl (fun ls hl => ?_)
  refine lv_goto (tgt := 152) hx hb dX7_init_173 (by decide) ?_
  refine lv_iload_n hx hb dX7_init_152 rfl (lv_at hl 0 rfl) ?_
  refine lv_iconst (v := 4) hx hb dX7_init_153 (by decide) ?_
  refine lv_icmp_ge (tgt := 176) hx hb dX7_init_154 (by decide) (fun hc => absurd hc (by decide)) (fun hc => ?_)
  refine lv_aload_n hx hb dX7_init_157 rfl (lv_at hl 1 rfl) ?_
  refine r_get (v := .ref q13) X hG 14 0 rfl rfl rfl 10 (by decide) inX7 (TW_at 460 (by decide +kernel) (by decide +kernel)) rfl dX7_init_158 ?_
  refine lv_iload_n hx hb dX7_init_161 rfl (lv_at hl 0 rfl) ?_
  refine r_new (ci := 3) (fs := [.int 0, .int 0, .null]) (C := RX3) (T := TX3) (N := 3) X hG inX3 tyX3 tyX3_ok (TW_at 205 (by decide +kernel) (by decide +kernel)) (TW_at 430 (by decide +kernel) (by decide +kernel)) (TW_at 71 (by decide +kernel) (by decide +kernel)) rfl nfX3 (by show (_ : Nat) ≤ _; decide) (by show (_ : Nat) ≤ _; decide) dX7_init_162 (fun q29 H hG => ?_)
  have hG : GM g A s.heap H locs [wX3 g q27 u28 st0_X3, wX5 g q25 u26 st0_X5, wX5 g q23 u24 st0_X5, wX5 g q21 u22 st0_X5, wX5 g q19 u20 st0_X5, wX5 g q17 u18 st0_X5, wX5 g u16.1 u16.2 t0, wX1 g q14 u15 st0_X1, wF g (u15 3) 6 st0_N, wX4 g q10 u11 st0_X4, wX6 g q8 u9 (st0_X6 0 0 0), wX0 g q5 u6 st0_X0, wX2 g q3 u4 st0_X2, wX2 g q1 u2 st0_X2, oX7 g o (va_up (va_up (va_up (fun _ => 0) 2 0) 5 0) 9 1) (va_up (va_up (va_up (va_up (va_up (va_up (va_up (va_up (va_up (fun _ => none) 0 (some q1)) 1 (some q3)) 3 (some q5)) 4 (some q7)) 6 (some q8)) 7 (some q10)) 8 (some q12)) 10 (some q13)) 11 (some q14)), aQ g 5 q7 8 (fun _ => none), aQ g 3 q12 6 (va_up (va_up (va_up (va_up (va_up (va_up (fun _ => none) 0 (some u16.1)) 1 (some q17)) 2 (some q19)) 3 (some q21)) 4 (some q23)) 5 (some q25)), aQ g 4 q13 4 (va_up (fun _ => none) 0 (some q27)), oX3 g q29 (fun _ => 0) (fun _ => none)] := hG
  refine W.widen (k := 74) (n := 4450) (by omega) (by omega) ?_
  refine lv_dup hx hb dX7_init_165 rfl ?_
  refine r_callIN (host := "LastCar") (bc := [oX3 g q29 (fun _ => 0) (fun _ => none)]) (br := [wX3 g q27 u28 st0_X3, wX5 g q25 u26 st0_X5, wX5 g q23 u24 st0_X5, wX5 g q21 u22 st0_X5, wX5 g q19 u20 st0_X5, wX5 g q17 u18 st0_X5, wX5 g u16.1 u16.2 t0, wX1 g q14 u15 st0_X1, wF g (u15 3) 6 st0_N, wX4 g q10 u11 st0_X4, wX6 g q8 u9 (st0_X6 0 0 0), wX0 g q5 u6 st0_X0, wX2 g q3 u4 st0_X2, wX2 g q1 u2 st0_X2, oX7 g o (va_up (va_up (va_up (fun _ => 0) 2 0) 5 0) 9 1) (va_up (va_up (va_up (va_up (va_up (va_up (va_up (va_up (va_up (fun _ => none) 0 (some q1)) 1 (some q3)) 3 (some q5)) 4 (some q7)) 6 (some q8)) 7 (some q10)) 8 (some q12)) 10 (some q13)) 11 (some q14)), aQ g 5 q7 8 (fun _ => none), aQ g 3 q12 6 (va_up (va_up (va_up (va_up (va_up (va_up (fun _ => none) 0 (some u16.1)) 1 (some q17)) 2 (some q19)) 3 (some q21)) 4 (some q23)) 5 (some q25)), aQ g 4 q13 4 (va_up (fun _ => none) 0 (some q27))]) (As := []) (rest := [.ref q29, .int 1, .ref q13]) X hG hl.1 (n_X3 g l q29) ((blk_perm2 [18, 0, 1, 2, 3, 4, 5, 6, 7, 8, 9, 10, 11, 12, 13, 14, 15, 16, 17] 19 rfl rfl (by decide)).flatten) lk_X3_init rfl li_X3_init (NW_at 431 (by decide +kernel) (by decide +kernel)) rfl rfl ⟨Nat.le_of_ble_eq_true rfl, Nat.le_of_ble_eq_true rfl⟩ rfl rfl (Nat.le_of_ble_eq_true rfl) ⟨by show (_ : Nat) ≤ _; decide, by show (_ : Nat) ≤ _; decide⟩ dX7_init_166 (fun u30 H locs hG => ?_)
  have hG : GM g A s.heap H locs [wX3 g q29 u30 st0_X3, wX3 g q27 u28 st0_X3, wX5 g q25 u26 st0_X5, wX5 g q23 u24 st0_X5, wX5 g q21 u22 st0_X5, wX5 g q19 u20 st0_X5, wX5 g q17 u18 st0_X5, wX5 g u16.1 u16.2 t0, wX1 g q14 u15 st0_X1, wF g (u15 3) 6 st0_N, wX4 g q10 u11 st0_X4, wX6 g q8 u9 (st0_X6 0 0 0), wX0 g q5 u6 st0_X0, wX2 g q3 u4 st0_X2, wX2 g q1 u2 st0_X2, oX7 g o (va_up (va_up (va_up (fun _ => 0) 2 0) 5 0) 9 1) (va_up (va_up (va_up (va_up (va_up (va_up (va_up (va_up (va_up (fun _ => none) 0 (some q1)) 1 (some q3)) 3 (some q5)) 4 (some q7)) 6 (some q8)) 7 (some q10)) 8 (some q12)) 10 (some q13)) 11 (some q14)), aQ g 5 q7 8 (fun _ => none), aQ g 3 q12 6 (va_up (va_up (va_up (va_up (va_up (va_up (fun _ => none) 0 (some u16.1)) 1 (some q17)) 2 (some q19)) 3 (some q21)) 4 (some q23)) 5 (some q25)), aQ g 4 q13 4 (va_up (fun _ => none) 0 (some q27))] := hG
  refine W.widen (k := 75) (n := 4490) (by omega) (by omega) ?_
  refine r_aastq (ci := 3) (r := (RX3, TX3, 3)) 4 rfl X hG 18 0 rfl rfl 0 0 rfl rfl rfl (ib_in (by decide)) dX7_init_169 (fun H locs hG => ?_)
  have hG : GM g A s.heap H locs [wX3 g q29 u30 st0_X3, wX3 g q27 u28 st0_X3, wX5 g q25 u26 st0_X5, wX5 g q23 u24 st0_X5, wX5 g q21 u22 st0_X5, wX5 g q19 u20 st0_X5, wX5 g q17 u18 st0_X5, wX5 g u16.1 u16.2 t0, wX1 g q14 u15 st0_X1, wF g (u15 3) 6 st0_N, wX4 g q10 u11 st0_X4, wX6 g q8 u9 (st0_X6 0 0 0), wX0 g q5 u6 st0_X0, wX2 g q3 u4 st0_X2, wX2 g q1 u2 st0_X2, oX7 g o (va_up (va_up (va_up (fun _ => 0) 2 0) 5 0) 9 1) (va_up (va_up (va_up (va_up (va_up (va_up (va_up (va_up (va_up (fun _ => none) 0 (some q1)) 1 (some q3)) 3 (some q5)) 4 (some q7)) 6 (some q8)) 7 (some q10)) 8 (some q12)) 10 (some q13)) 11 (some q14)), aQ g 5 q7 8 (fun _ => none), aQ g 3 q12 6 (va_up (va_up (va_up (va_up (va_up (va_up (fun _ => none) 0 (some u16.1)) 1 (some q17)) 2 (some q19)) 3 (some q21)) 4 (some q23)) 5 (some q25)), aQ g 4 q13 4 (va_up (va_up (fun _ => none) 0 (some q27)) 1 (some q29))] := hG
  refine lv_iinc (v := 2) (lv' := [(1, .int 2), (0, .ref o)]) hx hb dX7_init_170 hl (k := 0) rfl (by decide) (by decide) rfl (fun ls hl => ?_)
  refine lv_goto (tgt := 152) hx hb dX7_init_173 (by decide) ?_
  refine lv_iload_n hx hb dX7_init_152 rfl (lv_at hl 0 rfl) ?_
  refine lv_iconst (v := 4) hx hb dX7_init_153 (by decide) ?_
  refine lv_icmp_ge (tgt := 176) hx hb dX7_init_154 (by decide) (fun hc => absurd hc (by decide)) (fun hc => ?_)
  refine lv_aload_n hx hb dX7_init_157 rfl (lv_at hl 1 rfl) ?_
  refine r_get (v := .ref q13) X hG 15 0 rfl rfl rfl 10 (by decide) inX7 (TW_at 460 (by decide +kernel) (by decide +kernel)) rfl dX7_init_158 ?_
  refine lv_iload_n hx hb dX7_init_161 rfl (lv_at hl 0 rfl) ?_
  refine r_new (ci := 3) (fs := [.int 0, .int 0, .null]) (C := RX3) (T := TX3) (N := 3) X hG inX3 tyX3 tyX3_ok (TW_at 205 (by decide +kernel) (by decide +kernel)) (TW_at 430 (by decide +kernel) (by decide +kernel)) (TW_at 71 (by decide +kernel) (by decide +kernel)) rfl nfX3 (by show (_ : Nat) ≤ _; decide) (by show (_ : Nat) ≤ _; decide) dX7_init_162 (fun q31 H hG => ?_)
  have hG : GM g A s.heap H locs [wX3 g q29 u30 st0_X3, wX3 g q27 u28 st0_X3, wX5 g q25 u26 st0_X5, wX5 g q23 u24 st0_X5, wX5 g q21 u22 st0_X5, wX5 g q19 u20 st0_X5, wX5 g q17 u18 st0_X5, wX5 g u16.1 u16.2 t0, wX1 g q14 u15 st0_X1, wF g (u15 3) 6 st0_N, wX4 g q10 u11 st0_X4, wX6 g q8 u9 (st0_X6 0 0 0), wX0 g q5 u6 st0_X0, wX2 g q3 u4 st0_X2, wX2 g q1 u2 st0_X2, oX7 g o (va_up (va_up (va_up (fun _ => 0) 2 0) 5 0) 9 1) (va_up (va_up (va_up (va_up (va_up (va_up (va_up (va_up (va_up (fun _ => none) 0 (some q1)) 1 (some q3)) 3 (some q5)) 4 (some q7)) 6 (some q8)) 7 (some q10)) 8 (some q12)) 10 (some q13)) 11 (some q14)), aQ g 5 q7 8 (fun _ => none), aQ g 3 q12 6 (va_up (va_up (va_up (va_up (va_up (va_up (fun _ => none) 0 (some u16.1)) 1 (some q17)) 2 (some q19)) 3 (some q21)) 4 (some q23)) 5 (some q25)), aQ g 4 q13 4 (va_up (va_up (fun _ => none) 0 (some q27)) 1 (some q29)), oX3 g q31 (fun _ => 0) (fun _ => none)] := hG
  refine W.widen (k := 76) (n := 4493) (by omega) (by omega) ?_
  refine lv_dup hx hb dX7_init_165 rfl ?_
  refine r_callIN (host := "LastCar") (bc := [oX3 g q31 (fun _ => 0) (fun _ => none)]) (br := [wX3 g q29 u30 st0_X3, wX3 g q27 u28 st0_X3, wX5 g q25 u26 st0_X5, wX5 g q23 u24 st0_X5, wX5 g q21 u22 st0_X5, wX5 g q19 u20 st0_X5, wX5 g q17 u18 st0_X5, wX5 g u16.1 u16.2 t0, wX1 g q14 u15 st0_X1, wF g (u15 3) 6 st0_N, wX4 g q10 u11 st0_X4, wX6 g q8 u9 (st0_X6 0 0 0), wX0 g q5 u6 st0_X0, wX2 g q3 u4 st0_X2, wX2 g q1 u2 st0_X2, oX7 g o (va_up (va_up (va_up (fun _ => 0) 2 0) 5 0) 9 1) (va_up (va_up (va_up (va_up (va_up (va_up (va_up (va_up (va_up (fun _ => none) 0 (some q1)) 1 (some q3)) 3 (some q5)) 4 (some q7)) 6 (some q8)) 7 (some q10)) 8 (some q12)) 10 (some q13)) 11 (some q14)), aQ g 5 q7 8 (fun _ => none), aQ g 3 q12 6 (va_up (va_up (va_up (va_up (va_up (va_up (fun _ => none) 0 (some u16.1)) 1 (some q17)) 2 (some q19)) 3 (some q21)) 4 (some q23)) 5 (some q25)), aQ g 4 q13 4 (va_up (va_up (fun _ => none) 0 (some q27)) 1 (some q29))]) (As := []) (rest := [.ref q31, .int 2, .ref q13]) X hG hl.1 (n_X3 g l q31) ((blk_perm2 [19, 0, 1, 2, 3, 4, 5, 6, 7, 8, 9, 10, 11, 12, 13, 14, 15, 16, 17, 18] 20 rfl rfl (by decide)).flatten) lk_X3_init rfl li_X3_init (NW_at 431 (by decide +kernel) (by decide +kernel)) rfl rfl ⟨Nat.le_of_ble_eq_true rfl, Nat.le_of_ble_eq_true rfl⟩ rfl rfl (Nat.le_of_ble_eq_true rfl) ⟨by show (_ : Nat) ≤ _; decide, by show (_ : Nat) ≤ _; decide⟩ dX7_init_166 (fun u32 H locs hG => ?_)
  have hG : GM g A s.heap H locs [wX3 g q31 u32 st0_X3, wX3 g q29 u30 st0_X3, wX3 g q27 u28 st0_X3, wX5 g q25 u26 st0_X5, wX5 g q23 u24 st0_X5, wX5 g q21 u22 st0_X5, wX5 g q19 u20 st0_X5, wX5 g q17 u18 st0_X5, wX5 g u16.1 u16.2 t0, wX1 g q14 u15 st0_X1, wF g (u15 3) 6 st0_N, wX4 g q10 u11 st0_X4, wX6 g q8 u9 (st0_X6 0 0 0), wX0 g q5 u6 st0_X0, wX2 g q3 u4 st0_X2, wX2 g q1 u2 st0_X2, oX7 g o (va_up (va_up (va_up (fun _ => 0) 2 0) 5 0) 9 1) (va_up (va_up (va_up (va_up (va_up (va_up (va_up (va_up (va_up (fun _ => none) 0 (some q1)) 1 (some q3)) 3 (some q5)) 4 (some q7)) 6 (some q8)) 7 (some q10)) 8 (some q12)) 10 (some q13)) 11 (some q14)), aQ g 5 q7 8 (fun _ => none), aQ g 3 q12 6 (va_up (va_up (va_up (va_up (va_up (va_up (fun _ => none) 0 (some u16.1)) 1 (some q17)) 2 (some q19)) 3 (some q21)) 4 (some q23)) 5 (some q25)), aQ g 4 q13 4 (va_up (va_up (fun _ => none) 0 (some q27)) 1 (some q29))] := hG
  refine W.widen (k := 77) (n := 4533) (by omega) (by omega) ?_
  refine r_aastq (ci := 3) (r := (RX3, TX3, 3)) 4 rfl X hG 19 0 rfl rfl 0 0 rfl rfl rfl (ib_in (by decide)) dX7_init_169 (fun H locs hG => ?_)
  have hG : GM g A s.heap H locs [wX3 g q31 u32 st0_X3, wX3 g q29 u30 st0_X3, wX3 g q27 u28 st0_X3, wX5 g q25 u26 st0_X5, wX5 g q23 u24 st0_X5, wX5 g q21 u22 st0_X5, wX5 g q19 u20 st0_X5, wX5 g q17 u18 st0_X5, wX5 g u16.1 u16.2 t0, wX1 g q14 u15 st0_X1, wF g (u15 3) 6 st0_N, wX4 g q10 u11 st0_X4, wX6 g q8 u9 (st0_X6 0 0 0), wX0 g q5 u6 st0_X0, wX2 g q3 u4 st0_X2, wX2 g q1 u2 st0_X2, oX7 g o (va_up (va_up (va_up (fun _ => 0) 2 0) 5 0) 9 1) (va_up (va_up (va_up (va_up (va_up (va_up (va_up (va_up (va_up (fun _ => none) 0 (some q1)) 1 (some q3)) 3 (some q5)) 4 (some q7)) 6 (some q8)) 7 (some q10)) 8 (some q12)) 10 (some q13)) 11 (some q14)), aQ g 5 q7 8 (fun _ => none), aQ g 3 q12 6 (va_up (va_up (va_up (va_up (va_up (va_up (fun _ => none) 0 (some u16.1)) 1 (some q17)) 2 (some q19)) 3 (some q21)) 4 (some q23)) 5 (some q25)), aQ g 4 q13 4 (va_up (va_up (va_up (fun _ => none) 0 (some q27)) 1 (some q29)) 2 (some q31))] := hG
  refine lv_iinc (v := 3) (lv' := [(1, .int 3), (0, .ref o)]) hx hb dX7_init_170 hl (k := 0) rfl (by decide) (by decide) rfl (fun ls hl => ?_)
  refine lv_goto (tgt := 152) hx hb dX7_init_173 (by decide) ?_
  refine lv_iload_n hx hb dX7_init_152 rfl (lv_at hl 0 rfl) ?_
  refine lv_iconst (v := 4) hx hb dX7_init_153 (by decide) ?_
  refine lv_icmp_ge (tgt := 176) hx hb dX7_init_154 (by decide) (fun hc => absurd hc (by decide)) (fun hc => ?_)
  refine lv_aload_n hx hb dX7_init_157 rfl (lv_at hl 1 rfl) ?_
  refine r_get (v := .ref q13) X hG 16 0 rfl rfl rfl 10 (by decide) inX7 (TW_at 460 (by decide +kernel) (by decide +kernel)) rfl dX7_init_158 ?_
  refine lv_iload_n hx hb dX7_init_161 rfl (lv_at hl 0 rfl) ?_
  refine r_new (ci := 3) (fs := [.int 0, .int 0, .null]) (C := RX3) (T := TX3) (N := 3) X hG inX3 tyX3 tyX3_ok (TW_at 205 (by decide +kernel) (by decide +kernel)) (TW_at 430 (by decide +kernel) (by decide +kernel)) (TW_at 71 (by decide +kernel) (by decide +kernel)) rfl nfX3 (by show (_ : Nat) ≤ _; decide) (by show (_ : Nat) ≤ _; decide) dX7_init_162 (fun q33 H hG => ?_)
  have hG : GM g A s.heap H locs [wX3 g q31 u32 st0_X3, wX3 g q29 u30 st0_X3, wX3 g q27 u28 st0_X3, wX5 g q25 u26 st0_X5, wX5 g q23 u24 st0_X5, wX5 g q21 u22 st0_X5, wX5 g q19 u20 st0_X5, wX5 g q17 u18 st0_X5, wX5 g u16.1 u16.2 t0, wX1 g q14 u15 st0_X1, wF g (u15 3) 6 st0_N, wX4 g q10 u11 st0_X4, wX6 g q8 u9 (st0_X6 0 0 0), wX0 g q5 u6 st0_X0, wX2 g q3 u4 st0_X2, wX2 g q1 u2 st0_X2, oX7 g o (va_up (va_up (va_up (fun _ => 0) 2 0) 5 0) 9 1) (va_up (va_up (va_up (va_up (va_up (va_up (va_up (va_up (va_up (fun _ => none) 0 (some q1)) 1 (some q3)) 3 (some q5)) 4 (some q7)) 6 (some q8)) 7 (some q10)) 8 (some q12)) 10 (some q13)) 11 (some q14)), aQ g 5 q7 8 (fun _ => none), aQ g 3 q12 6 (va_up (va_up (va_up (va_up (va_up (va_up (fun _ => none) 0 (some u16.1)) 1 (some q17)) 2 (some q19)) 3 (some q21)) 4 (some q23)) 5 (some q25)), aQ g 4 q13 4 (va_up (va_up (va_up (fun _ => none) 0 (some q27)) 1 (some q29)) 2 (some q31)), oX3 g q33 (fun _ => 0) (fun _ => none)] := hG
  refine W.widen (k := 78) (n := 4536) (by omega) (by omega) ?_
  refine lv_dup hx hb dX7_init_165 rfl ?_
  refine r_callIN (host := "LastCar") (bc := [oX3 g q33 (fun _ => 0) (fun _ => none)]) (br := [wX3 g q31 u32 st0_X3, wX3 g q29 u30 st0_X3, wX3 g q27 u28 st0_X3, wX5 g q25 u26 st0_X5, wX5 g q23 u24 st0_X5, wX5 g q21 u22 st0_X5, wX5 g q19 u20 st0_X5, wX5 g q17 u18 st0_X5, wX5 g u16.1 u16.2 t0, wX1 g q14 u15 st0_X1, wF g (u15 3) 6 st0_N, wX4 g q10 u11 st0_X4, wX6 g q8 u9 (st0_X6 0 0 0), wX0 g q5 u6 st0_X0, wX2 g q3 u4 st0_X2, wX2 g q1 u2 st0_X2, oX7 g o (va_up (va_up (va_up (fun _ => 0) 2 0) 5 0) 9 1) (va_up (va_up (va_up (va_up (va_up (va_up (va_up (va_up (va_up (fun _ => none) 0 (some q1)) 1 (some q3)) 3 (some q5)) 4 (some q7)) 6 (some q8)) 7 (some q10)) 8 (some q12)) 10 (some q13)) 11 (some q14)), aQ g 5 q7 8 (fun _ => none), aQ g 3 q12 6 (va_up (va_up (va_up (va_up (va_up (va_up (fun _ => none) 0 (some u16.1)) 1 (some q17)) 2 (some q19)) 3 (some q21)) 4 (some q23)) 5 (some q25)), aQ g 4 q13 4 (va_up (va_up (va_up (fun _ => none) 0 (some q27)) 1 (some q29)) 2 (some q31))]) (As := []) (rest := [.ref q33, .int 3, .ref q13]) X hG hl.1 (n_X3 g l q33) ((blk_perm2 [20, 0, 1, 2, 3, 4, 5, 6, 7, 8, 9, 10, 11, 12, 13, 14, 15, 16, 17, 18, 19] 21 rfl rfl (by decide)).flatten) lk_X3_init rfl li_X3_init (NW_at 431 (by decide +kernel) (by decide +kernel)) rfl rfl ⟨Nat.le_of_ble_eq_true rfl, Nat.le_of_ble_eq_true rfl⟩ rfl rfl (Nat.le_of_ble_eq_true rfl) ⟨by show (_ : Nat) ≤ _; decide, by show (_ : Nat) ≤ _; decide⟩ dX7_init_166 (fun u34 H locs hG => ?_)
  have hG : GM g A s.heap H locs [wX3 g q33 u34 st0_X3, wX3 g q31 u32 st0_X3, wX3 g q29 u30 st0_X3, wX3 g q27 u28 st0_X3, wX5 g q25 u26 st0_X5, wX5 g q23 u24 st0_X5, wX5 g q21 u22 st0_X5, wX5 g q19 u20 st0_X5, wX5 g q17 u18 st0_X5, wX5 g u16.1 u16.2 t0, wX1 g q14 u15 st0_X1, wF g (u15 3) 6 st0_N, wX4 g q10 u11 st0_X4, wX6 g q8 u9 (st0_X6 0 0 0), wX0 g q5 u6 st0_X0, wX2 g q3 u4 st0_X2, wX2 g q1 u2 st0_X2, oX7 g o (va_up (va_up (va_up (fun _ => 0) 2 0) 5 0) 9 1) (va_up (va_up (va_up (va_up (va_up (va_up (va_up (va_up (va_up (fun _ => none) 0 (some q1)) 1 (some q3)) 3 (some q5)) 4 (some q7)) 6 (some q8)) 7 (some q10)) 8 (some q12)) 10 (some q13)) 11 (some q14)), aQ g 5 q7 8 (fun _ => none), aQ g 3 q12 6 (va_up (va_up (va_up (va_up (va_up (va_up (fun _ => none) 0 (some u16.1)) 1 (some q17)) 2 (some q19)) 3 (some q21)) 4 (some q23)) 5 (some q25)), aQ g 4 q13 4 (va_up (va_up (va_up (fun _ => none) 0 (some q27)) 1 (some q29)) 2 (some q31))] := hG
  refine W.widen (k := 79) (n := 4576) (by omega) (by omega) ?_
  refine r_aastq (ci := 3) (r := (RX3, TX3, 3)) 4 rfl X hG 20 0 rfl rfl 0 0 rfl rfl rfl (ib_in (by decide)) dX7_init_169 (fun H locs hG => ?_)
  have hG : GM g A s.heap H locs [wX3 g q33 u34 st0_X3, wX3 g q31 u32 st0_X3, wX3 g q29 u30 st0_X3, wX3 g q27 u28 st0_X3, wX5 g q25 u26 st0_X5, wX5 g q23 u24 st0_X5, wX5 g q21 u22 st0_X5, wX5 g q19 u20 st0_X5, wX5 g q17 u18 st0_X5, wX5 g u16.1 u16.2 t0, wX1 g q14 u15 st0_X1, wF g (u15 3) 6 st0_N, wX4 g q10 u11 st0_X4, wX6 g q8 u9 (st0_X6 0 0 0), wX0 g q5 u6 st0_X0, wX2 g q3 u4 st0_X2, wX2 g q1 u2 st0_X2, oX7 g o (va_up (va_up (va_up (fun _ => 0) 2 0) 5 0) 9 1) (va_up (va_up (va_up (va_up (va_up (va_up (va_up (va_up (va_up (fun _ => none) 0 (some q1)) 1 (some q3)) 3 (some q5)) 4 (some q7)) 6 (some q8)) 7 (some q10)) 8 (some q12)) 10 (some q13)) 11 (some q14)), aQ g 5 q7 8 (fun _ => none), aQ g 3 q12 6 (va_up (va_up (va_up (va_up (va_up (va_up (fun _ => none) 0 (some u16.1)) 1 (some q17)) 2 (some q19)) 3 (some q21)) 4 (some q23)) 5 (some q25)), aQ g 4 q13 4 (va_up (va_up (va_up (va_up (fun _ => none) 0 (some q27)) 1 (some q29)) 2 (some q31)) 3 (some q33))] := hG
  refine lv_iinc (v := 4) (lv' := [(1, .int 4), (0, .ref o)]) hx hb dX7_init_170 hl (k := 0) rfl (by decide) (by decide) rfl (fun ls hl => ?_)
  refine lv_goto (tgt := 152) hx hb dX7_init_173 (by decide) ?_
  refine lv_iload_n hx hb dX7_init_152 rfl (lv_at hl 0 rfl) ?_
  refine lv_iconst (v := 4) hx hb dX7_init_153 (by decide) ?_
  refine lv_icmp_ge (tgt := 176) hx hb dX7_init_154 (by decide) (fun hc => ?_) (fun hc => absurd (by decide) hc)
  replace hG := hG.perm ((blk_perm2 (l2 := [oX7 g o (va_up (va_up (va_up (fun _ => 0) 2 0) 5 0) 9 1) (va_up (va_up (va_up (va_up (va_up (va_up (va_up (va_up (va_up (fun _ => none) 0 (some q1)) 1 (some q3)) 3 (some q5)) 4 (some q7)) 6 (some q8)) 7 (some q10)) 8 (some q12)) 10 (some q13)) 11 (some q14)), aQ g 5 q7 8 (fun _ => none), aQ g 3 q12 6 (va_up (va_up (va_up (va_up (va_up (va_up (fun _ => none) 0 (some u16.1)) 1 (some q17)) 2 (some q19)) 3 (some q21)) 4 (some q23)) 5 (some q25)), aQ g 4 q13 4 (va_up (va_up (va_up (va_up (fun _ => none) 0 (some q27)) 1 (some q29)) 2 (some q31)) 3 (some q33)), wX2 g q1 u2 st0_X2, wX2 g q3 u4 st0_X2, wX0 g q5 u6 st0_X0, wX6 g q8 u9 (st0_X6 0 0 0), wX4 g q10 u11 st0_X4, wX5 g u16.1 u16.2 t0, wX5 g q17 u18 st0_X5, wX5 g q19 u20 st0_X5, wX5 g q21 u22 st0_X5, wX5 g q23 u24 st0_X5, wX5 g q25 u26 st0_X5, wX3 g q27 u28 st0_X3, wX3 g q29 u30 st0_X3, wX3 g q31 u32 st0_X3, wX3 g q33 u34 st0_X3, wX1 g q14 u15 st0_X1, wF g (u15 3) 6 st0_N]) [17, 18, 19, 20, 16, 15, 14, 13, 12, 9, 8, 7, 6, 5, 4, 3, 2, 1, 0, 10, 11] 21 rfl rfl (by decide)).flatten)
  obtain ⟨a, ha⟩ : ∃ a : Nat → Nat → Nat, a = (fun j => if j = 0 then (fun k => ((va_up (va_up (va_up (va_up (va_up (va_up (va_up (va_up (va_up (fun _ => none) 0 (some q1)) 1 (some q3)) 3 (some q5)) 4 (some q7)) 6 (some q8)) 7 (some q10)) 8 (some q12)) 10 (some q13)) 11 (some q14)) k).getD 0) else if j = 1 then u2 else if j = 2 then u4 else if j = 3 then u6 else if j = 4 then (fun _ => 0) else if j = 5 then u15 else if j = 6 then u9 else if j = 7 then (fun i => if i = 0 then u16.1 else if i = 1 then q17 else if i = 2 then q19 else if i = 3 then q21 else if i = 4 then q23 else if i = 5 then q25 else 0) else if j = 8 then (fun i => if i = 0 then q27 else if i = 1 then q29 else if i = 2 then q31 else if i = 3 then q33 else 0) else if j = 9 then u11 else if j = 20 then u16.2 else if j = 21 then u18 else if j = 22 then u20 else if j = 23 then u22 else if j = 24 then u24 else if j = 25 then u26 else if j = 30 then u28 else if j = 31 then u30 else if j = 32 then u32 else if j = 33 then u34 else (fun _ => 0)) := ⟨_, rfl⟩
  replace hG := GM_congr (b := aQ g 5 q7 8 (fun _ => none)) (b' := aQ g 5 q7 8 (fun i => if i < 0 then some (a 4 i) else none)) 1 rfl (fun h => P_congr_q h (fun i _ => by simp)) rfl hG
  replace hG := GM_congr (b := aQ g 3 q12 6 (va_up (va_up (va_up (va_up (va_up (va_up (fun _ => none) 0 (some u16.1)) 1 (some q17)) 2 (some q19)) 3 (some q21)) 4 (some q23)) 5 (some q25))) (b' := aQ g 3 q12 6 (fun i => some (a 7 i))) 2 rfl (fun h => P_congr_q h (by rw [ha]; intro i hi; rcases i with _ | _ | _ | _ | _ | _ | i <;> first | rfl | omega)) rfl hG
  replace hG := GM_congr (b := aQ g 4 q13 4 (va_up (va_up (va_up (va_up (fun _ => none) 0 (some q27)) 1 (some q29)) 2 (some q31)) 3 (some q33))) (b' := aQ g 4 q13 4 (fun i => some (a 8 i))) 3 rfl (fun h => P_congr_q h (by rw [ha]; intro i hi; rcases i with _ | _ | _ | _ | i <;> first | rfl | omega)) rfl hG
  subst ha
  subst hQ
  exact r_nret (fun j => if j = 0 then (fun k => ((va_up (va_up (va_up (va_up (va_up (va_up (va_up (va_up (va_up (fun _ => none) 0 (some q1)) 1 (some q3)) 3 (some q5)) 4 (some q7)) 6 (some q8)) 7 (some q10)) 8 (some q12)) 10 (some q13)) 11 (some q14)) k).getD 0) else if j = 1 then u2 else if j = 2 then u4 else if j = 3 then u6 else if j = 4 then (fun _ => 0) else if j = 5 then u15 else if j = 6 then u9 else if j = 7 then (fun i => if i = 0 then u16.1 else if i = 1 then q17 else if i = 2 then q19 else if i = 3 then q21 else if i = 4 then q23 else if i = 5 then q25 else 0) else if j = 8 then (fun i => if i = 0 then q27 else if i = 1 then q29 else if i = 2 then q31 else if i = 3 then q33 else 0) else if j = 9 then u11 else if j = 20 then u16.2 else if j = 21 then u18 else if j = 22 then u20 else if j = 23 then u22 else if j = 24 then u24 else if j = 25 then u26 else if j = 30 then u28 else if j = 31 then u30 else if j = 32 then u32 else if j = 33 then u34 else (fun _ => 0)) X (show GM g A s.heap H locs (wC g o (fun j => if j = 0 then (fun k => ((va_up (va_up (va_up (va_up (va_up (va_up (va_up (va_up (va_up (fun _ => none) 0 (some q1)) 1 (some q3)) 3 (some q5)) 4 (some q7)) 6 (some q8)) 7 (some q10)) 8 (some q12)) 10 (some q13)) 11 (some q14)) k).getD 0) else if j = 1 then u2 else if j = 2 then u4 else if j = 3 then u6 else if j = 4 then (fun _ => 0) else if j = 5 then u15 else if j = 6 then u9 else if j = 7 then (fun i => if i = 0 then u16.1 else if i = 1 then q17 else if i = 2 then q19 else if i = 3 then q21 else if i = 4 then q23 else if i = 5 then q25 else 0) else if j = 8 then (fun i => if i = 0 then q27 else if i = 1 then q29 else if i = 2 then q31 else if i = 3 then q33 else 0) else if j = 9 then u11 else if j = 20 then u16.2 else if j = 21 then u18 else if j = 22 then u20 else if j = 23 then u22 else if j = 24 then u24 else if j = 25 then u26 else if j = 30 then u28 else if j = 31 then u30 else if j = 32 then u32 else if j = 33 then u34 else (fun _ => 0)) 0 (st0_C t0)) from hG) dX7_init_176
def upa (a : Nat → Nat → Nat) (nw q : Nat) : Nat → Nat → Nat := fun j => if j = 4 then va_up (a 4) nw q else a j
def wyadd (s : MS) (nw : Nat) (x y z : Int32) : MS := (s.1, fun k i => if i = nw then (if k = 0 then x else if k = 1 then y else z) else s.2 k i)
theorem wX7_way {g : GT} {o nw q : Nat} {a : Nat → Nat → Nat} {s : MS} {H : Heap} (h : va_P g.1 vwCl ((wX7 g o a nw s).set 1 (a 0 4, .inl (g.2.1 5, 8, .inr (.inr (.inr (.inr (va_up (fun i => if i < nw then some (a 4 i) else none) nw (some q)))))))) H) : va_P g.1 vwCl (wX7 g o (upa a nw q) (nw + 1) s) H := by
  have hall := P_iff.mp h
  refine P_iff.mpr fun x hx => ?_
  have hx2 : x ∈ [(wX7 g o a nw s).getD 0 (0, .inr (0, [])), (a 0 4, (.inl (g.2.1 5, 8, .inr (.inr (.inr (.inr (fun i => if i < nw + 1 then some (upa a nw q 4 i) else none))))) : va_E)), (wX7 g o a nw s).getD 2 (0, .inr (0, [])), (wX7 g o a nw s).getD 3 (0, .inr (0, []))] := hx
  rcases List.mem_cons.mp hx2 with rfl | hx2
  · exact hall _ (List.mem_of_getElem? (i := 0) rfl)
  rcases List.mem_cons.mp hx2 with rfl | hx2
  · refine at_congr_q (hall _ (List.mem_of_getElem? (i := 1) rfl)) (fun i hi => ?_)
    show va_up (fun i => if i < nw then some (a 4 i) else none) nw (some q) i = if i < nw + 1 then some (va_up (a 4) nw q i) else none
    by_cases e : i = nw
    · subst e; simp [va_up]
    · simp only [va_up, e, if_false]
      by_cases h2 : i < nw
      · rw [if_pos h2, if_pos (by omega)]
      · rw [if_neg h2, if_neg (by omega)]
  rcases List.mem_cons.mp hx2 with rfl | hx2
  · exact hall _ (List.mem_of_getElem? (i := 2) rfl)
  rcases List.mem_cons.mp hx2 with rfl | hx2
  · exact hall _ (List.mem_of_getElem? (i := 3) rfl)
  · cases hx2
theorem wYs_add (g : GT) (a : Nat → Nat → Nat) (nw q : Nat) (u : Nat → Nat) (s : MS) (x y z : Int32) : (wYs g (upa a nw q) (nw + 1) (wyadd s nw x y z)).Perm (wYs g a nw s ++ wX6 g q u (st0_X6 x y z)) := by
  have e : wYs g (upa a nw q) (nw + 1) (wyadd s nw x y z) = wYs g a nw s ++ wX6 g q u (st0_X6 x y z) := by
    unfold wYs
    rw [List.range_succ, List.map_append]
    congr 1
    · apply List.map_congr_left
      intro i hi
      have hne : i ≠ nw := by have := List.mem_range.mp hi; omega
      simp [upa, va_up, wyadd, hne]
    · simp [upa, va_up, wyadd, wX6, st0_X6]
  rw [e]
def f_X7_way (n : Nat) (nw : Nat) (a1 : Int32) (a2 : Int32) (a3 : Int32) (c : CS) : Option (Int32 × Bool × CS) :=
  cl (f_X7_between n a1 0 5) fun q1 =>
  if q1 = 0 then (
    some ((-2), false, (c.1, c.2.1, c.2.2.1, c.2.2.2.1, c.2.2.2.2.1, c.2.2.2.2.2.1, c.2.2.2.2.2.2.1, c.2.2.2.2.2.2.2.1, c.2.2.2.2.2.2.2.2.1, c.2.2.2.2.2.2.2.2.2.1, c.2.2.2.2.2.2.2.2.2.2)))
  else (
    cl (f_X7_isMinute n a2) fun q3 =>
    if q3 = 0 then (
      some ((-2), false, (c.1, c.2.1, c.2.2.1, c.2.2.2.1, c.2.2.2.2.1, c.2.2.2.2.2.1, c.2.2.2.2.2.2.1, c.2.2.2.2.2.2.2.1, c.2.2.2.2.2.2.2.2.1, c.2.2.2.2.2.2.2.2.2.1, c.2.2.2.2.2.2.2.2.2.2)))
    else (
      cl (f_X7_between n a3 0 9) fun q5 =>
      if q5 = 0 then (
        some ((-2), false, (c.1, c.2.1, c.2.2.1, c.2.2.2.1, c.2.2.2.2.1, c.2.2.2.2.2.1, c.2.2.2.2.2.2.1, c.2.2.2.2.2.2.2.1, c.2.2.2.2.2.2.2.2.1, c.2.2.2.2.2.2.2.2.2.1, c.2.2.2.2.2.2.2.2.2.2)))
      else (
        if (c.1.1 5) < 8 then (
          ck (decide ((c.1.1 5) = nI nw)) <| ck (ib (c.1.1 5) 8) <|
          some ((c.1.1 5), true, (sp c.1 5 ((c.1.1 5) + 1), c.2.1, c.2.2.1, c.2.2.2.1, wyadd c.2.2.2.2.1 nw a1 a2 a3, c.2.2.2.2.2)))
        else (
          some ((-4), false, (c.1, c.2.1, c.2.2.1, c.2.2.2.1, c.2.2.2.2.1, c.2.2.2.2.2.1, c.2.2.2.2.2.2.1, c.2.2.2.2.2.2.2.1, c.2.2.2.2.2.2.2.2.1, c.2.2.2.2.2.2.2.2.2.1, c.2.2.2.2.2.2.2.2.2.2))))))
def rmX7_way : Room := { frames := 2, cells := 1, slots := 3, locals := 53 }
set_option maxHeartbeats 4000000 in
set_option maxRecDepth 100000 in
theorem c_X7_way (g : GT) (l : Launch) (o : Nat) (a : Nat → Nat → Nat) (nw : Nat) (hwn : nw < 2 ^ 31) (n : Nat) (a1 a2 a3 : Int32) (c : CS) (q : Int32 × Bool × CS) (hf : f_X7_way n nw a1 a2 a3 c = some q) : CM g l yX7_way cX7_way 4 (some .int) rmX7_way [.ref o, .int a1, .int a2, .int a3] (wC g o a nw c) q.1 (fun (u : Nat) => cond q.2.1 (wC g o (upa a nw u) (nw + 1) q.2.2) (wC g o a nw q.2.2)) 1 3 := by
  refine CM_intro RX7 rfl (by decide +kernel) (Nat.le_of_ble_eq_true rfl) ?_
  intro p e s m args below meth c9 A ls Q hQ X hl hG
  have hl : lv_has ls 4 [(0, .ref o), (1, .int a1), (2, .int a2), (3, .int a3)] := hl
  have hG : GM g A s.heap s.heap [] [wX7 g o a nw c.1, wX2 g (a 0 0) (a 1) c.2.1, wX2 g (a 0 1) (a 2) c.2.2.1, wX0 g (a 0 3) (a 3) c.2.2.2.1, wYs g a nw c.2.2.2.2.1, wX6 g (a 0 6) (a 6) c.2.2.2.2.2.1, wX4 g (a 0 7) (a 9) c.2.2.2.2.2.2.1, wTs g a c.2.2.2.2.2.2.2.1, wSs g a c.2.2.2.2.2.2.2.2.1, wX1 g (a 0 11) (a 5) c.2.2.2.2.2.2.2.2.2.1, wF g (a 5 3) 6 c.2.2.2.2.2.2.2.2.2.2] := hG
  have hx := X.1
  have hb := X.2.1
  have hown := X.2.2.2.1
  unfold f_X7_way at hf
  refine lv_iload_n hx hb dX7_way_0 rfl (lv_at hl 1 rfl) ?_
  refine lv_iconst (v := 0) hx hb dX7_way_1 (by decide) ?_
  refine lv_iconst (v := 5) hx hb dX7_way_2 (by decide) ?_
  obtain ⟨q1, hq1, hf⟩ := cl_inv hf
  refine r_callSi (bc := []) (br := [wX7 g o a nw c.1, wX2 g (a 0 0) (a 1) c.2.1, wX2 g (a 0 1) (a 2) c.2.2.1, wX0 g (a 0 3) (a 3) c.2.2.2.1, wYs g a nw c.2.2.2.2.1, wX6 g (a 0 6) (a 6) c.2.2.2.2.2.1, wX4 g (a 0 7) (a 9) c.2.2.2.2.2.2.1, wTs g a c.2.2.2.2.2.2.2.1, wSs g a c.2.2.2.2.2.2.2.2.1, wX1 g (a 0 11) (a 5) c.2.2.2.2.2.2.2.2.2.1, wF g (a 5 3) 6 c.2.2.2.2.2.2.2.2.2.2]) (bs' := [wX7 g o a nw c.1, wX2 g (a 0 0) (a 1) c.2.1, wX2 g (a 0 1) (a 2) c.2.2.1, wX0 g (a 0 3) (a 3) c.2.2.2.1, wYs g a nw c.2.2.2.2.1, wX6 g (a 0 6) (a 6) c.2.2.2.2.2.1, wX4 g (a 0 7) (a 9) c.2.2.2.2.2.2.1, wTs g a c.2.2.2.2.2.2.2.1, wSs g a c.2.2.2.2.2.2.2.2.1, wX1 g (a 0 11) (a 5) c.2.2.2.2.2.2.2.2.2.1, wF g (a 5 3) 6 c.2.2.2.2.2.2.2.2.2.2]) (As := [.int a1, .int 0, .int 5]) (rest := []) X hG hl.1 (c_X7_between g l n a1 0 5 q1 hq1) (List.Perm.refl _) (List.Perm.refl _) lk_X7_between ls_X7_between ml_7_106 rfl rfl ⟨Nat.le_of_ble_eq_true rfl, Nat.le_of_ble_eq_true rfl⟩ rfl rfl (Nat.le_of_ble_eq_true rfl) ⟨Nat.zero_le _, Nat.zero_le _⟩ dX7_way_3 (fun H locs hG => ?_)
  refine lv_if_eq (tgt := 26) hx hb dX7_way_6 (by decide) (fun hc2 => ?_) (fun hc2 => ?_)
  · replace hf := ite_t hf hc2
    refine lv_bipush (v := (-2)) hx hb dX7_way_26 (by decide) ?_
    have hq9 := Option.some.inj hf
    subst hq9
    subst hQ
    refine W.widen (k := 1) (n := 3) (by omega) (by omega) ?_
    exact r_mret (bs'' := fun u => cond false (wC g o (upa a nw u) (nw + 1) c) (wC g o a nw c)) 0 X hG dX7_way_28
  · replace hf := ite_f hf hc2
    refine lv_iload_n hx hb dX7_way_9 rfl (lv_at hl 2 rfl) ?_
    obtain ⟨q3, hq3, hf⟩ := cl_inv hf
    refine r_callSi (bc := []) (br := [wX7 g o a nw c.1, wX2 g (a 0 0) (a 1) c.2.1, wX2 g (a 0 1) (a 2) c.2.2.1, wX0 g (a 0 3) (a 3) c.2.2.2.1, wYs g a nw c.2.2.2.2.1, wX6 g (a 0 6) (a 6) c.2.2.2.2.2.1, wX4 g (a 0 7) (a 9) c.2.2.2.2.2.2.1, wTs g a c.2.2.2.2.2.2.2.1, wSs g a c.2.2.2.2.2.2.2.2.1, wX1 g (a 0 11) (a 5) c.2.2.2.2.2.2.2.2.2.1, wF g (a 5 3) 6 c.2.2.2.2.2.2.2.2.2.2]) (bs' := [wX7 g o a nw c.1, wX2 g (a 0 0) (a 1) c.2.1, wX2 g (a 0 1) (a 2) c.2.2.1, wX0 g (a 0 3) (a 3) c.2.2.2.1, wYs g a nw c.2.2.2.2.1, wX6 g (a 0 6) (a 6) c.2.2.2.2.2.1, wX4 g (a 0 7) (a 9) c.2.2.2.2.2.2.1, wTs g a c.2.2.2.2.2.2.2.1, wSs g a c.2.2.2.2.2.2.2.2.1, wX1 g (a 0 11) (a 5) c.2.2.2.2.2.2.2.2.2.1, wF g (a 5 3) 6 c.2.2.2.2.2.2.2.2.2.2]) (As := [.int a2]) (rest := []) X hG hl.1 (c_X7_isMinute g l n a2 q3 hq3) (List.Perm.refl _) (List.Perm.refl _) lk_X7_isMinute ls_X7_isMinute ml_7_110 rfl rfl ⟨Nat.le_of_ble_eq_true rfl, Nat.le_of_ble_eq_true rfl⟩ rfl rfl (Nat.le_of_ble_eq_true rfl) ⟨Nat.zero_le _, Nat.zero_le _⟩ dX7_way_10 (fun H locs hG => ?_)
    refine lv_if_eq (tgt := 26) hx hb dX7_way_13 (by decide) (fun hc4 => ?_) (fun hc4 => ?_)
    · replace hf := ite_t hf hc4
      refine lv_bipush (v := (-2)) hx hb dX7_way_26 (by decide) ?_
      have hq9 := Option.some.inj hf
      subst hq9
      subst hQ
      refine W.widen (k := 1) (n := 3) (by omega) (by omega) ?_
      exact r_mret (bs'' := fun u => cond false (wC g o (upa a nw u) (nw + 1) c) (wC g o a nw c)) 0 X hG dX7_way_28
    · replace hf := ite_f hf hc4
      refine lv_iload_n hx hb dX7_way_16 rfl (lv_at hl 3 rfl) ?_
      refine lv_iconst (v := 0) hx hb dX7_way_17 (by decide) ?_
      refine lv_bipush (v := 9) hx hb dX7_way_18 (by decide) ?_
      obtain ⟨q5, hq5, hf⟩ := cl_inv hf
      refine r_callSi (bc := []) (br := [wX7 g o a nw c.1, wX2 g (a 0 0) (a 1) c.2.1, wX2 g (a 0 1) (a 2) c.2.2.1, wX0 g (a 0 3) (a 3) c.2.2.2.1, wYs g a nw c.2.2.2.2.1, wX6 g (a 0 6) (a 6) c.2.2.2.2.2.1, wX4 g (a 0 7) (a 9) c.2.2.2.2.2.2.1, wTs g a c.2.2.2.2.2.2.2.1, wSs g a c.2.2.2.2.2.2.2.2.1, wX1 g (a 0 11) (a 5) c.2.2.2.2.2.2.2.2.2.1, wF g (a 5 3) 6 c.2.2.2.2.2.2.2.2.2.2]) (bs' := [wX7 g o a nw c.1, wX2 g (a 0 0) (a 1) c.2.1, wX2 g (a 0 1) (a 2) c.2.2.1, wX0 g (a 0 3) (a 3) c.2.2.2.1, wYs g a nw c.2.2.2.2.1, wX6 g (a 0 6) (a 6) c.2.2.2.2.2.1, wX4 g (a 0 7) (a 9) c.2.2.2.2.2.2.1, wTs g a c.2.2.2.2.2.2.2.1, wSs g a c.2.2.2.2.2.2.2.2.1, wX1 g (a 0 11) (a 5) c.2.2.2.2.2.2.2.2.2.1, wF g (a 5 3) 6 c.2.2.2.2.2.2.2.2.2.2]) (As := [.int a3, .int 0, .int 9]) (rest := []) X hG hl.1 (c_X7_between g l n a3 0 9 q5 hq5) (List.Perm.refl _) (List.Perm.refl _) lk_X7_between ls_X7_between ml_7_106 rfl rfl ⟨Nat.le_of_ble_eq_true rfl, Nat.le_of_ble_eq_true rfl⟩ rfl rfl (Nat.le_of_ble_eq_true rfl) ⟨Nat.zero_le _, Nat.zero_le _⟩ dX7_way_20 (fun H locs hG => ?_)
      refine lv_if_ne (tgt := 29) hx hb dX7_way_23 (by decide) (fun hc6 => ?_) (fun hc6 => ?_)
      · replace hf := ite_f hf hc6
        refine lv_aload_n hx hb dX7_way_29 rfl (lv_at hl 0 rfl) ?_
        refine G_7_36 X hG 0 rfl dX7_way_30 ?_
        refine lv_bipush (v := 8) hx hb dX7_way_33 (by decide) ?_
        refine lv_icmp_lt (tgt := 41) hx hb dX7_way_35 (by decide) (fun hc7 => ?_) (fun hc7 => ?_)
        · replace hf := ite_t hf hc7
          refine lv_aload_n hx hb dX7_way_41 rfl (lv_at hl 0 rfl) ?_
          refine G_7_32 X hG 0 rfl dX7_way_42 ?_
          refine lv_aload_n hx hb dX7_way_45 rfl (lv_at hl 0 rfl) ?_
          refine G_7_36 X hG 0 rfl dX7_way_46 ?_
          obtain ⟨hnw, hf⟩ := ck_inv hf
          obtain ⟨hib, hf⟩ := ck_inv hf
          replace hnw := of_decide_eq_true hnw
          have hnw2 : Int32.toNatClampNeg (c.1.1 5) = nw := by rw [hnw]; refine nI_clamp ?_; have := ib_lt hib; have h5 := ib_nI hib; rw [hnw] at this h5; rcases Nat.lt_or_ge nw (2 ^ 31) with h | h; exact h; exact absurd hwn (by omega)
          have hq9 := Option.some.inj hf
          subst hq9
          subst hQ
          refine r_new (ci := 6) (fs := [.int 0, .int 0, .int 0]) (C := RX6) (T := TX6) (N := 3) X hG inX6 tyX6 tyX6_ok (TW_at 157 (by decide +kernel) (by decide +kernel)) (TW_at 159 (by decide +kernel) (by decide +kernel)) (TW_at 63 (by decide +kernel) (by decide +kernel)) rfl nfX6 (by show (_ : Nat) ≤ _; decide) (by show (_ : Nat) ≤ _; decide) dX7_way_49 (fun q1 H hG => ?_)
          refine W.widen (k := 1) (n := 3) (by omega) (by omega) ?_
          refine lv_dup hx hb dX7_way_52 rfl ?_
          refine lv_iload_n hx hb dX7_way_53 rfl (lv_at hl 1 rfl) ?_
          refine lv_iload_n hx hb dX7_way_54 rfl (lv_at hl 2 rfl) ?_
          refine lv_iload_n hx hb dX7_way_55 rfl (lv_at hl 3 rfl) ?_
          refine r_callI (bc := [oX6 g q1 (fun _ => 0) (fun _ => none)]) (br := [wX7 g o a nw c.1, wX2 g (a 0 0) (a 1) c.2.1, wX2 g (a 0 1) (a 2) c.2.2.1, wX0 g (a 0 3) (a 3) c.2.2.2.1, wYs g a nw c.2.2.2.2.1, wX6 g (a 0 6) (a 6) c.2.2.2.2.2.1, wX4 g (a 0 7) (a 9) c.2.2.2.2.2.2.1, wTs g a c.2.2.2.2.2.2.2.1, wSs g a c.2.2.2.2.2.2.2.2.1, wX1 g (a 0 11) (a 5) c.2.2.2.2.2.2.2.2.2.1, wF g (a 5 3) 6 c.2.2.2.2.2.2.2.2.2.2]) (As := [.int a1, .int a2, .int a3]) (rest := .ref q1 :: [.int (c.1.1 5), .ref (a 0 4)]) X hG hl.1 (n_X6 g l q1 a1 a2 a3) ((blk_perm2 [11, 0, 1, 2, 3, 4, 5, 6, 7, 8, 9, 10] 12 rfl rfl (by decide)).flatten) lk_X6_init rfl li_X6_init (TW_at 160 (by decide +kernel) (by decide +kernel)) rfl rfl ⟨Nat.le_of_ble_eq_true rfl, Nat.le_of_ble_eq_true rfl⟩ rfl rfl (Nat.le_of_ble_eq_true rfl) ⟨by show (_ : Nat) ≤ _; decide, by show (_ : Nat) ≤ _; decide⟩ dX7_way_56 (fun u1 H locs hG => ?_)
          refine r_aastq (ci := 6) (r := (RX6, TX6, 3)) 5 rfl X hG 1 1 rfl rfl 0 0 rfl rfl rfl (ib_in hib) dX7_way_59 (fun H locs hG => ?_)
          rw [hnw2] at hG
          have hG : GM g A s.heap H locs [wX6 g q1 u1 (st0_X6 a1 a2 a3), ((wX7 g o a nw c.1).set 1 (a 0 4, .inl (g.2.1 5, 8, .inr (.inr (.inr (.inr (va_up (fun i => if i < nw then some (a 4 i) else none) nw (some q1)))))))), wX2 g (a 0 0) (a 1) c.2.1, wX2 g (a 0 1) (a 2) c.2.2.1, wX0 g (a 0 3) (a 3) c.2.2.2.1, wYs g a nw c.2.2.2.2.1, wX6 g (a 0 6) (a 6) c.2.2.2.2.2.1, wX4 g (a 0 7) (a 9) c.2.2.2.2.2.2.1, wTs g a c.2.2.2.2.2.2.2.1, wSs g a c.2.2.2.2.2.2.2.2.1, wX1 g (a 0 11) (a 5) c.2.2.2.2.2.2.2.2.2.1, wF g (a 5 3) 6 c.2.2.2.2.2.2.2.2.2.2] := hG
          replace hG := GM_congr (b := ((wX7 g o a nw c.1).set 1 (a 0 4, .inl (g.2.1 5, 8, .inr (.inr (.inr (.inr (va_up (fun i => if i < nw then some (a 4 i) else none) nw (some q1))))))))) (b' := wX7 g o (upa a nw q1) (nw + 1) c.1) 1 rfl wX7_way rfl hG
          replace hG := hG.perm ((blk_perm2 (l2 := [wX7 g o (upa a nw q1) (nw + 1) c.1, wX2 g (a 0 0) (a 1) c.2.1, wX2 g (a 0 1) (a 2) c.2.2.1, wX0 g (a 0 3) (a 3) c.2.2.2.1, wYs g a nw c.2.2.2.2.1, wX6 g q1 u1 (st0_X6 a1 a2 a3), wX6 g (a 0 6) (a 6) c.2.2.2.2.2.1, wX4 g (a 0 7) (a 9) c.2.2.2.2.2.2.1, wTs g a c.2.2.2.2.2.2.2.1, wSs g a c.2.2.2.2.2.2.2.2.1, wX1 g (a 0 11) (a 5) c.2.2.2.2.2.2.2.2.2.1, wF g (a 5 3) 6 c.2.2.2.2.2.2.2.2.2.2]) [1, 2, 3, 4, 5, 0, 6, 7, 8, 9, 10, 11] 12 rfl rfl (by decide)).flatten)
          replace hG := hG.perm (b2 := [wX7 g o (upa a nw q1) (nw + 1) c.1, wX2 g (a 0 0) (a 1) c.2.1, wX2 g (a 0 1) (a 2) c.2.2.1, wX0 g (a 0 3) (a 3) c.2.2.2.1, wYs g (upa a nw q1) (nw + 1) (wyadd c.2.2.2.2.1 nw a1 a2 a3), wX6 g (a 0 6) (a 6) c.2.2.2.2.2.1, wX4 g (a 0 7) (a 9) c.2.2.2.2.2.2.1, wTs g a c.2.2.2.2.2.2.2.1, wSs g a c.2.2.2.2.2.2.2.2.1, wX1 g (a 0 11) (a 5) c.2.2.2.2.2.2.2.2.2.1, wF g (a 5 3) 6 c.2.2.2.2.2.2.2.2.2.2]) ((focus_perm 4 rfl (wYs_add g a nw q1 u1 _ a1 a2 a3)).symm)
          have hG : GM g A s.heap H locs [wX7 g o (upa a nw q1) (nw + 1) c.1, wX2 g (upa a nw q1 0 0) (upa a nw q1 1) c.2.1, wX2 g (upa a nw q1 0 1) (upa a nw q1 2) c.2.2.1, wX0 g (upa a nw q1 0 3) (upa a nw q1 3) c.2.2.2.1, wYs g (upa a nw q1) (nw + 1) (wyadd c.2.2.2.2.1 nw a1 a2 a3), wX6 g (upa a nw q1 0 6) (upa a nw q1 6) c.2.2.2.2.2.1, wX4 g (upa a nw q1 0 7) (upa a nw q1 9) c.2.2.2.2.2.2.1, wTs g (upa a nw q1) c.2.2.2.2.2.2.2.1, wSs g (upa a nw q1) c.2.2.2.2.2.2.2.2.1, wX1 g (upa a nw q1 0 11) (upa a nw q1 5) c.2.2.2.2.2.2.2.2.2.1, wF g (upa a nw q1 5 3) 6 c.2.2.2.2.2.2.2.2.2.2] := hG
          refine lv_aload_n hx hb dX7_way_60 rfl (lv_at hl 0 rfl) ?_
          refine lv_dup hx hb dX7_way_61 rfl ?_
          refine G_7_36 X hG 0 rfl dX7_way_62 ?_
          refine lv_dup_x1 hx hb dX7_way_65 rfl rfl ?_
          refine lv_iconst (v := 1) hx hb dX7_way_66 (by decide) ?_
          refine lv_iadd hx hb dX7_way_67 ?_
          refine P_7_36 (K := some) X hG 0 rfl rfl (fun t => [wX7 g o (upa a nw q1) (nw + 1) t, wX2 g (upa a nw q1 0 0) (upa a nw q1 1) c.2.1, wX2 g (upa a nw q1 0 1) (upa a nw q1 2) c.2.2.1, wX0 g (upa a nw q1 0 3) (upa a nw q1 3) c.2.2.2.1, wYs g (upa a nw q1) (nw + 1) (wyadd c.2.2.2.2.1 nw a1 a2 a3), wX6 g (upa a nw q1 0 6) (upa a nw q1 6) c.2.2.2.2.2.1, wX4 g (upa a nw q1 0 7) (upa a nw q1 9) c.2.2.2.2.2.2.1, wTs g (upa a nw q1) c.2.2.2.2.2.2.2.1, wSs g (upa a nw q1) c.2.2.2.2.2.2.2.2.1, wX1 g (upa a nw q1 0 11) (upa a nw q1 5) c.2.2.2.2.2.2.2.2.2.1, wF g (upa a nw q1 5 3) 6 c.2.2.2.2.2.2.2.2.2.2]) (fun _ => rfl) dX7_way_68 (fun t H locs hf hG => ?_)
          cases hf
          exact r_mret (bs'' := fun u => cond true (wC g o (upa a nw u) (nw + 1) (sp c.1 5 ((c.1.1 5) + 1), c.2.1, c.2.2.1, c.2.2.2.1, wyadd c.2.2.2.2.1 nw a1 a2 a3, c.2.2.2.2.2)) (wC g o a nw c)) q1 X hG dX7_way_71
        · replace hf := ite_f hf hc7
          refine lv_bipush (v := (-4)) hx hb dX7_way_38 (by decide) ?_
          have hq9 := Option.some.inj hf
          subst hq9
          subst hQ
          refine W.widen (k := 1) (n := 3) (by omega) (by omega) ?_
          exact r_mret (bs'' := fun u => cond false (wC g o (upa a nw u) (nw + 1) c) (wC g o a nw c)) 0 X hG dX7_way_40
      · replace hf := ite_t hf hc6
        refine lv_bipush (v := (-2)) hx hb dX7_way_26 (by decide) ?_
        have hq9 := Option.some.inj hf
        subst hq9
        subst hQ
        refine W.widen (k := 1) (n := 3) (by omega) (by omega) ?_
        exact r_mret (bs'' := fun u => cond false (wC g o (upa a nw u) (nw + 1) c) (wC g o a nw c)) 0 X hG dX7_way_28
