def st0_X0 : MS := ((va_up (fun _ => 0) 0 0), (fun _ _ => 0))
def rmn_X0 : Room := { frames := 1, cells := 3, slots := 12, locals := 30 }
set_option maxHeartbeats 4000000 in
set_option maxRecDepth 100000 in
theorem n_X0 (g : GT) (l : Launch) (o : Nat) : CN g l yX0_init cX0_init 1 rmn_X0 [.ref o] [oX0 g o (fun _ => 0) (fun _ => none)] (fun (u : Nat → Nat) => [wX0 g o u st0_X0]) 3 12 := by
  refine CN_intro RX0 rfl rfl (by decide +kernel) (Nat.le_of_ble_eq_true rfl) ?_
  intro p e s m args below meth c9 A ls Q hQ X hl hmn hG
  have hl : lv_has ls 1 [(0, .ref o)] := hl
  have hG : GM g A s.heap s.heap [] [oX0 g o (fun _ => 0) (fun _ => none)] := hG
  have hx := X.1
  have hb := X.2.1
  have hown := X.2.2.2.1
  obtain ⟨H, hH⟩ : ∃ H, H = s.heap := ⟨_, rfl⟩
  obtain ⟨locs, hlocs⟩ : ∃ L : List Loc, L = [] := ⟨_, rfl⟩
  rw [← hlocs] at hG ⊢
  have hG : GM g A s.heap H locs [oX0 g o (fun _ => 0) (fun _ => none)] := by rw [hH]; exact hG
  show W p l e rmn_X0 s m args below meth c9 s.heap locs 0 0 Q (F0 m 0 ls [])
  rw [show W p l e rmn_X0 s m args below meth c9 s.heap locs 0 0 Q (F0 m 0 ls []) = W p l e rmn_X0 s m args below meth c9 H locs 0 0 Q (F0 m 0 ls []) by rw [hH]]
  refine lv_aload_n hx hb dX0_init_0 rfl (lv_at hl 0 rfl) ?_
  refine r_objInit X hl.1 (TW_at 142 (by decide +kernel) (by decide +kernel)) (TW_at 81 (by decide +kernel) (by decide +kernel)) (TW_at 82 (by decide +kernel) (by decide +kernel)) (Nat.le_of_ble_eq_true rfl) (Nat.le_of_ble_eq_true rfl) dX0_init_1 ?_
  refine lv_aload_n hx hb dX0_init_4 rfl (lv_at hl 0 rfl) ?_
  refine lv_iconst (v := 0) hx hb dX0_init_5 (by decide) ?_
  refine PO_0_9 X hG 0 rfl dX0_init_6 (fun H locs hG => ?_)
  have hG : GM g A s.heap H locs [oX0 g o (va_up (fun _ => 0) 0 0) (fun _ => none)] := hG
  refine lv_aload_n hx hb dX0_init_9 rfl (lv_at hl 0 rfl) ?_
  refine lv_iconst (v := 4) hx hb dX0_init_10 (by decide) ?_
  refine r_newI (N' := 4) X hG (by decide) (by decide) (by decide) (by show (_ : Nat) ≤ _; decide) (by show (_ : Nat) ≤ _; decide) dX0_init_11 (fun q1 H hG => ?_)
  have hG : GM g A s.heap H locs [oX0 g o (va_up (fun _ => 0) 0 0) (fun _ => none), aI g q1 4 (fun _ => 0)] := hG
  refine W.widen (k := 1) (n := 4) (by omega) (by omega) ?_
  refine PO_0_15 X hmn hG 0 rfl dX0_init_13 (fun H locs hG => ?_)
  have hG : GM g A s.heap H locs [oX0 g o (va_up (fun _ => 0) 0 0) (va_up (fun _ => none) 1 (some q1)), aI g q1 4 (fun _ => 0)] := hG
  refine lv_aload_n hx hb dX0_init_16 rfl (lv_at hl 0 rfl) ?_
  refine lv_iconst (v := 4) hx hb dX0_init_17 (by decide) ?_
  refine r_newI (N' := 4) X hG (by decide) (by decide) (by decide) (by show (_ : Nat) ≤ _; decide) (by show (_ : Nat) ≤ _; decide) dX0_init_18 (fun q2 H hG => ?_)
  have hG : GM g A s.heap H locs [oX0 g o (va_up (fun _ => 0) 0 0) (va_up (fun _ => none) 1 (some q1)), aI g q1 4 (fun _ => 0), aI g q2 4 (fun _ => 0)] := hG
  refine W.widen (k := 2) (n := 8) (by omega) (by omega) ?_
  refine PO_0_19 X hmn hG 0 rfl dX0_init_20 (fun H locs hG => ?_)
  have hG : GM g A s.heap H locs [oX0 g o (va_up (fun _ => 0) 0 0) (va_up (va_up (fun _ => none) 1 (some q1)) 2 (some q2)), aI g q1 4 (fun _ => 0), aI g q2 4 (fun _ => 0)] := hG
  refine lv_aload_n hx hb dX0_init_23 rfl (lv_at hl 0 rfl) ?_
  refine lv_iconst (v := 4) hx hb dX0_init_24 (by decide) ?_
  refine r_newI (N' := 4) X hG (by decide) (by decide) (by decide) (by show (_ : Nat) ≤ _; decide) (by show (_ : Nat) ≤ _; decide) dX0_init_25 (fun q3 H hG => ?_)
  have hG : GM g A s.heap H locs [oX0 g o (va_up (fun _ => 0) 0 0) (va_up (va_up (fun _ => none) 1 (some q1)) 2 (some q2)), aI g q1 4 (fun _ => 0), aI g q2 4 (fun _ => 0), aI g q3 4 (fun _ => 0)] := hG
  refine W.widen (k := 3) (n := 12) (by omega) (by omega) ?_
  refine PO_0_22 X hmn hG 0 rfl dX0_init_27 (fun H locs hG => ?_)
  have hG : GM g A s.heap H locs [oX0 g o (va_up (fun _ => 0) 0 0) (va_up (va_up (va_up (fun _ => none) 1 (some q1)) 2 (some q2)) 3 (some q3)), aI g q1 4 (fun _ => 0), aI g q2 4 (fun _ => 0), aI g q3 4 (fun _ => 0)] := hG
  subst hQ
  exact r_nret ((fun k => ((va_up (va_up (va_up (fun _ => none) 1 (some q1)) 2 (some q2)) 3 (some q3)) k).getD 0)) X (show GM g A s.heap H locs [wX0 g o (fun k => ((va_up (va_up (va_up (fun _ => none) 1 (some q1)) 2 (some q2)) 3 (some q3)) k).getD 0) st0_X0] from hG) dX0_init_30
def st0_X2 : MS := ((va_up (va_up (va_up (va_up (va_up (fun _ => 0) 0 0) 6 90) 7 (-1)) 8 (-1)) 9 0), (va_up (fun _ _ => 0) 5 (filln 120 5 (fun _ => 0))))
def rmn_X2 : Room := { frames := 1, cells := 5, slots := 144, locals := 30 }
set_option maxHeartbeats 4000000 in
set_option maxRecDepth 100000 in
theorem n_X2 (g : GT) (l : Launch) (o : Nat) : CN g l yX2_init cX2_init 1 rmn_X2 [.ref o] [oX2 g o (fun _ => 0) (fun _ => none)] (fun (u : Nat → Nat) => [wX2 g o u st0_X2]) 5 144 := by
  refine CN_intro RX2 rfl rfl (by decide +kernel) (Nat.le_of_ble_eq_true rfl) ?_
  intro p e s m args below meth c9 A ls Q hQ X hl hmn hG
  have hl : lv_has ls 1 [(0, .ref o)] := hl
  have hG : GM g A s.heap s.heap [] [oX2 g o (fun _ => 0) (fun _ => none)] := hG
  have hx := X.1
  have hb := X.2.1
  have hown := X.2.2.2.1
  obtain ⟨H, hH⟩ : ∃ H, H = s.heap := ⟨_, rfl⟩
  obtain ⟨locs, hlocs⟩ : ∃ L : List Loc, L = [] := ⟨_, rfl⟩
  rw [← hlocs] at hG ⊢
  have hG : GM g A s.heap H locs [oX2 g o (fun _ => 0) (fun _ => none)] := by rw [hH]; exact hG
  show W p l e rmn_X2 s m args below meth c9 s.heap locs 0 0 Q (F0 m 0 ls [])
  rw [show W p l e rmn_X2 s m args below meth c9 s.heap locs 0 0 Q (F0 m 0 ls []) = W p l e rmn_X2 s m args below meth c9 H locs 0 0 Q (F0 m 0 ls []) by rw [hH]]
  refine lv_aload_n hx hb dX2_init_0 rfl (lv_at hl 0 rfl) ?_
  refine r_objInit X hl.1 (TW_at 88 (by decide +kernel) (by decide +kernel)) (TW_at 81 (by decide +kernel) (by decide +kernel)) (TW_at 82 (by decide +kernel) (by decide +kernel)) (Nat.le_of_ble_eq_true rfl) (Nat.le_of_ble_eq_true rfl) dX2_init_1 ?_
  refine lv_aload_n hx hb dX2_init_4 rfl (lv_at hl 0 rfl) ?_
  refine lv_iconst (v := 0) hx hb dX2_init_5 (by decide) ?_
  refine PO_2_9 X hG 0 rfl dX2_init_6 (fun H locs hG => ?_)
  have hG : GM g A s.heap H locs [oX2 g o (va_up (fun _ => 0) 0 0) (fun _ => none)] := hG
  refine lv_aload_n hx hb dX2_init_9 rfl (lv_at hl 0 rfl) ?_
  refine lv_bipush (v := 6) hx hb dX2_init_10 (by decide) ?_
  refine r_newI (N' := 6) X hG (by decide) (by decide) (by decide) (by show (_ : Nat) ≤ _; decide) (by show (_ : Nat) ≤ _; decide) dX2_init_12 (fun q1 H hG => ?_)
  have hG : GM g A s.heap H locs [oX2 g o (va_up (fun _ => 0) 0 0) (fun _ => none), aI g q1 6 (fun _ => 0)] := hG
  refine W.widen (k := 1) (n := 6) (by omega) (by omega) ?_
  refine PO_2_15 X hmn hG 0 rfl dX2_init_14 (fun H locs hG => ?_)
  have hG : GM g A s.heap H locs [oX2 g o (va_up (fun _ => 0) 0 0) (va_up (fun _ => none) 1 (some q1)), aI g q1 6 (fun _ => 0)] := hG
  refine lv_aload_n hx hb dX2_init_17 rfl (lv_at hl 0 rfl) ?_
  refine lv_bipush (v := 6) hx hb dX2_init_18 (by decide) ?_
  refine r_newI (N' := 6) X hG (by decide) (by decide) (by decide) (by show (_ : Nat) ≤ _; decide) (by show (_ : Nat) ≤ _; decide) dX2_init_20 (fun q2 H hG => ?_)
  have hG : GM g A s.heap H locs [oX2 g o (va_up (fun _ => 0) 0 0) (va_up (fun _ => none) 1 (some q1)), aI g q1 6 (fun _ => 0), aI g q2 6 (fun _ => 0)] := hG
  refine W.widen (k := 2) (n := 12) (by omega) (by omega) ?_
  refine PO_2_19 X hmn hG 0 rfl dX2_init_22 (fun H locs hG => ?_)
  have hG : GM g A s.heap H locs [oX2 g o (va_up (fun _ => 0) 0 0) (va_up (va_up (fun _ => none) 1 (some q1)) 2 (some q2)), aI g q1 6 (fun _ => 0), aI g q2 6 (fun _ => 0)] := hG
  refine lv_aload_n hx hb dX2_init_25 rfl (lv_at hl 0 rfl) ?_
  refine lv_bipush (v := 6) hx hb dX2_init_26 (by decide) ?_
  refine r_newI (N' := 6) X hG (by decide) (by decide) (by decide) (by show (_ : Nat) ≤ _; decide) (by show (_ : Nat) ≤ _; decide) dX2_init_28 (fun q3 H hG => ?_)
  have hG : GM g A s.heap H locs [oX2 g o (va_up (fun _ => 0) 0 0) (va_up (va_up (fun _ => none) 1 (some q1)) 2 (some q2)), aI g q1 6 (fun _ => 0), aI g q2 6 (fun _ => 0), aI g q3 6 (fun _ => 0)] := hG
  refine W.widen (k := 3) (n := 18) (by omega) (by omega) ?_
  refine PO_2_22 X hmn hG 0 rfl dX2_init_30 (fun H locs hG => ?_)
  have hG : GM g A s.heap H locs [oX2 g o (va_up (fun _ => 0) 0 0) (va_up (va_up (va_up (fun _ => none) 1 (some q1)) 2 (some q2)) 3 (some q3)), aI g q1 6 (fun _ => 0), aI g q2 6 (fun _ => 0), aI g q3 6 (fun _ => 0)] := hG
  refine lv_aload_n hx hb dX2_init_33 rfl (lv_at hl 0 rfl) ?_
  refine lv_bipush (v := 6) hx hb dX2_init_34 (by decide) ?_
  refine r_newI (N' := 6) X hG (by decide) (by decide) (by decide) (by show (_ : Nat) ≤ _; decide) (by show (_ : Nat) ≤ _; decide) dX2_init_36 (fun q4 H hG => ?_)
  have hG : GM g A s.heap H locs [oX2 g o (va_up (fun _ => 0) 0 0) (va_up (va_up (va_up (fun _ => none) 1 (some q1)) 2 (some q2)) 3 (some q3)), aI g q1 6 (fun _ => 0), aI g q2 6 (fun _ => 0), aI g q3 6 (fun _ => 0), aI g q4 6 (fun _ => 0)] := hG
  refine W.widen (k := 4) (n := 24) (by omega) (by omega) ?_
  refine PO_2_25 X hmn hG 0 rfl dX2_init_38 (fun H locs hG => ?_)
  have hG : GM g A s.heap H locs [oX2 g o (va_up (fun _ => 0) 0 0) (va_up (va_up (va_up (va_up (fun _ => none) 1 (some q1)) 2 (some q2)) 3 (some q3)) 4 (some q4)), aI g q1 6 (fun _ => 0), aI g q2 6 (fun _ => 0), aI g q3 6 (fun _ => 0), aI g q4 6 (fun _ => 0)] := hG
  refine lv_aload_n hx hb dX2_init_41 rfl (lv_at hl 0 rfl) ?_
  refine lv_bipush (v := 120) hx hb dX2_init_42 (by decide) ?_
  refine r_newI (N' := 120) X hG (by decide) (by decide) (by decide) (by show (_ : Nat) ≤ _; decide) (by show (_ : Nat) ≤ _; decide) dX2_init_44 (fun q5 H hG => ?_)
  have hG : GM g A s.heap H locs [oX2 g o (va_up (fun _ => 0) 0 0) (va_up (va_up (va_up (va_up (fun _ => none) 1 (some q1)) 2 (some q2)) 3 (some q3)) 4 (some q4)), aI g q1 6 (fun _ => 0), aI g q2 6 (fun _ => 0), aI g q3 6 (fun _ => 0), aI g q4 6 (fun _ => 0), aI g q5 120 (fun _ => 0)] := hG
  refine W.widen (k := 5) (n := 144) (by omega) (by omega) ?_
  refine PO_2_28 X hmn hG 0 rfl dX2_init_46 (fun H locs hG => ?_)
  have hG : GM g A s.heap H locs [oX2 g o (va_up (fun _ => 0) 0 0) (va_up (va_up (va_up (va_up (va_up (fun _ => none) 1 (some q1)) 2 (some q2)) 3 (some q3)) 4 (some q4)) 5 (some q5)), aI g q1 6 (fun _ => 0), aI g q2 6 (fun _ => 0), aI g q3 6 (fun _ => 0), aI g q4 6 (fun _ => 0), aI g q5 120 (fun _ => 0)] := hG
  refine lv_aload_n hx hb dX2_init_49 rfl (lv_at hl 0 rfl) ?_
  refine lv_bipush (v := 90) hx hb dX2_init_50 (by decide) ?_
  refine PO_2_31 X hG 0 rfl dX2_init_52 (fun H locs hG => ?_)
  have hG : GM g A s.heap H locs [oX2 g o (va_up (va_up (fun _ => 0) 0 0) 6 90) (va_up (va_up (va_up (va_up (va_up (fun _ => none) 1 (some q1)) 2 (some q2)) 3 (some q3)) 4 (some q4)) 5 (some q5)), aI g q1 6 (fun _ => 0), aI g q2 6 (fun _ => 0), aI g q3 6 (fun _ => 0), aI g q4 6 (fun _ => 0), aI g q5 120 (fun _ => 0)] := hG
  refine lv_aload_n hx hb dX2_init_55 rfl (lv_at hl 0 rfl) ?_
  refine lv_iconst (v := (-1)) hx hb dX2_init_56 (by decide) ?_
  refine PO_2_34 X hG 0 rfl dX2_init_57 (fun H locs hG => ?_)
  have hG : GM g A s.heap H locs [oX2 g o (va_up (va_up (va_up (fun _ => 0) 0 0) 6 90) 7 (-1)) (va_up (va_up (va_up (va_up (va_up (fun _ => none) 1 (some q1)) 2 (some q2)) 3 (some q3)) 4 (some q4)) 5 (some q5)), aI g q1 6 (fun _ => 0), aI g q2 6 (fun _ => 0), aI g q3 6 (fun _ => 0), aI g q4 6 (fun _ => 0), aI g q5 120 (fun _ => 0)] := hG
  refine lv_aload_n hx hb dX2_init_60 rfl (lv_at hl 0 rfl) ?_
  refine lv_iconst (v := (-1)) hx hb dX2_init_61 (by decide) ?_
  refine PO_2_37 X hG 0 rfl dX2_init_62 (fun H locs hG => ?_)
  have hG : GM g A s.heap H locs [oX2 g o (va_up (va_up (va_up (va_up (fun _ => 0) 0 0) 6 90) 7 (-1)) 8 (-1)) (va_up (va_up (va_up (va_up (va_up (fun _ => none) 1 (some q1)) 2 (some q2)) 3 (some q3)) 4 (some q4)) 5 (some q5)), aI g q1 6 (fun _ => 0), aI g q2 6 (fun _ => 0), aI g q3 6 (fun _ => 0), aI g q4 6 (fun _ => 0), aI g q5 120 (fun _ => 0)] := hG
  refine lv_aload_n hx hb dX2_init_65 rfl (lv_at hl 0 rfl) ?_
  refine lv_iconst (v := 0) hx hb dX2_init_66 (by decide) ?_
  refine PO_2_40 X hG 0 rfl dX2_init_67 (fun H locs hG => ?_)
  have hG : GM g A s.heap H locs [oX2 g o (va_up (va_up (va_up (va_up (va_up (fun _ => 0) 0 0) 6 90) 7 (-1)) 8 (-1)) 9 0) (va_up (va_up (va_up (va_up (va_up (fun _ => none) 1 (some q1)) 2 (some q2)) 3 (some q3)) 4 (some q4)) 5 (some q5)), aI g q1 6 (fun _ => 0), aI g q2 6 (fun _ => 0), aI g q3 6 (fun _ => 0), aI g q4 6 (fun _ => 0), aI g q5 120 (fun _ => 0)] := hG
  refine lv_aload_n hx hb dX2_init_70 rfl (lv_at hl 0 rfl) ?_
  refine r_get (v := .ref q5) X hG 0 0 rfl rfl rfl 5 (by decide) inX2 (TW_at 104 (by decide +kernel) (by decide +kernel)) rfl dX2_init_71 ?_
  refine lv_iconst (v := 5) hx hb dX2_init_74 (by decide) ?_
  refine r_fill (idx := 43) (K := some) (st1 := (filln 120 5 (fun _ => 0))) X hG hl.1 (TW_at 89 (by decide +kernel) (by decide +kernel)) 5 0 rfl rfl rfl (fun t => [oX2 g o (va_up (va_up (va_up (va_up (va_up (fun _ => 0) 0 0) 6 90) 7 (-1)) 8 (-1)) 9 0) (va_up (va_up (va_up (va_up (va_up (fun _ => none) 1 (some q1)) 2 (some q2)) 3 (some q3)) 4 (some q4)) 5 (some q5)), aI g q1 6 (fun _ => 0), aI g q2 6 (fun _ => 0), aI g q3 6 (fun _ => 0), aI g q4 6 (fun _ => 0), aI g q5 120 t]) rfl (by decide) (Nat.le_of_ble_eq_true rfl) (Nat.le_of_ble_eq_true rfl) (Nat.le_of_ble_eq_true rfl) ⟨by show (_ : Nat) ≤ _; decide, by show (_ : Nat) ≤ _; decide⟩ dX2_init_75 (fun t H locs hf hG => ?_)
  cases hf
  have hG : GM g A s.heap H locs [oX2 g o (va_up (va_up (va_up (va_up (va_up (fun _ => 0) 0 0) 6 90) 7 (-1)) 8 (-1)) 9 0) (va_up (va_up (va_up (va_up (va_up (fun _ => none) 1 (some q1)) 2 (some q2)) 3 (some q3)) 4 (some q4)) 5 (some q5)), aI g q1 6 (fun _ => 0), aI g q2 6 (fun _ => 0), aI g q3 6 (fun _ => 0), aI g q4 6 (fun _ => 0), aI g q5 120 (filln 120 5 (fun _ => 0))] := hG
  subst hQ
  exact r_nret ((fun k => ((va_up (va_up (va_up (va_up (va_up (fun _ => none) 1 (some q1)) 2 (some q2)) 3 (some q3)) 4 (some q4)) 5 (some q5)) k).getD 0)) X (show GM g A s.heap H locs [wX2 g o (fun k => ((va_up (va_up (va_up (va_up (va_up (fun _ => none) 1 (some q1)) 2 (some q2)) 3 (some q3)) 4 (some q4)) 5 (some q5)) k).getD 0) st0_X2] from hG) dX2_init_78
def st0_X3 : MS := ((va_up (va_up (fun _ => 0) 0 (-1)) 1 0), (fun _ _ => 0))
def rmn_X3 : Room := { frames := 1, cells := 1, slots := 40, locals := 30 }
set_option maxHeartbeats 4000000 in
set_option maxRecDepth 100000 in
theorem n_X3 (g : GT) (l : Launch) (o : Nat) : CN g l yX3_init cX3_init 1 rmn_X3 [.ref o] [oX3 g o (fun _ => 0) (fun _ => none)] (fun (u : Nat → Nat) => [wX3 g o u st0_X3]) 1 40 := by
  refine CN_intro RX3 rfl rfl (by decide +kernel) (Nat.le_of_ble_eq_true rfl) ?_
  intro p e s m args below meth c9 A ls Q hQ X hl hmn hG
  have hl : lv_has ls 1 [(0, .ref o)] := hl
  have hG : GM g A s.heap s.heap [] [oX3 g o (fun _ => 0) (fun _ => none)] := hG
  have hx := X.1
  have hb := X.2.1
  have hown := X.2.2.2.1
  obtain ⟨H, hH⟩ : ∃ H, H = s.heap := ⟨_, rfl⟩
  obtain ⟨locs, hlocs⟩ : ∃ L : List Loc, L = [] := ⟨_, rfl⟩
  rw [← hlocs] at hG ⊢
  have hG : GM g A s.heap H locs [oX3 g o (fun _ => 0) (fun _ => none)] := by rw [hH]; exact hG
  show W p l e rmn_X3 s m args below meth c9 s.heap locs 0 0 Q (F0 m 0 ls [])
  rw [show W p l e rmn_X3 s m args below meth c9 s.heap locs 0 0 Q (F0 m 0 ls []) = W p l e rmn_X3 s m args below meth c9 H locs 0 0 Q (F0 m 0 ls []) by rw [hH]]
  refine lv_aload_n hx hb dX3_init_0 rfl (lv_at hl 0 rfl) ?_
  refine r_objInit X hl.1 (TW_at 434 (by decide +kernel) (by decide +kernel)) (TW_at 81 (by decide +kernel) (by decide +kernel)) (TW_at 82 (by decide +kernel) (by decide +kernel)) (Nat.le_of_ble_eq_true rfl) (Nat.le_of_ble_eq_true rfl) dX3_init_1 ?_
  refine lv_aload_n hx hb dX3_init_4 rfl (lv_at hl 0 rfl) ?_
  refine lv_iconst (v := (-1)) hx hb dX3_init_5 (by decide) ?_
  refine PO_3_9 X hG 0 rfl dX3_init_6 (fun H locs hG => ?_)
  have hG : GM g A s.heap H locs [oX3 g o (va_up (fun _ => 0) 0 (-1)) (fun _ => none)] := hG
  refine lv_aload_n hx hb dX3_init_9 rfl (lv_at hl 0 rfl) ?_
  refine lv_iconst (v := 0) hx hb dX3_init_10 (by decide) ?_
  refine PO_3_15 X hG 0 rfl dX3_init_11 (fun H locs hG => ?_)
  have hG : GM g A s.heap H locs [oX3 g o (va_up (va_up (fun _ => 0) 0 (-1)) 1 0) (fun _ => none)] := hG
  refine lv_aload_n hx hb dX3_init_14 rfl (lv_at hl 0 rfl) ?_
  refine lv_bipush (v := 40) hx hb dX3_init_15 (by decide) ?_
  refine r_newI (N' := 40) X hG (by decide) (by decide) (by decide) (by show (_ : Nat) ≤ _; decide) (by show (_ : Nat) ≤ _; decide) dX3_init_17 (fun q1 H hG => ?_)
  have hG : GM g A s.heap H locs [oX3 g o (va_up (va_up (fun _ => 0) 0 (-1)) 1 0) (fun _ => none), aI g q1 40 (fun _ => 0)] := hG
  refine W.widen (k := 1) (n := 40) (by omega) (by omega) ?_
  refine PO_3_18 X hmn hG 0 rfl dX3_init_19 (fun H locs hG => ?_)
  have hG : GM g A s.heap H locs [oX3 g o (va_up (va_up (fun _ => 0) 0 (-1)) 1 0) (va_up (fun _ => none) 2 (some q1)), aI g q1 40 (fun _ => 0)] := hG
  subst hQ
  exact r_nret ((fun k => ((va_up (fun _ => none) 2 (some q1)) k).getD 0)) X (show GM g A s.heap H locs [wX3 g o (fun k => ((va_up (fun _ => none) 2 (some q1)) k).getD 0) st0_X3] from hG) dX3_init_22
def st0_X4 : MS := ((va_up (va_up (va_up (va_up (va_up (fun _ => 0) 1 0) 2 0) 3 0) 4 0) 5 (-1)), (fun _ _ => 0))
def rmn_X4 : Room := { frames := 1, cells := 1, slots := 160, locals := 30 }
set_option maxHeartbeats 4000000 in
set_option maxRecDepth 100000 in
theorem n_X4 (g : GT) (l : Launch) (o : Nat) : CN g l yX4_init cX4_init 1 rmn_X4 [.ref o] [oX4 g o (fun _ => 0) (fun _ => none)] (fun (u : Nat → Nat) => [wX4 g o u st0_X4]) 1 160 := by
  refine CN_intro RX4 rfl rfl (by decide +kernel) (Nat.le_of_ble_eq_true rfl) ?_
  intro p e s m args below meth c9 A ls Q hQ X hl hmn hG
  have hl : lv_has ls 1 [(0, .ref o)] := hl
  have hG : GM g A s.heap s.heap [] [oX4 g o (fun _ => 0) (fun _ => none)] := hG
  have hx := X.1
  have hb := X.2.1
  have hown := X.2.2.2.1
  obtain ⟨H, hH⟩ : ∃ H, H = s.heap := ⟨_, rfl⟩
  obtain ⟨locs, hlocs⟩ : ∃ L : List Loc, L = [] := ⟨_, rfl⟩
  rw [← hlocs] at hG ⊢
  have hG : GM g A s.heap H locs [oX4 g o (fun _ => 0) (fun _ => none)] := by rw [hH]; exact hG
  show W p l e rmn_X4 s m args below meth c9 s.heap locs 0 0 Q (F0 m 0 ls [])
  rw [show W p l e rmn_X4 s m args below meth c9 s.heap locs 0 0 Q (F0 m 0 ls []) = W p l e rmn_X4 s m args below meth c9 H locs 0 0 Q (F0 m 0 ls []) by rw [hH]]
  refine lv_aload_n hx hb dX4_init_0 rfl (lv_at hl 0 rfl) ?_
  refine r_objInit X hl.1 (TW_at 182 (by decide +kernel) (by decide +kernel)) (TW_at 81 (by decide +kernel) (by decide +kernel)) (TW_at 82 (by decide +kernel) (by decide +kernel)) (Nat.le_of_ble_eq_true rfl) (Nat.le_of_ble_eq_true rfl) dX4_init_1 ?_
  refine lv_aload_n hx hb dX4_init_4 rfl (lv_at hl 0 rfl) ?_
  refine lv_sipush (v := 160) hx hb dX4_init_5 (by decide) ?_
  refine r_newI (N' := 160) X hG (by decide) (by decide) (by decide) (by show (_ : Nat) ≤ _; decide) (by show (_ : Nat) ≤ _; decide) dX4_init_8 (fun q1 H hG => ?_)
  have hG : GM g A s.heap H locs [oX4 g o (fun _ => 0) (fun _ => none), aI g q1 160 (fun _ => 0)] := hG
  refine W.widen (k := 1) (n := 160) (by omega) (by omega) ?_
  refine PO_4_9 X hmn hG 0 rfl dX4_init_10 (fun H locs hG => ?_)
  have hG : GM g A s.heap H locs [oX4 g o (fun _ => 0) (va_up (fun _ => none) 0 (some q1)), aI g q1 160 (fun _ => 0)] := hG
  refine lv_aload_n hx hb dX4_init_13 rfl (lv_at hl 0 rfl) ?_
  refine lv_iconst (v := 0) hx hb dX4_init_14 (by decide) ?_
  refine PO_4_15 X hG 0 rfl dX4_init_15 (fun H locs hG => ?_)
  have hG : GM g A s.heap H locs [oX4 g o (va_up (fun _ => 0) 1 0) (va_up (fun _ => none) 0 (some q1)), aI g q1 160 (fun _ => 0)] := hG
  refine lv_aload_n hx hb dX4_init_18 rfl (lv_at hl 0 rfl) ?_
  refine lv_iconst (v := 0) hx hb dX4_init_19 (by decide) ?_
  refine PO_4_19 X hG 0 rfl dX4_init_20 (fun H locs hG => ?_)
  have hG : GM g A s.heap H locs [oX4 g o (va_up (va_up (fun _ => 0) 1 0) 2 0) (va_up (fun _ => none) 0 (some q1)), aI g q1 160 (fun _ => 0)] := hG
  refine lv_aload_n hx hb dX4_init_23 rfl (lv_at hl 0 rfl) ?_
  refine lv_iconst (v := 0) hx hb dX4_init_24 (by decide) ?_
  refine PO_4_22 X hG 0 rfl dX4_init_25 (fun H locs hG => ?_)
  have hG : GM g A s.heap H locs [oX4 g o (va_up (va_up (va_up (fun _ => 0) 1 0) 2 0) 3 0) (va_up (fun _ => none) 0 (some q1)), aI g q1 160 (fun _ => 0)] := hG
  refine lv_aload_n hx hb dX4_init_28 rfl (lv_at hl 0 rfl) ?_
  refine lv_iconst (v := 0) hx hb dX4_init_29 (by decide) ?_
  refine PO_4_25 X hG 0 rfl dX4_init_30 (fun H locs hG => ?_)
  have hG : GM g A s.heap H locs [oX4 g o (va_up (va_up (va_up (va_up (fun _ => 0) 1 0) 2 0) 3 0) 4 0) (va_up (fun _ => none) 0 (some q1)), aI g q1 160 (fun _ => 0)] := hG
  refine lv_aload_n hx hb dX4_init_33 rfl (lv_at hl 0 rfl) ?_
  refine lv_iconst (v := (-1)) hx hb dX4_init_34 (by decide) ?_
  refine PO_4_28 X hG 0 rfl dX4_init_35 (fun H locs hG => ?_)
  have hG : GM g A s.heap H locs [oX4 g o (va_up (va_up (va_up (va_up (va_up (fun _ => 0) 1 0) 2 0) 3 0) 4 0) 5 (-1)) (va_up (fun _ => none) 0 (some q1)), aI g q1 160 (fun _ => 0)] := hG
  subst hQ
  exact r_nret ((fun k => ((va_up (fun _ => none) 0 (some q1)) k).getD 0)) X (show GM g A s.heap H locs [wX4 g o (fun k => ((va_up (fun _ => none) 0 (some q1)) k).getD 0) st0_X4] from hG) dX4_init_38
def st0_X5 : MS := ((va_up (fun _ => 0) 3 0), (fun _ _ => 0))
def rmn_X5 : Room := { frames := 1, cells := 3, slots := 324, locals := 30 }
set_option maxHeartbeats 4000000 in
set_option maxRecDepth 100000 in
theorem n_X5 (g : GT) (l : Launch) (o : Nat) : CN g l yX5_init cX5_init 1 rmn_X5 [.ref o] [oX5 g o (fun _ => 0) (fun _ => none)] (fun (u : Nat → Nat) => [wX5 g o u st0_X5]) 3 324 := by
  refine CN_intro RX5 rfl rfl (by decide +kernel) (Nat.le_of_ble_eq_true rfl) ?_
  intro p e s m args below meth c9 A ls Q hQ X hl hmn hG
  have hl : lv_has ls 1 [(0, .ref o)] := hl
  have hG : GM g A s.heap s.heap [] [oX5 g o (fun _ => 0) (fun _ => none)] := hG
  have hx := X.1
  have hb := X.2.1
  have hown := X.2.2.2.1
  obtain ⟨H, hH⟩ : ∃ H, H = s.heap := ⟨_, rfl⟩
  obtain ⟨locs, hlocs⟩ : ∃ L : List Loc, L = [] := ⟨_, rfl⟩
  rw [← hlocs] at hG ⊢
  have hG : GM g A s.heap H locs [oX5 g o (fun _ => 0) (fun _ => none)] := by rw [hH]; exact hG
  show W p l e rmn_X5 s m args below meth c9 s.heap locs 0 0 Q (F0 m 0 ls [])
  rw [show W p l e rmn_X5 s m args below meth c9 s.heap locs 0 0 Q (F0 m 0 ls []) = W p l e rmn_X5 s m args below meth c9 H locs 0 0 Q (F0 m 0 ls []) by rw [hH]]
  refine lv_aload_n hx hb dX5_init_0 rfl (lv_at hl 0 rfl) ?_
  refine r_objInit X hl.1 (TW_at 265 (by decide +kernel) (by decide +kernel)) (TW_at 81 (by decide +kernel) (by decide +kernel)) (TW_at 82 (by decide +kernel) (by decide +kernel)) (Nat.le_of_ble_eq_true rfl) (Nat.le_of_ble_eq_true rfl) dX5_init_1 ?_
  refine lv_aload_n hx hb dX5_init_4 rfl (lv_at hl 0 rfl) ?_
  refine lv_sipush (v := 160) hx hb dX5_init_5 (by decide) ?_
  refine r_newI (N' := 160) X hG (by decide) (by decide) (by decide) (by show (_ : Nat) ≤ _; decide) (by show (_ : Nat) ≤ _; decide) dX5_init_8 (fun q1 H hG => ?_)
  have hG : GM g A s.heap H locs [oX5 g o (fun _ => 0) (fun _ => none), aI g q1 160 (fun _ => 0)] := hG
  refine W.widen (k := 1) (n := 160) (by omega) (by omega) ?_
  refine PO_5_9 X hmn hG 0 rfl dX5_init_10 (fun H locs hG => ?_)
  have hG : GM g A s.heap H locs [oX5 g o (fun _ => 0) (va_up (fun _ => none) 0 (some q1)), aI g q1 160 (fun _ => 0)] := hG
  refine lv_aload_n hx hb dX5_init_13 rfl (lv_at hl 0 rfl) ?_
  refine lv_iconst (v := 4) hx hb dX5_init_14 (by decide) ?_
  refine r_newI (N' := 4) X hG (by decide) (by decide) (by decide) (by show (_ : Nat) ≤ _; decide) (by show (_ : Nat) ≤ _; decide) dX5_init_15 (fun q2 H hG => ?_)
  have hG : GM g A s.heap H locs [oX5 g o (fun _ => 0) (va_up (fun _ => none) 0 (some q1)), aI g q1 160 (fun _ => 0), aI g q2 4 (fun _ => 0)] := hG
  refine W.widen (k := 2) (n := 164) (by omega) (by omega) ?_
  refine PO_5_15 X hmn hG 0 rfl dX5_init_17 (fun H locs hG => ?_)
  have hG : GM g A s.heap H locs [oX5 g o (fun _ => 0) (va_up (va_up (fun _ => none) 0 (some q1)) 1 (some q2)), aI g q1 160 (fun _ => 0), aI g q2 4 (fun _ => 0)] := hG
  refine lv_aload_n hx hb dX5_init_20 rfl (lv_at hl 0 rfl) ?_
  refine lv_sipush (v := 160) hx hb dX5_init_21 (by decide) ?_
  refine r_newI (N' := 160) X hG (by decide) (by decide) (by decide) (by show (_ : Nat) ≤ _; decide) (by show (_ : Nat) ≤ _; decide) dX5_init_24 (fun q3 H hG => ?_)
  have hG : GM g A s.heap H locs [oX5 g o (fun _ => 0) (va_up (va_up (fun _ => none) 0 (some q1)) 1 (some q2)), aI g q1 160 (fun _ => 0), aI g q2 4 (fun _ => 0), aI g q3 160 (fun _ => 0)] := hG
  refine W.widen (k := 3) (n := 324) (by omega) (by omega) ?_
  refine PO_5_18 X hmn hG 0 rfl dX5_init_26 (fun H locs hG => ?_)
  have hG : GM g A s.heap H locs [oX5 g o (fun _ => 0) (va_up (va_up (va_up (fun _ => none) 0 (some q1)) 1 (some q2)) 2 (some q3)), aI g q1 160 (fun _ => 0), aI g q2 4 (fun _ => 0), aI g q3 160 (fun _ => 0)] := hG
  refine lv_aload_n hx hb dX5_init_29 rfl (lv_at hl 0 rfl) ?_
  refine lv_iconst (v := 0) hx hb dX5_init_30 (by decide) ?_
  refine PO_5_21 X hG 0 rfl dX5_init_31 (fun H locs hG => ?_)
  have hG : GM g A s.heap H locs [oX5 g o (va_up (fun _ => 0) 3 0) (va_up (va_up (va_up (fun _ => none) 0 (some q1)) 1 (some q2)) 2 (some q3)), aI g q1 160 (fun _ => 0), aI g q2 4 (fun _ => 0), aI g q3 160 (fun _ => 0)] := hG
  subst hQ
  exact r_nret ((fun k => ((va_up (va_up (va_up (fun _ => none) 0 (some q1)) 1 (some q2)) 2 (some q3)) k).getD 0)) X (show GM g A s.heap H locs [wX5 g o (fun k => ((va_up (va_up (va_up (fun _ => none) 0 (some q1)) 1 (some q2)) 2 (some q3)) k).getD 0) st0_X5] from hG) dX5_init_34
def st0_X6 (b1 : Int32) (b2 : Int32) (b3 : Int32) : MS := ((va_up (va_up (va_up (fun _ => 0) 0 b1) 1 b2) 2 b3), (fun _ _ => 0))
def rmn_X6 : Room := { frames := 1, cells := 0, slots := 0, locals := 30 }
set_option maxHeartbeats 4000000 in
set_option maxRecDepth 100000 in
theorem n_X6 (g : GT) (l : Launch) (o : Nat) (b1 : Int32) (b2 : Int32) (b3 : Int32) : CN g l yX6_init cX6_init 4 rmn_X6 [.ref o, .int b1, .int b2, .int b3] [oX6 g o (fun _ => 0) (fun _ => none)] (fun (u : Nat → Nat) => [wX6 g o u (st0_X6 b1 b2 b3)]) 0 0 := by
  refine CN_intro RX6 rfl rfl (by decide +kernel) (Nat.le_of_ble_eq_true rfl) ?_
  intro p e s m args below meth c9 A ls Q hQ X hl hmn hG
  have hl : lv_has ls 4 [(0, .ref o), (1, .int b1), (2, .int b2), (3, .int b3)] := hl
  have hG : GM g A s.heap s.heap [] [oX6 g o (fun _ => 0) (fun _ => none)] := hG
  have hx := X.1
  have hb := X.2.1
  have hown := X.2.2.2.1
  obtain ⟨H, hH⟩ : ∃ H, H = s.heap := ⟨_, rfl⟩
  obtain ⟨locs, hlocs⟩ : ∃ L : List Loc, L = [] := ⟨_, rfl⟩
  rw [← hlocs] at hG ⊢
  have hG : GM g A s.heap H locs [oX6 g o (fun _ => 0) (fun _ => none)] := by rw [hH]; exact hG
  show W p l e rmn_X6 s m args below meth c9 s.heap locs 0 0 Q (F0 m 0 ls [])
  rw [show W p l e rmn_X6 s m args below meth c9 s.heap locs 0 0 Q (F0 m 0 ls []) = W p l e rmn_X6 s m args below meth c9 H locs 0 0 Q (F0 m 0 ls []) by rw [hH]]
  refine lv_aload_n hx hb dX6_init_0 rfl (lv_at hl 0 rfl) ?_
  refine r_objInit X hl.1 (TW_at 163 (by decide +kernel) (by decide +kernel)) (TW_at 81 (by decide +kernel) (by decide +kernel)) (TW_at 82 (by decide +kernel) (by decide +kernel)) (Nat.le_of_ble_eq_true rfl) (Nat.le_of_ble_eq_true rfl) dX6_init_1 ?_
  refine lv_aload_n hx hb dX6_init_4 rfl (lv_at hl 0 rfl) ?_
  refine lv_iload_n hx hb dX6_init_5 rfl (lv_at hl 1 rfl) ?_
  refine PO_6_9 X hmn hG 0 rfl dX6_init_6 (fun H locs hG => ?_)
  have hG : GM g A s.heap H locs [oX6 g o (va_up (fun _ => 0) 0 b1) (fun _ => none)] := hG
  refine lv_aload_n hx hb dX6_init_9 rfl (lv_at hl 0 rfl) ?_
  refine lv_iload_n hx hb dX6_init_10 rfl (lv_at hl 2 rfl) ?_
  refine PO_6_15 X hmn hG 0 rfl dX6_init_11 (fun H locs hG => ?_)
  have hG : GM g A s.heap H locs [oX6 g o (va_up (va_up (fun _ => 0) 0 b1) 1 b2) (fun _ => none)] := hG
  refine lv_aload_n hx hb dX6_init_14 rfl (lv_at hl 0 rfl) ?_
  refine lv_iload_n hx hb dX6_init_15 rfl (lv_at hl 3 rfl) ?_
  refine PO_6_18 X hmn hG 0 rfl dX6_init_16 (fun H locs hG => ?_)
  have hG : GM g A s.heap H locs [oX6 g o (va_up (va_up (va_up (fun _ => 0) 0 b1) 1 b2) 2 b3) (fun _ => none)] := hG
  subst hQ
  exact r_nret ((fun k => ((fun _ => none) k).getD 0)) X (show GM g A s.heap H locs [wX6 g o (fun k => ((fun _ => none) k).getD 0) (st0_X6 b1 b2 b3)] from hG) dX6_init_19
def L_X8_0 : List Int32 := [5, 5, 5, 5, 5, 5, 5, 5, 5, 5, 5, 5, 5, 5, 5, 5, 5, 5, 5, 5, 5, 5, 5, 5, 5, 5, 5, 5, 5, 5, 5, 5, 5, 5, 5, 5, 5, 5, 5, 5, 5, 5, 5, 5, 5, 5, 5, 5, 5, 5, 5, 5, 5, 5, 5, 5, 5, 5, 5, 5, 5, 5, 5, 5, 5, 5, 5, 5, 5, 5, 5, 5, 5, 5, 5, 5, 5, 5, 5, 5, 5, 5, 5, 5, 5, 5, 5, 5, 5, 5, 5, 5, 5, 5, 5, 5, 5, 5, 5, 5, 5, 5, 5, 5, 5, 5, 5, 5, 5, 5, 5, 5, 5, 5, 5, 5, 5, 5, 5, 5]
def L_X8_1 : List Int32 := [117, 112, 32, 119, 97, 105, 116, 32, 108, 101, 102, 116, 32, 112, 114, 105, 99, 101, 32, 104, 101, 97, 114, 100, 32, 115, 117, 110, 32, 103, 111, 32, 114, 117, 115, 104, 32, 104, 97, 114, 109, 32, 111, 114, 32, 97, 110, 100, 32, 110, 111, 116, 32]
def L_X8_2 : List Int32 := [0, 1, 2, 3, 4, 5, 10, 11, 12, 13, 14, 15]
def L_X8_3 : List Int32 := [-1, -1, -1, -1]
def st0_X8 : MS := ((va_up (va_up (va_up (va_up (fun _ => 0) 15 90) 16 (-1)) 18 (-1)) 21 1), (va_up (va_up (va_up (va_up (fun _ _ => 0) 14 (lf L_X8_0 120)) 35 (lf L_X8_1 53)) 36 (lf L_X8_2 12)) 57 (lf L_X8_3 4)))
def rmn_X8 : Room := { frames := 1, cells := 34, slots := 5830, locals := 30 }
set_option maxHeartbeats 4000000 in
set_option maxRecDepth 100000 in
theorem n_X8 (g : GT) (l : Launch) (o : Nat) : CN g l yX8_init cX8_init 1 rmn_X8 [.ref o] [oX8 g o (fun _ => 0) (fun _ => none)] (fun (u : Nat → Nat) => [wX8 g o u st0_X8]) 34 5830 := by
  refine CN_intro RX8 rfl rfl (by decide +kernel) (Nat.le_of_ble_eq_true rfl) ?_
  intro p e s m args below meth c9 A ls Q hQ X hl hmn hG
  have hl : lv_has ls 1 [(0, .ref o)] := hl
  have hG : GM g A s.heap s.heap [] [oX8 g o (fun _ => 0) (fun _ => none)] := hG
  have hx := X.1
  have hb := X.2.1
  have hown := X.2.2.2.1
  obtain ⟨H, hH⟩ : ∃ H, H = s.heap := ⟨_, rfl⟩
  obtain ⟨locs, hlocs⟩ : ∃ L : List Loc, L = [] := ⟨_, rfl⟩
  rw [← hlocs] at hG ⊢
  have hG : GM g A s.heap H locs [oX8 g o (fun _ => 0) (fun _ => none)] := by rw [hH]; exact hG
  show W p l e rmn_X8 s m args below meth c9 s.heap locs 0 0 Q (F0 m 0 ls [])
  rw [show W p l e rmn_X8 s m args below meth c9 s.heap locs 0 0 Q (F0 m 0 ls []) = W p l e rmn_X8 s m args below meth c9 H locs 0 0 Q (F0 m 0 ls []) by rw [hH]]
  refine lv_aload_n hx hb dX8_init_0 rfl (lv_at hl 0 rfl) ?_
  refine r_objInit X hl.1 (TW_at 818 (by decide +kernel) (by decide +kernel)) (TW_at 81 (by decide +kernel) (by decide +kernel)) (TW_at 82 (by decide +kernel) (by decide +kernel)) (Nat.le_of_ble_eq_true rfl) (Nat.le_of_ble_eq_true rfl) dX8_init_1 ?_
  refine lv_aload_n hx hb dX8_init_4 rfl (lv_at hl 0 rfl) ?_
  refine lv_bipush (v := 6) hx hb dX8_init_5 (by decide) ?_
  refine r_newI (N' := 6) X hG (by decide) (by decide) (by decide) (by show (_ : Nat) ≤ _; decide) (by show (_ : Nat) ≤ _; decide) dX8_init_7 (fun q1 H hG => ?_)
  have hG : GM g A s.heap H locs [oX8 g o (fun _ => 0) (fun _ => none), aI g q1 6 (fun _ => 0)] := hG
  refine W.widen (k := 1) (n := 6) (by omega) (by omega) ?_
  refine PO_8_7 X hmn hG 0 rfl dX8_init_9 (fun H locs hG => ?_)
  have hG : GM g A s.heap H locs [oX8 g o (fun _ => 0) (va_up (fun _ => none) 2 (some q1)), aI g q1 6 (fun _ => 0)] := hG
  refine lv_aload_n hx hb dX8_init_12 rfl (lv_at hl 0 rfl) ?_
  refine lv_bipush (v := 6) hx hb dX8_init_13 (by decide) ?_
  refine r_newI (N' := 6) X hG (by decide) (by decide) (by decide) (by show (_ : Nat) ≤ _; decide) (by show (_ : Nat) ≤ _; decide) dX8_init_15 (fun q2 H hG => ?_)
  have hG : GM g A s.heap H locs [oX8 g o (fun _ => 0) (va_up (fun _ => none) 2 (some q1)), aI g q1 6 (fun _ => 0), aI g q2 6 (fun _ => 0)] := hG
  refine W.widen (k := 2) (n := 12) (by omega) (by omega) ?_
  refine PO_8_13 X hmn hG 0 rfl dX8_init_17 (fun H locs hG => ?_)
  have hG : GM g A s.heap H locs [oX8 g o (fun _ => 0) (va_up (va_up (fun _ => none) 2 (some q1)) 3 (some q2)), aI g q1 6 (fun _ => 0), aI g q2 6 (fun _ => 0)] := hG
  refine lv_aload_n hx hb dX8_init_20 rfl (lv_at hl 0 rfl) ?_
  refine lv_bipush (v := 6) hx hb dX8_init_21 (by decide) ?_
  refine r_newI (N' := 6) X hG (by decide) (by decide) (by decide) (by show (_ : Nat) ≤ _; decide) (by show (_ : Nat) ≤ _; decide) dX8_init_23 (fun q3 H hG => ?_)
  have hG : GM g A s.heap H locs [oX8 g o (fun _ => 0) (va_up (va_up (fun _ => none) 2 (some q1)) 3 (some q2)), aI g q1 6 (fun _ => 0), aI g q2 6 (fun _ => 0), aI g q3 6 (fun _ => 0)] := hG
  refine W.widen (k := 3) (n := 18) (by omega) (by omega) ?_
  refine PO_8_16 X hmn hG 0 rfl dX8_init_25 (fun H locs hG => ?_)
  have hG : GM g A s.heap H locs [oX8 g o (fun _ => 0) (va_up (va_up (va_up (fun _ => none) 2 (some q1)) 3 (some q2)) 4 (some q3)), aI g q1 6 (fun _ => 0), aI g q2 6 (fun _ => 0), aI g q3 6 (fun _ => 0)] := hG
  refine lv_aload_n hx hb dX8_init_28 rfl (lv_at hl 0 rfl) ?_
  refine lv_bipush (v := 6) hx hb dX8_init_29 (by decide) ?_
  refine r_newI (N' := 6) X hG (by decide) (by decide) (by decide) (by show (_ : Nat) ≤ _; decide) (by show (_ : Nat) ≤ _; decide) dX8_init_31 (fun q4 H hG => ?_)
  have hG : GM g A s.heap H locs [oX8 g o (fun _ => 0) (va_up (va_up (va_up (fun _ => none) 2 (some q1)) 3 (some q2)) 4 (some q3)), aI g q1 6 (fun _ => 0), aI g q2 6 (fun _ => 0), aI g q3 6 (fun _ => 0), aI g q4 6 (fun _ => 0)] := hG
  refine W.widen (k := 4) (n := 24) (by omega) (by omega) ?_
  refine PO_8_19 X hmn hG 0 rfl dX8_init_33 (fun H locs hG => ?_)
  have hG : GM g A s.heap H locs [oX8 g o (fun _ => 0) (va_up (va_up (va_up (va_up (fun _ => none) 2 (some q1)) 3 (some q2)) 4 (some q3)) 5 (some q4)), aI g q1 6 (fun _ => 0), aI g q2 6 (fun _ => 0), aI g q3 6 (fun _ => 0), aI g q4 6 (fun _ => 0)] := hG
  refine lv_aload_n hx hb dX8_init_36 rfl (lv_at hl 0 rfl) ?_
  refine lv_bipush (v := 24) hx hb dX8_init_37 (by decide) ?_
  refine r_newI (N' := 24) X hG (by decide) (by decide) (by decide) (by show (_ : Nat) ≤ _; decide) (by show (_ : Nat) ≤ _; decide) dX8_init_39 (fun q5 H hG => ?_)
  have hG : GM g A s.heap H locs [oX8 g o (fun _ => 0) (va_up (va_up (va_up (va_up (fun _ => none) 2 (some q1)) 3 (some q2)) 4 (some q3)) 5 (some q4)), aI g q1 6 (fun _ => 0), aI g q2 6 (fun _ => 0), aI g q3 6 (fun _ => 0), aI g q4 6 (fun _ => 0), aI g q5 24 (fun _ => 0)] := hG
  refine W.widen (k := 5) (n := 48) (by omega) (by omega) ?_
  refine PO_8_22 X hmn hG 0 rfl dX8_init_41 (fun H locs hG => ?_)
  have hG : GM g A s.heap H locs [oX8 g o (fun _ => 0) (va_up (va_up (va_up (va_up (va_up (fun _ => none) 2 (some q1)) 3 (some q2)) 4 (some q3)) 5 (some q4)) 7 (some q5)), aI g q1 6 (fun _ => 0), aI g q2 6 (fun _ => 0), aI g q3 6 (fun _ => 0), aI g q4 6 (fun _ => 0), aI g q5 24 (fun _ => 0)] := hG
  refine lv_aload_n hx hb dX8_init_44 rfl (lv_at hl 0 rfl) ?_
  refine lv_bipush (v := 24) hx hb dX8_init_45 (by decide) ?_
  refine r_newI (N' := 24) X hG (by decide) (by decide) (by decide) (by show (_ : Nat) ≤ _; decide) (by show (_ : Nat) ≤ _; decide) dX8_init_47 (fun q6 H hG => ?_)
  have hG : GM g A s.heap H locs [oX8 g o (fun _ => 0) (va_up (va_up (va_up (va_up (va_up (fun _ => none) 2 (some q1)) 3 (some q2)) 4 (some q3)) 5 (some q4)) 7 (some q5)), aI g q1 6 (fun _ => 0), aI g q2 6 (fun _ => 0), aI g q3 6 (fun _ => 0), aI g q4 6 (fun _ => 0), aI g q5 24 (fun _ => 0), aI g q6 24 (fun _ => 0)] := hG
  refine W.widen (k := 6) (n := 72) (by omega) (by omega) ?_
  refine PO_8_25 X hmn hG 0 rfl dX8_init_49 (fun H locs hG => ?_)
  have hG : GM g A s.heap H locs [oX8 g o (fun _ => 0) (va_up (va_up (va_up (va_up (va_up (va_up (fun _ => none) 2 (some q1)) 3 (some q2)) 4 (some q3)) 5 (some q4)) 7 (some q5)) 8 (some q6)), aI g q1 6 (fun _ => 0), aI g q2 6 (fun _ => 0), aI g q3 6 (fun _ => 0), aI g q4 6 (fun _ => 0), aI g q5 24 (fun _ => 0), aI g q6 24 (fun _ => 0)] := hG
  refine lv_aload_n hx hb dX8_init_52 rfl (lv_at hl 0 rfl) ?_
  refine lv_bipush (v := 24) hx hb dX8_init_53 (by decide) ?_
  refine r_newI (N' := 24) X hG (by decide) (by decide) (by decide) (by show (_ : Nat) ≤ _; decide) (by show (_ : Nat) ≤ _; decide) dX8_init_55 (fun q7 H hG => ?_)
  have hG : GM g A s.heap H locs [oX8 g o (fun _ => 0) (va_up (va_up (va_up (va_up (va_up (va_up (fun _ => none) 2 (some q1)) 3 (some q2)) 4 (some q3)) 5 (some q4)) 7 (some q5)) 8 (some q6)), aI g q1 6 (fun _ => 0), aI g q2 6 (fun _ => 0), aI g q3 6 (fun _ => 0), aI g q4 6 (fun _ => 0), aI g q5 24 (fun _ => 0), aI g q6 24 (fun _ => 0), aI g q7 24 (fun _ => 0)] := hG
  refine W.widen (k := 7) (n := 96) (by omega) (by omega) ?_
  refine PO_8_28 X hmn hG 0 rfl dX8_init_57 (fun H locs hG => ?_)
  have hG : GM g A s.heap H locs [oX8 g o (fun _ => 0) (va_up (va_up (va_up (va_up (va_up (va_up (va_up (fun _ => none) 2 (some q1)) 3 (some q2)) 4 (some q3)) 5 (some q4)) 7 (some q5)) 8 (some q6)) 9 (some q7)), aI g q1 6 (fun _ => 0), aI g q2 6 (fun _ => 0), aI g q3 6 (fun _ => 0), aI g q4 6 (fun _ => 0), aI g q5 24 (fun _ => 0), aI g q6 24 (fun _ => 0), aI g q7 24 (fun _ => 0)] := hG
  refine lv_aload_n hx hb dX8_init_60 rfl (lv_at hl 0 rfl) ?_
  refine lv_bipush (v := 8) hx hb dX8_init_61 (by decide) ?_
  refine r_newI (N' := 8) X hG (by decide) (by decide) (by decide) (by show (_ : Nat) ≤ _; decide) (by show (_ : Nat) ≤ _; decide) dX8_init_63 (fun q8 H hG => ?_)
  have hG : GM g A s.heap H locs [oX8 g o (fun _ => 0) (va_up (va_up (va_up (va_up (va_up (va_up (va_up (fun _ => none) 2 (some q1)) 3 (some q2)) 4 (some q3)) 5 (some q4)) 7 (some q5)) 8 (some q6)) 9 (some q7)), aI g q1 6 (fun _ => 0), aI g q2 6 (fun _ => 0), aI g q3 6 (fun _ => 0), aI g q4 6 (fun _ => 0), aI g q5 24 (fun _ => 0), aI g q6 24 (fun _ => 0), aI g q7 24 (fun _ => 0), aI g q8 8 (fun _ => 0)] := hG
  refine W.widen (k := 8) (n := 104) (by omega) (by omega) ?_
  refine PO_8_31 X hmn hG 0 rfl dX8_init_65 (fun H locs hG => ?_)
  have hG : GM g A s.heap H locs [oX8 g o (fun _ => 0) (va_up (va_up (va_up (va_up (va_up (va_up (va_up (va_up (fun _ => none) 2 (some q1)) 3 (some q2)) 4 (some q3)) 5 (some q4)) 7 (some q5)) 8 (some q6)) 9 (some q7)) 11 (some q8)), aI g q1 6 (fun _ => 0), aI g q2 6 (fun _ => 0), aI g q3 6 (fun _ => 0), aI g q4 6 (fun _ => 0), aI g q5 24 (fun _ => 0), aI g q6 24 (fun _ => 0), aI g q7 24 (fun _ => 0), aI g q8 8 (fun _ => 0)] := hG
  refine lv_aload_n hx hb dX8_init_68 rfl (lv_at hl 0 rfl) ?_
  refine lv_bipush (v := 8) hx hb dX8_init_69 (by decide) ?_
  refine r_newI (N' := 8) X hG (by decide) (by decide) (by decide) (by show (_ : Nat) ≤ _; decide) (by show (_ : Nat) ≤ _; decide) dX8_init_71 (fun q9 H hG => ?_)
  have hG : GM g A s.heap H locs [oX8 g o (fun _ => 0) (va_up (va_up (va_up (va_up (va_up (va_up (va_up (va_up (fun _ => none) 2 (some q1)) 3 (some q2)) 4 (some q3)) 5 (some q4)) 7 (some q5)) 8 (some q6)) 9 (some q7)) 11 (some q8)), aI g q1 6 (fun _ => 0), aI g q2 6 (fun _ => 0), aI g q3 6 (fun _ => 0), aI g q4 6 (fun _ => 0), aI g q5 24 (fun _ => 0), aI g q6 24 (fun _ => 0), aI g q7 24 (fun _ => 0), aI g q8 8 (fun _ => 0), aI g q9 8 (fun _ => 0)] := hG
  refine W.widen (k := 9) (n := 112) (by omega) (by omega) ?_
  refine PO_8_34 X hmn hG 0 rfl dX8_init_73 (fun H locs hG => ?_)
  have hG : GM g A s.heap H locs [oX8 g o (fun _ => 0) (va_up (va_up (va_up (va_up (va_up (va_up (va_up (va_up (va_up (fun _ => none) 2 (some q1)) 3 (some q2)) 4 (some q3)) 5 (some q4)) 7 (some q5)) 8 (some q6)) 9 (some q7)) 11 (some q8)) 12 (some q9)), aI g q1 6 (fun _ => 0), aI g q2 6 (fun _ => 0), aI g q3 6 (fun _ => 0), aI g q4 6 (fun _ => 0), aI g q5 24 (fun _ => 0), aI g q6 24 (fun _ => 0), aI g q7 24 (fun _ => 0), aI g q8 8 (fun _ => 0), aI g q9 8 (fun _ => 0)] := hG
  refine lv_aload_n hx hb dX8_init_76 rfl (lv_at hl 0 rfl) ?_
  refine lv_bipush (v := 8) hx hb dX8_init_77 (by decide) ?_
  refine r_newI (N' := 8) X hG (by decide) (by decide) (by decide) (by show (_ : Nat) ≤ _; decide) (by show (_ : Nat) ≤ _; decide) dX8_init_79 (fun q10 H hG => ?_)
  have hG : GM g A s.heap H locs [oX8 g o (fun _ => 0) (va_up (va_up (va_up (va_up (va_up (va_up (va_up (va_up (va_up (fun _ => none) 2 (some q1)) 3 (some q2)) 4 (some q3)) 5 (some q4)) 7 (some q5)) 8 (some q6)) 9 (some q7)) 11 (some q8)) 12 (some q9)), aI g q1 6 (fun _ => 0), aI g q2 6 (fun _ => 0), aI g q3 6 (fun _ => 0), aI g q4 6 (fun _ => 0), aI g q5 24 (fun _ => 0), aI g q6 24 (fun _ => 0), aI g q7 24 (fun _ => 0), aI g q8 8 (fun _ => 0), aI g q9 8 (fun _ => 0), aI g q10 8 (fun _ => 0)] := hG
  refine W.widen (k := 10) (n := 120) (by omega) (by omega) ?_
  refine PO_8_37 X hmn hG 0 rfl dX8_init_81 (fun H locs hG => ?_)
  have hG : GM g A s.heap H locs [oX8 g o (fun _ => 0) (va_up (va_up (va_up (va_up (va_up (va_up (va_up (va_up (va_up (va_up (fun _ => none) 2 (some q1)) 3 (some q2)) 4 (some q3)) 5 (some q4)) 7 (some q5)) 8 (some q6)) 9 (some q7)) 11 (some q8)) 12 (some q9)) 13 (some q10)), aI g q1 6 (fun _ => 0), aI g q2 6 (fun _ => 0), aI g q3 6 (fun _ => 0), aI g q4 6 (fun _ => 0), aI g q5 24 (fun _ => 0), aI g q6 24 (fun _ => 0), aI g q7 24 (fun _ => 0), aI g q8 8 (fun _ => 0), aI g q9 8 (fun _ => 0), aI g q10 8 (fun _ => 0)] := hG
  refine lv_aload_n hx hb dX8_init_84 rfl (lv_at hl 0 rfl) ?_
  refine lv_bipush (v := 120) hx hb dX8_init_85 (by decide) ?_
  refine r_newI (N' := 120) X hG (by decide) (by decide) (by decide) (by show (_ : Nat) ≤ _; decide) (by show (_ : Nat) ≤ _; decide) dX8_init_87 (fun q11 H hG => ?_)
  have hG : GM g A s.heap H locs [oX8 g o (fun _ => 0) (va_up (va_up (va_up (va_up (va_up (va_up (va_up (va_up (va_up (va_up (fun _ => none) 2 (some q1)) 3 (some q2)) 4 (some q3)) 5 (some q4)) 7 (some q5)) 8 (some q6)) 9 (some q7)) 11 (some q8)) 12 (some q9)) 13 (some q10)), aI g q1 6 (fun _ => 0), aI g q2 6 (fun _ => 0), aI g q3 6 (fun _ => 0), aI g q4 6 (fun _ => 0), aI g q5 24 (fun _ => 0), aI g q6 24 (fun _ => 0), aI g q7 24 (fun _ => 0), aI g q8 8 (fun _ => 0), aI g q9 8 (fun _ => 0), aI g q10 8 (fun _ => 0), aI g q11 120 (fun _ => 0)] := hG
  refine W.widen (k := 11) (n := 240) (by omega) (by omega) ?_
  have hG : GM g A s.heap H locs [oX8 g o (fun _ => 0) (va_up (va_up (va_up (va_up (va_up (va_up (va_up (va_up (va_up (va_up (fun _ => none) 2 (some q1)) 3 (some q2)) 4 (some q3)) 5 (some q4)) 7 (some q5)) 8 (some q6)) 9 (some q7)) 11 (some q8)) 12 (some q9)) 13 (some q10)), aI g q1 6 (fun _ => 0), aI g q2 6 (fun _ => 0), aI g q3 6 (fun _ => 0), aI g q4 6 (fun _ => 0), aI g q5 24 (fun _ => 0), aI g q6 24 (fun _ => 0), aI g q7 24 (fun _ => 0), aI g q8 8 (fun _ => 0), aI g q9 8 (fun _ => 0), aI g q10 8 (fun _ => 0), aI g q11 120 (lf L_X8_0 0)] := by rw [lf_0]; exact hG
  refine lv_dup hx hb dX8_init_89 rfl ?_
  refine lv_iconst (v := 0) hx hb dX8_init_90 (by decide) ?_
  refine lv_iconst (v := 5) hx hb dX8_init_91 (by decide) ?_
  refine r_ilf X hG 11 rfl (by decide) (by decide) (by decide) (by decide +kernel) dX8_init_92 (fun H locs hG => ?_)
  have hG : GM g A s.heap H locs [oX8 g o (fun _ => 0) (va_up (va_up (va_up (va_up (va_up (va_up (va_up (va_up (va_up (va_up (fun _ => none) 2 (some q1)) 3 (some q2)) 4 (some q3)) 5 (some q4)) 7 (some q5)) 8 (some q6)) 9 (some q7)) 11 (some q8)) 12 (some q9)) 13 (some q10)), aI g q1 6 (fun _ => 0), aI g q2 6 (fun _ => 0), aI g q3 6 (fun _ => 0), aI g q4 6 (fun _ => 0), aI g q5 24 (fun _ => 0), aI g q6 24 (fun _ => 0), aI g q7 24 (fun _ => 0), aI g q8 8 (fun _ => 0), aI g q9 8 (fun _ => 0), aI g q10 8 (fun _ => 0), aI g q11 120 (lf L_X8_0 1)] := hG
  refine lv_dup hx hb dX8_init_93 rfl ?_
  refine lv_iconst (v := 1) hx hb dX8_init_94 (by decide) ?_
  refine lv_iconst (v := 5) hx hb dX8_init_95 (by decide) ?_
  refine r_ilf X hG 11 rfl (by decide) (by decide) (by decide) (by decide +kernel) dX8_init_96 (fun H locs hG => ?_)
  have hG : GM g A s.heap H locs [oX8 g o (fun _ => 0) (va_up (va_up (va_up (va_up (va_up (va_up (va_up (va_up (va_up (va_up (fun _ => none) 2 (some q1)) 3 (some q2)) 4 (some q3)) 5 (some q4)) 7 (some q5)) 8 (some q6)) 9 (some q7)) 11 (some q8)) 12 (some q9)) 13 (some q10)), aI g q1 6 (fun _ => 0), aI g q2 6 (fun _ => 0), aI g q3 6 (fun _ => 0), aI g q4 6 (fun _ => 0), aI g q5 24 (fun _ => 0), aI g q6 24 (fun _ => 0), aI g q7 24 (fun _ => 0), aI g q8 8 (fun _ => 0), aI g q9 8 (fun _ => 0), aI g q10 8 (fun _ => 0), aI g q11 120 (lf L_X8_0 2)] := hG
  refine lv_dup hx hb dX8_init_97 rfl ?_
  refine lv_iconst (v := 2) hx hb dX8_init_98 (by decide) ?_
  refine lv_iconst (v := 5) hx hb dX8_init_99 (by decide) ?_
  refine r_ilf X hG 11 rfl (by decide) (by decide) (by decide) (by decide +kernel) dX8_init_100 (fun H locs hG => ?_)
  have hG : GM g A s.heap H locs [oX8 g o (fun _ => 0) (va_up (va_up (va_up (va_up (va_up (va_up (va_up (va_up (va_up (va_up (fun _ => none) 2 (some q1)) 3 (some q2)) 4 (some q3)) 5 (some q4)) 7 (some q5)) 8 (some q6)) 9 (some q7)) 11 (some q8)) 12 (some q9)) 13 (some q10)), aI g q1 6 (fun _ => 0), aI g q2 6 (fun _ => 0), aI g q3 6 (fun _ => 0), aI g q4 6 (fun _ => 0), aI g q5 24 (fun _ => 0), aI g q6 24 (fun _ => 0), aI g q7 24 (fun _ => 0), aI g q8 8 (fun _ => 0), aI g q9 8 (fun _ => 0), aI g q10 8 (fun _ => 0), aI g q11 120 (lf L_X8_0 3)] := hG
  refine lv_dup hx hb dX8_init_101 rfl ?_
  refine lv_iconst (v := 3) hx hb dX8_init_102 (by decide) ?_
  refine lv_iconst (v := 5) hx hb dX8_init_103 (by decide) ?_
  refine r_ilf X hG 11 rfl (by decide) (by decide) (by decide) (by decide +kernel) dX8_init_104 (fun H locs hG => ?_)
  have hG : GM g A s.heap H locs [oX8 g o (fun _ => 0) (va_up (va_up (va_up (va_up (va_up (va_up (va_up (va_up (va_up (va_up (fun _ => none) 2 (some q1)) 3 (some q2)) 4 (some q3)) 5 (some q4)) 7 (some q5)) 8 (some q6)) 9 (some q7)) 11 (some q8)) 12 (some q9)) 13 (some q10)), aI g q1 6 (fun _ => 0), aI g q2 6 (fun _ => 0), aI g q3 6 (fun _ => 0), aI g q4 6 (fun _ => 0), aI g q5 24 (fun _ => 0), aI g q6 24 (fun _ => 0), aI g q7 24 (fun _ => 0), aI g q8 8 (fun _ => 0), aI g q9 8 (fun _ => 0), aI g q10 8 (fun _ => 0), aI g q11 120 (lf L_X8_0 4)] := hG
  refine lv_dup hx hb dX8_init_105 rfl ?_
  refine lv_iconst (v := 4) hx hb dX8_init_106 (by decide) ?_
  refine lv_iconst (v := 5) hx hb dX8_init_107 (by decide) ?_
  refine r_ilf X hG 11 rfl (by decide) (by decide) (by decide) (by decide +kernel) dX8_init_108 (fun H locs hG => ?_)
  have hG : GM g A s.heap H locs [oX8 g o (fun _ => 0) (va_up (va_up (va_up (va_up (va_up (va_up (va_up (va_up (va_up (va_up (fun _ => none) 2 (some q1)) 3 (some q2)) 4 (some q3)) 5 (some q4)) 7 (some q5)) 8 (some q6)) 9 (some q7)) 11 (some q8)) 12 (some q9)) 13 (some q10)), aI g q1 6 (fun _ => 0), aI g q2 6 (fun _ => 0), aI g q3 6 (fun _ => 0), aI g q4 6 (fun _ => 0), aI g q5 24 (fun _ => 0), aI g q6 24 (fun _ => 0), aI g q7 24 (fun _ => 0), aI g q8 8 (fun _ => 0), aI g q9 8 (fun _ => 0), aI g q10 8 (fun _ => 0), aI g q11 120 (lf L_X8_0 5)] := hG
  refine lv_dup hx hb dX8_init_109 rfl ?_
  refine lv_iconst (v := 5) hx hb dX8_init_110 (by decide) ?_
  refine lv_iconst (v := 5) hx hb dX8_init_111 (by decide) ?_
  refine r_ilf X hG 11 rfl (by decide) (by decide) (by decide) (by decide +kernel) dX8_init_112 (fun H locs hG => ?_)
  have hG : GM g A s.heap H locs [oX8 g o (fun _ => 0) (va_up (va_up (va_up (va_up (va_up (va_up (va_up (va_up (va_up (va_up (fun _ => none) 2 (some q1)) 3 (some q2)) 4 (some q3)) 5 (some q4)) 7 (some q5)) 8 (some q6)) 9 (some q7)) 11 (some q8)) 12 (some q9)) 13 (some q10)), aI g q1 6 (fun _ => 0), aI g q2 6 (fun _ => 0), aI g q3 6 (fun _ => 0), aI g q4 6 (fun _ => 0), aI g q5 24 (fun _ => 0), aI g q6 24 (fun _ => 0), aI g q7 24 (fun _ => 0), aI g q8 8 (fun _ => 0), aI g q9 8 (fun _ => 0), aI g q10 8 (fun _ => 0), aI g q11 120 (lf L_X8_0 6)] := hG
  refine lv_dup hx hb dX8_init_113 rfl ?_
  refine lv_bipush (v := 6) hx hb dX8_init_114 (by decide) ?_
  refine lv_iconst (v := 5) hx hb dX8_init_116 (by decide) ?_
  refine r_ilf X hG 11 rfl (by decide) (by decide) (by decide) (by decide +kernel) dX8_init_117 (fun H locs hG => ?_)
  have hG : GM g A s.heap H locs [oX8 g o (fun _ => 0) (va_up (va_up (va_up (va_up (va_up (va_up (va_up (va_up (va_up (va_up (fun _ => none) 2 (some q1)) 3 (some q2)) 4 (some q3)) 5 (some q4)) 7 (some q5)) 8 (some q6)) 9 (some q7)) 11 (some q8)) 12 (some q9)) 13 (some q10)), aI g q1 6 (fun _ => 0), aI g q2 6 (fun _ => 0), aI g q3 6 (fun _ => 0), aI g q4 6 (fun _ => 0), aI g q5 24 (fun _ => 0), aI g q6 24 (fun _ => 0), aI g q7 24 (fun _ => 0), aI g q8 8 (fun _ => 0), aI g q9 8 (fun _ => 0), aI g q10 8 (fun _ => 0), aI g q11 120 (lf L_X8_0 7)] := hG
  refine lv_dup hx hb dX8_init_118 rfl ?_
  refine lv_bipush (v := 7) hx hb dX8_init_119 (by decide) ?_
  refine lv_iconst (v := 5) hx hb dX8_init_121 (by decide) ?_
  refine r_ilf X hG 11 rfl (by decide) (by decide) (by decide) (by decide +kernel) dX8_init_122 (fun H locs hG => ?_)
  have hG : GM g A s.heap H locs [oX8 g o (fun _ => 0) (va_up (va_up (va_up (va_up (va_up (va_up (va_up (va_up (va_up (va_up (fun _ => none) 2 (some q1)) 3 (some q2)) 4 (some q3)) 5 (some q4)) 7 (some q5)) 8 (some q6)) 9 (some q7)) 11 (some q8)) 12 (some q9)) 13 (some q10)), aI g q1 6 (fun _ => 0), aI g q2 6 (fun _ => 0), aI g q3 6 (fun _ => 0), aI g q4 6 (fun _ => 0), aI g q5 24 (fun _ => 0), aI g q6 24 (fun _ => 0), aI g q7 24 (fun _ => 0), aI g q8 8 (fun _ => 0), aI g q9 8 (fun _ => 0), aI g q10 8 (fun _ => 0), aI g q11 120 (lf L_X8_0 8)] := hG
  refine lv_dup hx hb dX8_init_123 rfl ?_
  refine lv_bipush (v := 8) hx hb dX8_init_124 (by decide) ?_
  refine lv_iconst (v := 5) hx hb dX8_init_126 (by decide) ?_
  refine r_ilf X hG 11 rfl (by decide) (by decide) (by decide) (by decide +kernel) dX8_init_127 (fun H locs hG => ?_)
  have hG : GM g A s.heap H locs [oX8 g o (fun _ => 0) (va_up (va_up (va_up (va_up (va_up (va_up (va_up (va_up (va_up (va_up (fun _ => none) 2 (some q1)) 3 (some q2)) 4 (some q3)) 5 (some q4)) 7 (some q5)) 8 (some q6)) 9 (some q7)) 11 (some q8)) 12 (some q9)) 13 (some q10)), aI g q1 6 (fun _ => 0), aI g q2 6 (fun _ => 0), aI g q3 6 (fun _ => 0), aI g q4 6 (fun _ => 0), aI g q5 24 (fun _ => 0), aI g q6 24 (fun _ => 0), aI g q7 24 (fun _ => 0), aI g q8 8 (fun _ => 0), aI g q9 8 (fun _ => 0), aI g q10 8 (fun _ => 0), aI g q11 120 (lf L_X8_0 9)] := hG
  refine lv_dup hx hb dX8_init_128 rfl ?_
  refine lv_bipush (v := 9) hx hb dX8_init_129 (by decide) ?_
  refine lv_iconst (v := 5) hx hb dX8_init_131 (by decide) ?_
  refine r_ilf X hG 11 rfl (by decide) (by decide) (by decide) (by decide +kernel) dX8_init_132 (fun H locs hG => ?_)
  have hG : GM g A s.heap H locs [oX8 g o (fun _ => 0) (va_up (va_up (va_up (va_up (va_up (va_up (va_up (va_up (va_up (va_up (fun _ => none) 2 (some q1)) 3 (some q2)) 4 (some q3)) 5 (some q4)) 7 (some q5)) 8 (some q6)) 9 (some q7)) 11 (some q8)) 12 (some q9)) 13 (some q10)), aI g q1 6 (fun _ => 0), aI g q2 6 (fun _ => 0), aI g q3 6 (fun _ => 0), aI g q4 6 (fun _ => 0), aI g q5 24 (fun _ => 0), aI g q6 24 (fun _ => 0), aI g q7 24 (fun _ => 0), aI g q8 8 (fun _ => 0), aI g q9 8 (fun _ => 0), aI g q10 8 (fun _ => 0), aI g q11 120 (lf L_X8_0 10)] := hG
  refine lv_dup hx hb dX8_init_133 rfl ?_
  refine lv_bipush (v := 10) hx hb dX8_init_134 (by decide) ?_
  refine lv_iconst (v := 5) hx hb dX8_init_136 (by decide) ?_
  refine r_ilf X hG 11 rfl (by decide) (by decide) (by decide) (by decide +kernel) dX8_init_137 (fun H locs hG => ?_)
  have hG : GM g A s.heap H locs [oX8 g o (fun _ => 0) (va_up (va_up (va_up (va_up (va_up (va_up (va_up (va_up (va_up (va_up (fun _ => none) 2 (some q1)) 3 (some q2)) 4 (some q3)) 5 (some q4)) 7 (some q5)) 8 (some q6)) 9 (some q7)) 11 (some q8)) 12 (some q9)) 13 (some q10)), aI g q1 6 (fun _ => 0), aI g q2 6 (fun _ => 0), aI g q3 6 (fun _ => 0), aI g q4 6 (fun _ => 0), aI g q5 24 (fun _ => 0), aI g q6 24 (fun _ => 0), aI g q7 24 (fun _ => 0), aI g q8 8 (fun _ => 0), aI g q9 8 (fun _ => 0), aI g q10 8 (fun _ => 0), aI g q11 120 (lf L_X8_0 11)] := hG
  refine lv_dup hx hb dX8_init_138 rfl ?_
  refine lv_bipush (v := 11) hx hb dX8_init_139 (by decide) ?_
  refine lv_iconst (v := 5) hx hb dX8_init_141 (by decide) ?_
  refine r_ilf X hG 11 rfl (by decide) (by decide) (by decide) (by decide +kernel) dX8_init_142 (fun H locs hG => ?_)
  have hG : GM g A s.heap H locs [oX8 g o (fun _ => 0) (va_up (va_up (va_up (va_up (va_up (va_up (va_up (va_up (va_up (va_up (fun _ => none) 2 (some q1)) 3 (some q2)) 4 (some q3)) 5 (some q4)) 7 (some q5)) 8 (some q6)) 9 (some q7)) 11 (some q8)) 12 (some q9)) 13 (some q10)), aI g q1 6 (fun _ => 0), aI g q2 6 (fun _ => 0), aI g q3 6 (fun _ => 0), aI g q4 6 (fun _ => 0), aI g q5 24 (fun _ => 0), aI g q6 24 (fun _ => 0), aI g q7 24 (fun _ => 0), aI g q8 8 (fun _ => 0), aI g q9 8 (fun _ => 0), aI g q10 8 (fun _ => 0), aI g q11 120 (lf L_X8_0 12)] := hG
  refine lv_dup hx hb dX8_init_143 rfl ?_
  refine lv_bipush (v := 12) hx hb dX8_init_144 (by decide) ?_
  refine lv_iconst (v := 5) hx hb dX8_init_146 (by decide) ?_
  refine r_ilf X hG 11 rfl (by decide) (by decide) (by decide) (by decide +kernel) dX8_init_147 (fun H locs hG => ?_)
  have hG : GM g A s.heap H locs [oX8 g o (fun _ => 0) (va_up (va_up (va_up (va_up (va_up (va_up (va_up (va_up (va_up (va_up (fun _ => none) 2 (some q1)) 3 (some q2)) 4 (some q3)) 5 (some q4)) 7 (some q5)) 8 (some q6)) 9 (some q7)) 11 (some q8)) 12 (some q9)) 13 (some q10)), aI g q1 6 (fun _ => 0), aI g q2 6 (fun _ => 0), aI g q3 6 (fun _ => 0), aI g q4 6 (fun _ => 0), aI g q5 24 (fun _ => 0), aI g q6 24 (fun _ => 0), aI g q7 24 (fun _ => 0), aI g q8 8 (fun _ => 0), aI g q9 8 (fun _ => 0), aI g q10 8 (fun _ => 0), aI g q11 120 (lf L_X8_0 13)] := hG
  refine lv_dup hx hb dX8_init_148 rfl ?_
  refine lv_bipush (v := 13) hx hb dX8_init_149 (by decide) ?_
  refine lv_iconst (v := 5) hx hb dX8_init_151 (by decide) ?_
  refine r_ilf X hG 11 rfl (by decide) (by decide) (by decide) (by decide +kernel) dX8_init_152 (fun H locs hG => ?_)
  have hG : GM g A s.heap H locs [oX8 g o (fun _ => 0) (va_up (va_up (va_up (va_up (va_up (va_up (va_up (va_up (va_up (va_up (fun _ => none) 2 (some q1)) 3 (some q2)) 4 (some q3)) 5 (some q4)) 7 (some q5)) 8 (some q6)) 9 (some q7)) 11 (some q8)) 12 (some q9)) 13 (some q10)), aI g q1 6 (fun _ => 0), aI g q2 6 (fun _ => 0), aI g q3 6 (fun _ => 0), aI g q4 6 (fun _ => 0), aI g q5 24 (fun _ => 0), aI g q6 24 (fun _ => 0), aI g q7 24 (fun _ => 0), aI g q8 8 (fun _ => 0), aI g q9 8 (fun _ => 0), aI g q10 8 (fun _ => 0), aI g q11 120 (lf L_X8_0 14)] := hG
  refine lv_dup hx hb dX8_init_153 rfl ?_
  refine lv_bipush (v := 14) hx hb dX8_init_154 (by decide) ?_
  refine lv_iconst (v := 5) hx hb dX8_init_156 (by decide) ?_
  refine r_ilf X hG 11 rfl (by decide) (by decide) (by decide) (by decide +kernel) dX8_init_157 (fun H locs hG => ?_)
  have hG : GM g A s.heap H locs [oX8 g o (fun _ => 0) (va_up (va_up (va_up (va_up (va_up (va_up (va_up (va_up (va_up (va_up (fun _ => none) 2 (some q1)) 3 (some q2)) 4 (some q3)) 5 (some q4)) 7 (some q5)) 8 (some q6)) 9 (some q7)) 11 (some q8)) 12 (some q9)) 13 (some q10)), aI g q1 6 (fun _ => 0), aI g q2 6 (fun _ => 0), aI g q3 6 (fun _ => 0), aI g q4 6 (fun _ => 0), aI g q5 24 (fun _ => 0), aI g q6 24 (fun _ => 0), aI g q7 24 (fun _ => 0), aI g q8 8 (fun _ => 0), aI g q9 8 (fun _ => 0), aI g q10 8 (fun _ => 0), aI g q11 120 (lf L_X8_0 15)] := hG
  refine lv_dup hx hb dX8_init_158 rfl ?_
  refine lv_bipush (v := 15) hx hb dX8_init_159 (by decide) ?_
  refine lv_iconst (v := 5) hx hb dX8_init_161 (by decide) ?_
  refine r_ilf X hG 11 rfl (by decide) (by decide) (by decide) (by decide +kernel) dX8_init_162 (fun H locs hG => ?_)
  have hG : GM g A s.heap H locs [oX8 g o (fun _ => 0) (va_up (va_up (va_up (va_up (va_up (va_up (va_up (va_up (va_up (va_up (fun _ => none) 2 (some q1)) 3 (some q2)) 4 (some q3)) 5 (some q4)) 7 (some q5)) 8 (some q6)) 9 (some q7)) 11 (some q8)) 12 (some q9)) 13 (some q10)), aI g q1 6 (fun _ => 0), aI g q2 6 (fun _ => 0), aI g q3 6 (fun _ => 0), aI g q4 6 (fun _ => 0), aI g q5 24 (fun _ => 0), aI g q6 24 (fun _ => 0), aI g q7 24 (fun _ => 0), aI g q8 8 (fun _ => 0), aI g q9 8 (fun _ => 0), aI g q10 8 (fun _ => 0), aI g q11 120 (lf L_X8_0 16)] := hG
  refine lv_dup hx hb dX8_init_163 rfl ?_
  refine lv_bipush (v := 16) hx hb dX8_init_164 (by decide) ?_
  refine lv_iconst (v := 5) hx hb dX8_init_166 (by decide) ?_
  refine r_ilf X hG 11 rfl (by decide) (by decide) (by decide) (by decide +kernel) dX8_init_167 (fun H locs hG => ?_)
  have hG : GM g A s.heap H locs [oX8 g o (fun _ => 0) (va_up (va_up (va_up (va_up (va_up (va_up (va_up (va_up (va_up (va_up (fun _ => none) 2 (some q1)) 3 (some q2)) 4 (some q3)) 5 (some q4)) 7 (some q5)) 8 (some q6)) 9 (some q7)) 11 (some q8)) 12 (some q9)) 13 (some q10)), aI g q1 6 (fun _ => 0), aI g q2 6 (fun _ => 0), aI g q3 6 (fun _ => 0), aI g q4 6 (fun _ => 0), aI g q5 24 (fun _ => 0), aI g q6 24 (fun _ => 0), aI g q7 24 (fun _ => 0), aI g q8 8 (fun _ => 0), aI g q9 8 (fun _ => 0), aI g q10 8 (fun _ => 0), aI g q11 120 (lf L_X8_0 17)] := hG
  refine lv_dup hx hb dX8_init_168 rfl ?_
  refine lv_bipush (v := 17) hx hb dX8_init_169 (by decide) ?_
  refine lv_iconst (v := 5) hx hb dX8_init_171 (by decide) ?_
  refine r_ilf X hG 11 rfl (by decide) (by decide) (by decide) (by decide +kernel) dX8_init_172 (fun H locs hG => ?_)
  have hG : GM g A s.heap H locs [oX8 g o (fun _ => 0) (va_up (va_up (va_up (va_up (va_up (va_up (va_up (va_up (va_up (va_up (fun _ => none) 2 (some q1)) 3 (some q2)) 4 (some q3)) 5 (some q4)) 7 (some q5)) 8 (some q6)) 9 (some q7)) 11 (some q8)) 12 (some q9)) 13 (some q10)), aI g q1 6 (fun _ => 0), aI g q2 6 (fun _ => 0), aI g q3 6 (fun _ => 0), aI g q4 6 (fun _ => 0), aI g q5 24 (fun _ => 0), aI g q6 24 (fun _ => 0), aI g q7 24 (fun _ => 0), aI g q8 8 (fun _ => 0), aI g q9 8 (fun _ => 0), aI g q10 8 (fun _ => 0), aI g q11 120 (lf L_X8_0 18)] := hG
  refine lv_dup hx hb dX8_init_173 rfl ?_
  refine lv_bipush (v := 18) hx hb dX8_init_174 (by decide) ?_
  refine lv_iconst (v := 5) hx hb dX8_init_176 (by decide) ?_
  refine r_ilf X hG 11 rfl (by decide) (by decide) (by decide) (by decide +kernel) dX8_init_177 (fun H locs hG => ?_)
  have hG : GM g A s.heap H locs [oX8 g o (fun _ => 0) (va_up (va_up (va_up (va_up (va_up (va_up (va_up (va_up (va_up (va_up (fun _ => none) 2 (some q1)) 3 (some q2)) 4 (some q3)) 5 (some q4)) 7 (some q5)) 8 (some q6)) 9 (some q7)) 11 (some q8)) 12 (some q9)) 13 (some q10)), aI g q1 6 (fun _ => 0), aI g q2 6 (fun _ => 0), aI g q3 6 (fun _ => 0), aI g q4 6 (fun _ => 0), aI g q5 24 (fun _ => 0), aI g q6 24 (fun _ => 0), aI g q7 24 (fun _ => 0), aI g q8 8 (fun _ => 0), aI g q9 8 (fun _ => 0), aI g q10 8 (fun _ => 0), aI g q11 120 (lf L_X8_0 19)] := hG
  refine lv_dup hx hb dX8_init_178 rfl ?_
  refine lv_bipush (v := 19) hx hb dX8_init_179 (by decide) ?_
  refine lv_iconst (v := 5) hx hb dX8_init_181 (by decide) ?_
  refine r_ilf X hG 11 rfl (by decide) (by decide) (by decide) (by decide +kernel) dX8_init_182 (fun H locs hG => ?_)
  have hG : GM g A s.heap H locs [oX8 g o (fun _ => 0) (va_up (va_up (va_up (va_up (va_up (va_up (va_up (va_up (va_up (va_up (fun _ => none) 2 (some q1)) 3 (some q2)) 4 (some q3)) 5 (some q4)) 7 (some q5)) 8 (some q6)) 9 (some q7)) 11 (some q8)) 12 (some q9)) 13 (some q10)), aI g q1 6 (fun _ => 0), aI g q2 6 (fun _ => 0), aI g q3 6 (fun _ => 0), aI g q4 6 (fun _ => 0), aI g q5 24 (fun _ => 0), aI g q6 24 (fun _ => 0), aI g q7 24 (fun _ => 0), aI g q8 8 (fun _ => 0), aI g q9 8 (fun _ => 0), aI g q10 8 (fun _ => 0), aI g q11 120 (lf L_X8_0 20)] := hG
  refine lv_dup hx hb dX8_init_183 rfl ?_
  refine lv_bipush (v := 20) hx hb dX8_init_184 (by decide) ?_
  refine lv_iconst (v := 5) hx hb dX8_init_186 (by decide) ?_
  refine r_ilf X hG 11 rfl (by decide) (by decide) (by decide) (by decide +kernel) dX8_init_187 (fun H locs hG => ?_)
  have hG : GM g A s.heap H locs [oX8 g o (fun _ => 0) (va_up (va_up (va_up (va_up (va_up (va_up (va_up (va_up (va_up (va_up (fun _ => none) 2 (some q1)) 3 (some q2)) 4 (some q3)) 5 (some q4)) 7 (some q5)) 8 (some q6)) 9 (some q7)) 11 (some q8)) 12 (some q9)) 13 (some q10)), aI g q1 6 (fun _ => 0), aI g q2 6 (fun _ => 0), aI g q3 6 (fun _ => 0), aI g q4 6 (fun _ => 0), aI g q5 24 (fun _ => 0), aI g q6 24 (fun _ => 0), aI g q7 24 (fun _ => 0), aI g q8 8 (fun _ => 0), aI g q9 8 (fun _ => 0), aI g q10 8 (fun _ => 0), aI g q11 120 (lf L_X8_0 21)] := hG
  refine lv_dup hx hb dX8_init_188 rfl ?_
  refine lv_bipush (v := 21) hx hb dX8_init_189 (by decide) ?_
  refine lv_iconst (v := 5) hx hb dX8_init_191 (by decide) ?_
  refine r_ilf X hG 11 rfl (by decide) (by decide) (by decide) (by decide +kernel) dX8_init_192 (fun H locs hG => ?_)
  have hG : GM g A s.heap H locs [oX8 g o (fun _ => 0) (va_up (va_up (va_up (va_up (va_up (va_up (va_up (va_up (va_up (va_up (fun _ => none) 2 (some q1)) 3 (some q2)) 4 (some q3)) 5 (some q4)) 7 (some q5)) 8 (some q6)) 9 (some q7)) 11 (some q8)) 12 (some q9)) 13 (some q10)), aI g q1 6 (fun _ => 0), aI g q2 6 (fun _ => 0), aI g q3 6 (fun _ => 0), aI g q4 6 (fun _ => 0), aI g q5 24 (fun _ => 0), aI g q6 24 (fun _ => 0), aI g q7 24 (fun _ => 0), aI g q8 8 (fun _ => 0), aI g q9 8 (fun _ => 0), aI g q10 8 (fun _ => 0), aI g q11 120 (lf L_X8_0 22)] := hG
  refine lv_dup hx hb dX8_init_193 rfl ?_
  refine lv_bipush (v := 22) hx hb dX8_init_194 (by decide) ?_
  refine lv_iconst (v := 5) hx hb dX8_init_196 (by decide) ?_
  refine r_ilf X hG 11 rfl (by decide) (by decide) (by decide) (by decide +kernel) dX8_init_197 (fun H locs hG => ?_)
  have hG : GM g A s.heap H locs [oX8 g o (fun _ => 0) (va_up (va_up (va_up (va_up (va_up (va_up (va_up (va_up (va_up (va_up (fun _ => none) 2 (some q1)) 3 (some q2)) 4 (some q3)) 5 (some q4)) 7 (some q5)) 8 (some q6)) 9 (some q7)) 11 (some q8)) 12 (some q9)) 13 (some q10)), aI g q1 6 (fun _ => 0), aI g q2 6 (fun _ => 0), aI g q3 6 (fun _ => 0), aI g q4 6 (fun _ => 0), aI g q5 24 (fun _ => 0), aI g q6 24 (fun _ => 0), aI g q7 24 (fun _ => 0), aI g q8 8 (fun _ => 0), aI g q9 8 (fun _ => 0), aI g q10 8 (fun _ => 0), aI g q11 120 (lf L_X8_0 23)] := hG
  refine lv_dup hx hb dX8_init_198 rfl ?_
  refine lv_bipush (v := 23) hx hb dX8_init_199 (by decide) ?_
  refine lv_iconst (v := 5) hx hb dX8_init_201 (by decide) ?_
  refine r_ilf X hG 11 rfl (by decide) (by decide) (by decide) (by decide +kernel) dX8_init_202 (fun H locs hG => ?_)
  have hG : GM g A s.heap H locs [oX8 g o (fun _ => 0) (va_up (va_up (va_up (va_up (va_up (va_up (va_up (va_up (va_up (va_up (fun _ => none) 2 (some q1)) 3 (some q2)) 4 (some q3)) 5 (some q4)) 7 (some q5)) 8 (some q6)) 9 (some q7)) 11 (some q8)) 12 (some q9)) 13 (some q10)), aI g q1 6 (fun _ => 0), aI g q2 6 (fun _ => 0), aI g q3 6 (fun _ => 0), aI g q4 6 (fun _ => 0), aI g q5 24 (fun _ => 0), aI g q6 24 (fun _ => 0), aI g q7 24 (fun _ => 0), aI g q8 8 (fun _ => 0), aI g q9 8 (fun _ => 0), aI g q10 8 (fun _ => 0), aI g q11 120 (lf L_X8_0 24)] := hG
  refine lv_dup hx hb dX8_init_203 rfl ?_
  refine lv_bipush (v := 24) hx hb dX8_init_204 (by decide) ?_
  refine lv_iconst (v := 5) hx hb dX8_init_206 (by decide) ?_
  refine r_ilf X hG 11 rfl (by decide) (by decide) (by decide) (by decide +kernel) dX8_init_207 (fun H locs hG => ?_)
  have hG : GM g A s.heap H locs [oX8 g o (fun _ => 0) (va_up (va_up (va_up (va_up (va_up (va_up (va_up (va_up (va_up (va_up (fun _ => none) 2 (some q1)) 3 (some q2)) 4 (some q3)) 5 (some q4)) 7 (some q5)) 8 (some q6)) 9 (some q7)) 11 (some q8)) 12 (some q9)) 13 (some q10)), aI g q1 6 (fun _ => 0), aI g q2 6 (fun _ => 0), aI g q3 6 (fun _ => 0), aI g q4 6 (fun _ => 0), aI g q5 24 (fun _ => 0), aI g q6 24 (fun _ => 0), aI g q7 24 (fun _ => 0), aI g q8 8 (fun _ => 0), aI g q9 8 (fun _ => 0), aI g q10 8 (fun _ => 0), aI g q11 120 (lf L_X8_0 25)] := hG
  refine lv_dup hx hb dX8_init_208 rfl ?_
  refine lv_bipush (v := 25) hx hb dX8_init_209 (by decide) ?_
  refine lv_iconst (v := 5) hx hb dX8_init_211 (by decide) ?_
  refine r_ilf X hG 11 rfl (by decide) (by decide) (by decide) (by decide +kernel) dX8_init_212 (fun H locs hG => ?_)
  have hG : GM g A s.heap H locs [oX8 g o (fun _ => 0) (va_up (va_up (va_up (va_up (va_up (va_up (va_up (va_up (va_up (va_up (fun _ => none) 2 (some q1)) 3 (some q2)) 4 (some q3)) 5 (some q4)) 7 (some q5)) 8 (some q6)) 9 (some q7)) 11 (some q8)) 12 (some q9)) 13 (some q10)), aI g q1 6 (fun _ => 0), aI g q2 6 (fun _ => 0), aI g q3 6 (fun _ => 0), aI g q4 6 (fun _ => 0), aI g q5 24 (fun _ => 0), aI g q6 24 (fun _ => 0), aI g q7 24 (fun _ => 0), aI g q8 8 (fun _ => 0), aI g q9 8 (fun _ => 0), aI g q10 8 (fun _ => 0), aI g q11 120 (lf L_X8_0 26)] := hG
  refine lv_dup hx hb dX8_init_213 rfl ?_
  refine lv_bipush (v := 26) hx hb dX8_init_214 (by decide) ?_
  refine lv_iconst (v := 5) hx hb dX8_init_216 (by decide) ?_
  refine r_ilf X hG 11 rfl (by decide) (by decide) (by decide) (by decide +kernel) dX8_init_217 (fun H locs hG => ?_)
  have hG : GM g A s.heap H locs [oX8 g o (fun _ => 0) (va_up (va_up (va_up (va_up (va_up (va_up (va_up (va_up (va_up (va_up (fun _ => none) 2 (some q1)) 3 (some q2)) 4 (some q3)) 5 (some q4)) 7 (some q5)) 8 (some q6)) 9 (some q7)) 11 (some q8)) 12 (some q9)) 13 (some q10)), aI g q1 6 (fun _ => 0), aI g q2 6 (fun _ => 0), aI g q3 6 (fun _ => 0), aI g q4 6 (fun _ => 0), aI g q5 24 (fun _ => 0), aI g q6 24 (fun _ => 0), aI g q7 24 (fun _ => 0), aI g q8 8 (fun _ => 0), aI g q9 8 (fun _ => 0), aI g q10 8 (fun _ => 0), aI g q11 120 (lf L_X8_0 27)] := hG
  refine lv_dup hx hb dX8_init_218 rfl ?_
  refine lv_bipush (v := 27) hx hb dX8_init_219 (by decide) ?_
  refine lv_iconst (v := 5) hx hb dX8_init_221 (by decide) ?_
  refine r_ilf X hG 11 rfl (by decide) (by decide) (by decide) (by decide +kernel) dX8_init_222 (fun H locs hG => ?_)
  have hG : GM g A s.heap H locs [oX8 g o (fun _ => 0) (va_up (va_up (va_up (va_up (va_up (va_up (va_up (va_up (va_up (va_up (fun _ => none) 2 (some q1)) 3 (some q2)) 4 (some q3)) 5 (some q4)) 7 (some q5)) 8 (some q6)) 9 (some q7)) 11 (some q8)) 12 (some q9)) 13 (some q10)), aI g q1 6 (fun _ => 0), aI g q2 6 (fun _ => 0), aI g q3 6 (fun _ => 0), aI g q4 6 (fun _ => 0), aI g q5 24 (fun _ => 0), aI g q6 24 (fun _ => 0), aI g q7 24 (fun _ => 0), aI g q8 8 (fun _ => 0), aI g q9 8 (fun _ => 0), aI g q10 8 (fun _ => 0), aI g q11 120 (lf L_X8_0 28)] := hG
  refine lv_dup hx hb dX8_init_223 rfl ?_
  refine lv_bipush (v := 28) hx hb dX8_init_224 (by decide) ?_
  refine lv_iconst (v := 5) hx hb dX8_init_226 (by decide) ?_
  refine r_ilf X hG 11 rfl (by decide) (by decide) (by decide) (by decide +kernel) dX8_init_227 (fun H locs hG => ?_)
  have hG : GM g A s.heap H locs [oX8 g o (fun _ => 0) (va_up (va_up (va_up (va_up (va_up (va_up (va_up (va_up (va_up (va_up (fun _ => none) 2 (some q1)) 3 (some q2)) 4 (some q3)) 5 (some q4)) 7 (some q5)) 8 (some q6)) 9 (some q7)) 11 (some q8)) 12 (some q9)) 13 (some q10)), aI g q1 6 (fun _ => 0), aI g q2 6 (fun _ => 0), aI g q3 6 (fun _ => 0), aI g q4 6 (fun _ => 0), aI g q5 24 (fun _ => 0), aI g q6 24 (fun _ => 0), aI g q7 24 (fun _ => 0), aI g q8 8 (fun _ => 0), aI g q9 8 (fun _ => 0), aI g q10 8 (fun _ => 0), aI g q11 120 (lf L_X8_0 29)] := hG
  refine lv_dup hx hb dX8_init_228 rfl ?_
  refine lv_bipush (v := 29) hx hb dX8_init_229 (by decide) ?_
  refine lv_iconst (v := 5) hx hb dX8_init_231 (by decide) ?_
  refine r_ilf X hG 11 rfl (by decide) (by decide) (by decide) (by decide +kernel) dX8_init_232 (fun H locs hG => ?_)
  have hG : GM g A s.heap H locs [oX8 g o (fun _ => 0) (va_up (va_up (va_up (va_up (va_up (va_up (va_up (va_up (va_up (va_up (fun _ => none) 2 (some q1)) 3 (some q2)) 4 (some q3)) 5 (some q4)) 7 (some q5)) 8 (some q6)) 9 (some q7)) 11 (some q8)) 12 (some q9)) 13 (some q10)), aI g q1 6 (fun _ => 0), aI g q2 6 (fun _ => 0), aI g q3 6 (fun _ => 0), aI g q4 6 (fun _ => 0), aI g q5 24 (fun _ => 0), aI g q6 24 (fun _ => 0), aI g q7 24 (fun _ => 0), aI g q8 8 (fun _ => 0), aI g q9 8 (fun _ => 0), aI g q10 8 (fun _ => 0), aI g q11 120 (lf L_X8_0 30)] := hG
  refine lv_dup hx hb dX8_init_233 rfl ?_
  refine lv_bipush (v := 30) hx hb dX8_init_234 (by decide) ?_
  refine lv_iconst (v := 5) hx hb dX8_init_236 (by decide) ?_
  refine r_ilf X hG 11 rfl (by decide) (by decide) (by decide) (by decide +kernel) dX8_init_237 (fun H locs hG => ?_)
  have hG : GM g A s.heap H locs [oX8 g o (fun _ => 0) (va_up (va_up (va_up (va_up (va_up (va_up (va_up (va_up (va_up (va_up (fun _ => none) 2 (some q1)) 3 (some q2)) 4 (some q3)) 5 (some q4)) 7 (some q5)) 8 (some q6)) 9 (some q7)) 11 (some q8)) 12 (some q9)) 13 (some q10)), aI g q1 6 (fun _ => 0), aI g q2 6 (fun _ => 0), aI g q3 6 (fun _ => 0), aI g q4 6 (fun _ => 0), aI g q5 24 (fun _ => 0), aI g q6 24 (fun _ => 0), aI g q7 24 (fun _ => 0), aI g q8 8 (fun _ => 0), aI g q9 8 (fun _ => 0), aI g q10 8 (fun _ => 0), aI g q11 120 (lf L_X8_0 31)] := hG
  refine lv_dup hx hb dX8_init_238 rfl ?_
  refine lv_bipush (v := 31) hx hb dX8_init_239 (by decide) ?_
  refine lv_iconst (v := 5) hx hb dX8_init_241 (by decide) ?_
  refine r_ilf X hG 11 rfl (by decide) (by decide) (by decide) (by decide +kernel) dX8_init_242 (fun H locs hG => ?_)
  have hG : GM g A s.heap H locs [oX8 g o (fun _ => 0) (va_up (va_up (va_up (va_up (va_up (va_up (va_up (va_up (va_up (va_up (fun _ => none) 2 (some q1)) 3 (some q2)) 4 (some q3)) 5 (some q4)) 7 (some q5)) 8 (some q6)) 9 (some q7)) 11 (some q8)) 12 (some q9)) 13 (some q10)), aI g q1 6 (fun _ => 0), aI g q2 6 (fun _ => 0), aI g q3 6 (fun _ => 0), aI g q4 6 (fun _ => 0), aI g q5 24 (fun _ => 0), aI g q6 24 (fun _ => 0), aI g q7 24 (fun _ => 0), aI g q8 8 (fun _ => 0), aI g q9 8 (fun _ => 0), aI g q10 8 (fun _ => 0), aI g q11 120 (lf L_X8_0 32)] := hG
  refine lv_dup hx hb dX8_init_243 rfl ?_
  refine lv_bipush (v := 32) hx hb dX8_init_244 (by decide) ?_
  refine lv_iconst (v := 5) hx hb dX8_init_246 (by decide) ?_
  refine r_ilf X hG 11 rfl (by decide) (by decide) (by decide) (by decide +kernel) dX8_init_247 (fun H locs hG => ?_)
  have hG : GM g A s.heap H locs [oX8 g o (fun _ => 0) (va_up (va_up (va_up (va_up (va_up (va_up (va_up (va_up (va_up (va_up (fun _ => none) 2 (some q1)) 3 (some q2)) 4 (some q3)) 5 (some q4)) 7 (some q5)) 8 (some q6)) 9 (some q7)) 11 (some q8)) 12 (some q9)) 13 (some q10)), aI g q1 6 (fun _ => 0), aI g q2 6 (fun _ => 0), aI g q3 6 (fun _ => 0), aI g q4 6 (fun _ => 0), aI g q5 24 (fun _ => 0), aI g q6 24 (fun _ => 0), aI g q7 24 (fun _ => 0), aI g q8 8 (fun _ => 0), aI g q9 8 (fun _ => 0), aI g q10 8 (fun _ => 0), aI g q11 120 (lf L_X8_0 33)] := hG
  refine lv_dup hx hb dX8_init_248 rfl ?_
  refine lv_bipush (v := 33) hx hb dX8_init_249 (by decide) ?_
  refine lv_iconst (v := 5) hx hb dX8_init_251 (by decide) ?_
  refine r_ilf X hG 11 rfl (by decide) (by decide) (by decide) (by decide +kernel) dX8_init_252 (fun H locs hG => ?_)
  have hG : GM g A s.heap H locs [oX8 g o (fun _ => 0) (va_up (va_up (va_up (va_up (va_up (va_up (va_up (va_up (va_up (va_up (fun _ => none) 2 (some q1)) 3 (some q2)) 4 (some q3)) 5 (some q4)) 7 (some q5)) 8 (some q6)) 9 (some q7)) 11 (some q8)) 12 (some q9)) 13 (some q10)), aI g q1 6 (fun _ => 0), aI g q2 6 (fun _ => 0), aI g q3 6 (fun _ => 0), aI g q4 6 (fun _ => 0), aI g q5 24 (fun _ => 0), aI g q6 24 (fun _ => 0), aI g q7 24 (fun _ => 0), aI g q8 8 (fun _ => 0), aI g q9 8 (fun _ => 0), aI g q10 8 (fun _ => 0), aI g q11 120 (lf L_X8_0 34)] := hG
  refine lv_dup hx hb dX8_init_253 rfl ?_
  refine lv_bipush (v := 34) hx hb dX8_init_254 (by decide) ?_
  refine lv_iconst (v := 5) hx hb dX8_init_256 (by decide) ?_
  refine r_ilf X hG 11 rfl (by decide) (by decide) (by decide) (by decide +kernel) dX8_init_257 (fun H locs hG => ?_)
  have hG : GM g A s.heap H locs [oX8 g o (fun _ => 0) (va_up (va_up (va_up (va_up (va_up (va_up (va_up (va_up (va_up (va_up (fun _ => none) 2 (some q1)) 3 (some q2)) 4 (some q3)) 5 (some q4)) 7 (some q5)) 8 (some q6)) 9 (some q7)) 11 (some q8)) 12 (some q9)) 13 (some q10)), aI g q1 6 (fun _ => 0), aI g q2 6 (fun _ => 0), aI g q3 6 (fun _ => 0), aI g q4 6 (fun _ => 0), aI g q5 24 (fun _ => 0), aI g q6 24 (fun _ => 0), aI g q7 24 (fun _ => 0), aI g q8 8 (fun _ => 0), aI g q9 8 (fun _ => 0), aI g q10 8 (fun _ => 0), aI g q11 120 (lf L_X8_0 35)] := hG
  refine lv_dup hx hb dX8_init_258 rfl ?_
  refine lv_bipush (v := 35) hx hb dX8_init_259 (by decide) ?_
  refine lv_iconst (v := 5) hx hb dX8_init_261 (by decide) ?_
  refine r_ilf X hG 11 rfl (by decide) (by decide) (by decide) (by decide +kernel) dX8_init_262 (fun H locs hG => ?_)
  have hG : GM g A s.heap H locs [oX8 g o (fun _ => 0) (va_up (va_up (va_up (va_up (va_up (va_up (va_up (va_up (va_up (va_up (fun _ => none) 2 (some q1)) 3 (some q2)) 4 (some q3)) 5 (some q4)) 7 (some q5)) 8 (some q6)) 9 (some q7)) 11 (some q8)) 12 (some q9)) 13 (some q10)), aI g q1 6 (fun _ => 0), aI g q2 6 (fun _ => 0), aI g q3 6 (fun _ => 0), aI g q4 6 (fun _ => 0), aI g q5 24 (fun _ => 0), aI g q6 24 (fun _ => 0), aI g q7 24 (fun _ => 0), aI g q8 8 (fun _ => 0), aI g q9 8 (fun _ => 0), aI g q10 8 (fun _ => 0), aI g q11 120 (lf L_X8_0 36)] := hG
  refine lv_dup hx hb dX8_init_263 rfl ?_
  refine lv_bipush (v := 36) hx hb dX8_init_264 (by decide) ?_
  refine lv_iconst (v := 5) hx hb dX8_init_266 (by decide) ?_
  refine r_ilf X hG 11 rfl (by decide) (by decide) (by decide) (by decide +kernel) dX8_init_267 (fun H locs hG => ?_)
  have hG : GM g A s.heap H locs [oX8 g o (fun _ => 0) (va_up (va_up (va_up (va_up (va_up (va_up (va_up (va_up (va_up (va_up (fun _ => none) 2 (some q1)) 3 (some q2)) 4 (some q3)) 5 (some q4)) 7 (some q5)) 8 (some q6)) 9 (some q7)) 11 (some q8)) 12 (some q9)) 13 (some q10)), aI g q1 6 (fun _ => 0), aI g q2 6 (fun _ => 0), aI g q3 6 (fun _ => 0), aI g q4 6 (fun _ => 0), aI g q5 24 (fun _ => 0), aI g q6 24 (fun _ => 0), aI g q7 24 (fun _ => 0), aI g q8 8 (fun _ => 0), aI g q9 8 (fun _ => 0), aI g q10 8 (fun _ => 0), aI g q11 120 (lf L_X8_0 37)] := hG
  refine lv_dup hx hb dX8_init_268 rfl ?_
  refine lv_bipush (v := 37) hx hb dX8_init_269 (by decide) ?_
  refine lv_iconst (v := 5) hx hb dX8_init_271 (by decide) ?_
  refine r_ilf X hG 11 rfl (by decide) (by decide) (by decide) (by decide +kernel) dX8_init_272 (fun H locs hG => ?_)
  have hG : GM g A s.heap H locs [oX8 g o (fun _ => 0) (va_up (va_up (va_up (va_up (va_up (va_up (va_up (va_up (va_up (va_up (fun _ => none) 2 (some q1)) 3 (some q2)) 4 (some q3)) 5 (some q4)) 7 (some q5)) 8 (some q6)) 9 (some q7)) 11 (some q8)) 12 (some q9)) 13 (some q10)), aI g q1 6 (fun _ => 0), aI g q2 6 (fun _ => 0), aI g q3 6 (fun _ => 0), aI g q4 6 (fun _ => 0), aI g q5 24 (fun _ => 0), aI g q6 24 (fun _ => 0), aI g q7 24 (fun _ => 0), aI g q8 8 (fun _ => 0), aI g q9 8 (fun _ => 0), aI g q10 8 (fun _ => 0), aI g q11 120 (lf L_X8_0 38)] := hG
  refine lv_dup hx hb dX8_init_273 rfl ?_
  refine lv_bipush (v := 38) hx hb dX8_init_274 (by decide) ?_
  refine lv_iconst (v := 5) hx hb dX8_init_276 (by decide) ?_
  refine r_ilf X hG 11 rfl (by decide) (by decide) (by decide) (by decide +kernel) dX8_init_277 (fun H locs hG => ?_)
  have hG : GM g A s.heap H locs [oX8 g o (fun _ => 0) (va_up (va_up (va_up (va_up (va_up (va_up (va_up (va_up (va_up (va_up (fun _ => none) 2 (some q1)) 3 (some q2)) 4 (some q3)) 5 (some q4)) 7 (some q5)) 8 (some q6)) 9 (some q7)) 11 (some q8)) 12 (some q9)) 13 (some q10)), aI g q1 6 (fun _ => 0), aI g q2 6 (fun _ => 0), aI g q3 6 (fun _ => 0), aI g q4 6 (fun _ => 0), aI g q5 24 (fun _ => 0), aI g q6 24 (fun _ => 0), aI g q7 24 (fun _ => 0), aI g q8 8 (fun _ => 0), aI g q9 8 (fun _ => 0), aI g q10 8 (fun _ => 0), aI g q11 120 (lf L_X8_0 39)] := hG
  refine lv_dup hx hb dX8_init_278 rfl ?_
  refine lv_bipush (v := 39) hx hb dX8_init_279 (by decide) ?_
  refine lv_iconst (v := 5) hx hb dX8_init_281 (by decide) ?_
  refine r_ilf X hG 11 rfl (by decide) (by decide) (by decide) (by decide +kernel) dX8_init_282 (fun H locs hG => ?_)
  have hG : GM g A s.heap H locs [oX8 g o (fun _ => 0) (va_up (va_up (va_up (va_up (va_up (va_up (va_up (va_up (va_up (va_up (fun _ => none) 2 (some q1)) 3 (some q2)) 4 (some q3)) 5 (some q4)) 7 (some q5)) 8 (some q6)) 9 (some q7)) 11 (some q8)) 12 (some q9)) 13 (some q10)), aI g q1 6 (fun _ => 0), aI g q2 6 (fun _ => 0), aI g q3 6 (fun _ => 0), aI g q4 6 (fun _ => 0), aI g q5 24 (fun _ => 0), aI g q6 24 (fun _ => 0), aI g q7 24 (fun _ => 0), aI g q8 8 (fun _ => 0), aI g q9 8 (fun _ => 0), aI g q10 8 (fun _ => 0), aI g q11 120 (lf L_X8_0 40)] := hG
  refine lv_dup hx hb dX8_init_283 rfl ?_
  refine lv_bipush (v := 40) hx hb dX8_init_284 (by decide) ?_
  refine lv_iconst (v := 5) hx hb dX8_init_286 (by decide) ?_
  refine r_ilf X hG 11 rfl (by decide) (by decide) (by decide) (by decide +kernel) dX8_init_287 (fun H locs hG => ?_)
  have hG : GM g A s.heap H locs [oX8 g o (fun _ => 0) (va_up (va_up (va_up (va_up (va_up (va_up (va_up (va_up (va_up (va_up (fun _ => none) 2 (some q1)) 3 (some q2)) 4 (some q3)) 5 (some q4)) 7 (some q5)) 8 (some q6)) 9 (some q7)) 11 (some q8)) 12 (some q9)) 13 (some q10)), aI g q1 6 (fun _ => 0), aI g q2 6 (fun _ => 0), aI g q3 6 (fun _ => 0), aI g q4 6 (fun _ => 0), aI g q5 24 (fun _ => 0), aI g q6 24 (fun _ => 0), aI g q7 24 (fun _ => 0), aI g q8 8 (fun _ => 0), aI g q9 8 (fun _ => 0), aI g q10 8 (fun _ => 0), aI g q11 120 (lf L_X8_0 41)] := hG
  refine lv_dup hx hb dX8_init_288 rfl ?_
  refine lv_bipush (v := 41) hx hb dX8_init_289 (by decide) ?_
  refine lv_iconst (v := 5) hx hb dX8_init_291 (by decide) ?_
  refine r_ilf X hG 11 rfl (by decide) (by decide) (by decide) (by decide +kernel) dX8_init_292 (fun H locs hG => ?_)
  have hG : GM g A s.heap H locs [oX8 g o (fun _ => 0) (va_up (va_up (va_up (va_up (va_up (va_up (va_up (va_up (va_up (va_up (fun _ => none) 2 (some q1)) 3 (some q2)) 4 (some q3)) 5 (some q4)) 7 (some q5)) 8 (some q6)) 9 (some q7)) 11 (some q8)) 12 (some q9)) 13 (some q10)), aI g q1 6 (fun _ => 0), aI g q2 6 (fun _ => 0), aI g q3 6 (fun _ => 0), aI g q4 6 (fun _ => 0), aI g q5 24 (fun _ => 0), aI g q6 24 (fun _ => 0), aI g q7 24 (fun _ => 0), aI g q8 8 (fun _ => 0), aI g q9 8 (fun _ => 0), aI g q10 8 (fun _ => 0), aI g q11 120 (lf L_X8_0 42)] := hG
  refine lv_dup hx hb dX8_init_293 rfl ?_
  refine lv_bipush (v := 42) hx hb dX8_init_294 (by decide) ?_
  refine lv_iconst (v := 5) hx hb dX8_init_296 (by decide) ?_
  refine r_ilf X hG 11 rfl (by decide) (by decide) (by decide) (by decide +kernel) dX8_init_297 (fun H locs hG => ?_)
  have hG : GM g A s.heap H locs [oX8 g o (fun _ => 0) (va_up (va_up (va_up (va_up (va_up (va_up (va_up (va_up (va_up (va_up (fun _ => none) 2 (some q1)) 3 (some q2)) 4 (some q3)) 5 (some q4)) 7 (some q5)) 8 (some q6)) 9 (some q7)) 11 (some q8)) 12 (some q9)) 13 (some q10)), aI g q1 6 (fun _ => 0), aI g q2 6 (fun _ => 0), aI g q3 6 (fun _ => 0), aI g q4 6 (fun _ => 0), aI g q5 24 (fun _ => 0), aI g q6 24 (fun _ => 0), aI g q7 24 (fun _ => 0), aI g q8 8 (fun _ => 0), aI g q9 8 (fun _ => 0), aI g q10 8 (fun _ => 0), aI g q11 120 (lf L_X8_0 43)] := hG
  refine lv_dup hx hb dX8_init_298 rfl ?_
  refine lv_bipush (v := 43) hx hb dX8_init_299 (by decide) ?_
  refine lv_iconst (v := 5) hx hb dX8_init_301 (by decide) ?_
  refine r_ilf X hG 11 rfl (by decide) (by decide) (by decide) (by decide +kernel) dX8_init_302 (fun H locs hG => ?_)
  have hG : GM g A s.heap H locs [oX8 g o (fun _ => 0) (va_up (va_up (va_up (va_up (va_up (va_up (va_up (va_up (va_up (va_up (fun _ => none) 2 (some q1)) 3 (some q2)) 4 (some q3)) 5 (some q4)) 7 (some q5)) 8 (some q6)) 9 (some q7)) 11 (some q8)) 12 (some q9)) 13 (some q10)), aI g q1 6 (fun _ => 0), aI g q2 6 (fun _ => 0), aI g q3 6 (fun _ => 0), aI g q4 6 (fun _ => 0), aI g q5 24 (fun _ => 0), aI g q6 24 (fun _ => 0), aI g q7 24 (fun _ => 0), aI g q8 8 (fun _ => 0), aI g q9 8 (fun _ => 0), aI g q10 8 (fun _ => 0), aI g q11 120 (lf L_X8_0 44)] := hG
  refine lv_dup hx hb dX8_init_303 rfl ?_
  refine lv_bipush (v := 44) hx hb dX8_init_304 (by decide) ?_
  refine lv_iconst (v := 5) hx hb dX8_init_306 (by decide) ?_
  refine r_ilf X hG 11 rfl (by decide) (by decide) (by decide) (by decide +kernel) dX8_init_307 (fun H locs hG => ?_)
  have hG : GM g A s.heap H locs [oX8 g o (fun _ => 0) (va_up (va_up (va_up (va_up (va_up (va_up (va_up (va_up (va_up (va_up (fun _ => none) 2 (some q1)) 3 (some q2)) 4 (some q3)) 5 (some q4)) 7 (some q5)) 8 (some q6)) 9 (some q7)) 11 (some q8)) 12 (some q9)) 13 (some q10)), aI g q1 6 (fun _ => 0), aI g q2 6 (fun _ => 0), aI g q3 6 (fun _ => 0), aI g q4 6 (fun _ => 0), aI g q5 24 (fun _ => 0), aI g q6 24 (fun _ => 0), aI g q7 24 (fun _ => 0), aI g q8 8 (fun _ => 0), aI g q9 8 (fun _ => 0), aI g q10 8 (fun _ => 0), aI g q11 120 (lf L_X8_0 45)] := hG
  refine lv_dup hx hb dX8_init_308 rfl ?_
  refine lv_bipush (v := 45) hx hb dX8_init_309 (by decide) ?_
  refine lv_iconst (v := 5) hx hb dX8_init_311 (by decide) ?_
  refine r_ilf X hG 11 rfl (by decide) (by decide) (by decide) (by decide +kernel) dX8_init_312 (fun H locs hG => ?_)
  have hG : GM g A s.heap H locs [oX8 g o (fun _ => 0) (va_up (va_up (va_up (va_up (va_up (va_up (va_up (va_up (va_up (va_up (fun _ => none) 2 (some q1)) 3 (some q2)) 4 (some q3)) 5 (some q4)) 7 (some q5)) 8 (some q6)) 9 (some q7)) 11 (some q8)) 12 (some q9)) 13 (some q10)), aI g q1 6 (fun _ => 0), aI g q2 6 (fun _ => 0), aI g q3 6 (fun _ => 0), aI g q4 6 (fun _ => 0), aI g q5 24 (fun _ => 0), aI g q6 24 (fun _ => 0), aI g q7 24 (fun _ => 0), aI g q8 8 (fun _ => 0), aI g q9 8 (fun _ => 0), aI g q10 8 (fun _ => 0), aI g q11 120 (lf L_X8_0 46)] := hG
  refine lv_dup hx hb dX8_init_313 rfl ?_
  refine lv_bipush (v := 46) hx hb dX8_init_314 (by decide) ?_
  refine lv_iconst (v := 5) hx hb dX8_init_316 (by decide) ?_
  refine r_ilf X hG 11 rfl (by decide) (by decide) (by decide) (by decide +kernel) dX8_init_317 (fun H locs hG => ?_)
  have hG : GM g A s.heap H locs [oX8 g o (fun _ => 0) (va_up (va_up (va_up (va_up (va_up (va_up (va_up (va_up (va_up (va_up (fun _ => none) 2 (some q1)) 3 (some q2)) 4 (some q3)) 5 (some q4)) 7 (some q5)) 8 (some q6)) 9 (some q7)) 11 (some q8)) 12 (some q9)) 13 (some q10)), aI g q1 6 (fun _ => 0), aI g q2 6 (fun _ => 0), aI g q3 6 (fun _ => 0), aI g q4 6 (fun _ => 0), aI g q5 24 (fun _ => 0), aI g q6 24 (fun _ => 0), aI g q7 24 (fun _ => 0), aI g q8 8 (fun _ => 0), aI g q9 8 (fun _ => 0), aI g q10 8 (fun _ => 0), aI g q11 120 (lf L_X8_0 47)] := hG
  refine lv_dup hx hb dX8_init_318 rfl ?_
  refine lv_bipush (v := 47) hx hb dX8_init_319 (by decide) ?_
  refine lv_iconst (v := 5) hx hb dX8_init_321 (by decide) ?_
  refine r_ilf X hG 11 rfl (by decide) (by decide) (by decide) (by decide +kernel) dX8_init_322 (fun H locs hG => ?_)
  have hG : GM g A s.heap H locs [oX8 g o (fun _ => 0) (va_up (va_up (va_up (va_up (va_up (va_up (va_up (va_up (va_up (va_up (fun _ => none) 2 (some q1)) 3 (some q2)) 4 (some q3)) 5 (some q4)) 7 (some q5)) 8 (some q6)) 9 (some q7)) 11 (some q8)) 12 (some q9)) 13 (some q10)), aI g q1 6 (fun _ => 0), aI g q2 6 (fun _ => 0), aI g q3 6 (fun _ => 0), aI g q4 6 (fun _ => 0), aI g q5 24 (fun _ => 0), aI g q6 24 (fun _ => 0), aI g q7 24 (fun _ => 0), aI g q8 8 (fun _ => 0), aI g q9 8 (fun _ => 0), aI g q10 8 (fun _ => 0), aI g q11 120 (lf L_X8_0 48)] := hG
  refine lv_dup hx hb dX8_init_323 rfl ?_
  refine lv_bipush (v := 48) hx hb dX8_init_324 (by decide) ?_
  refine lv_iconst (v := 5) hx hb dX8_init_326 (by decide) ?_
  refine r_ilf X hG 11 rfl (by decide) (by decide) (by decide) (by decide +kernel) dX8_init_327 (fun H locs hG => ?_)
  have hG : GM g A s.heap H locs [oX8 g o (fun _ => 0) (va_up (va_up (va_up (va_up (va_up (va_up (va_up (va_up (va_up (va_up (fun _ => none) 2 (some q1)) 3 (some q2)) 4 (some q3)) 5 (some q4)) 7 (some q5)) 8 (some q6)) 9 (some q7)) 11 (some q8)) 12 (some q9)) 13 (some q10)), aI g q1 6 (fun _ => 0), aI g q2 6 (fun _ => 0), aI g q3 6 (fun _ => 0), aI g q4 6 (fun _ => 0), aI g q5 24 (fun _ => 0), aI g q6 24 (fun _ => 0), aI g q7 24 (fun _ => 0), aI g q8 8 (fun _ => 0), aI g q9 8 (fun _ => 0), aI g q10 8 (fun _ => 0), aI g q11 120 (lf L_X8_0 49)] := hG
  refine lv_dup hx hb dX8_init_328 rfl ?_
  refine lv_bipush (v := 49) hx hb dX8_init_329 (by decide) ?_
  refine lv_iconst (v := 5) hx hb dX8_init_331 (by decide) ?_
  refine r_ilf X hG 11 rfl (by decide) (by decide) (by decide) (by decide +kernel) dX8_init_332 (fun H locs hG => ?_)
  have hG : GM g A s.heap H locs [oX8 g o (fun _ => 0) (va_up (va_up (va_up (va_up (va_up (va_up (va_up (va_up (va_up (va_up (fun _ => none) 2 (some q1)) 3 (some q2)) 4 (some q3)) 5 (some q4)) 7 (some q5)) 8 (some q6)) 9 (some q7)) 11 (some q8)) 12 (some q9)) 13 (some q10)), aI g q1 6 (fun _ => 0), aI g q2 6 (fun _ => 0), aI g q3 6 (fun _ => 0), aI g q4 6 (fun _ => 0), aI g q5 24 (fun _ => 0), aI g q6 24 (fun _ => 0), aI g q7 24 (fun _ => 0), aI g q8 8 (fun _ => 0), aI g q9 8 (fun _ => 0), aI g q10 8 (fun _ => 0), aI g q11 120 (lf L_X8_0 50)] := hG
  refine lv_dup hx hb dX8_init_333 rfl ?_
  refine lv_bipush (v := 50) hx hb dX8_init_334 (by decide) ?_
  refine lv_iconst (v := 5) hx hb dX8_init_336 (by decide) ?_
  refine r_ilf X hG 11 rfl (by decide) (by decide) (by decide) (by decide +kernel) dX8_init_337 (fun H locs hG => ?_)
  have hG : GM g A s.heap H locs [oX8 g o (fun _ => 0) (va_up (va_up (va_up (va_up (va_up (va_up (va_up (va_up (va_up (va_up (fun _ => none) 2 (some q1)) 3 (some q2)) 4 (some q3)) 5 (some q4)) 7 (some q5)) 8 (some q6)) 9 (some q7)) 11 (some q8)) 12 (some q9)) 13 (some q10)), aI g q1 6 (fun _ => 0), aI g q2 6 (fun _ => 0), aI g q3 6 (fun _ => 0), aI g q4 6 (fun _ => 0), aI g q5 24 (fun _ => 0), aI g q6 24 (fun _ => 0), aI g q7 24 (fun _ => 0), aI g q8 8 (fun _ => 0), aI g q9 8 (fun _ => 0), aI g q10 8 (fun _ => 0), aI g q11 120 (lf L_X8_0 51)] := hG
  refine lv_dup hx hb dX8_init_338 rfl ?_
  refine lv_bipush (v := 51) hx hb dX8_init_339 (by decide) ?_
  refine lv_iconst (v := 5) hx hb dX8_init_341 (by decide) ?_
  refine r_ilf X hG 11 rfl (by decide) (by decide) (by decide) (by decide +kernel) dX8_init_342 (fun H locs hG => ?_)
  have hG : GM g A s.heap H locs [oX8 g o (fun _ => 0) (va_up (va_up (va_up (va_up (va_up (va_up (va_up (va_up (va_up (va_up (fun _ => none) 2 (some q1)) 3 (some q2)) 4 (some q3)) 5 (some q4)) 7 (some q5)) 8 (some q6)) 9 (some q7)) 11 (some q8)) 12 (some q9)) 13 (some q10)), aI g q1 6 (fun _ => 0), aI g q2 6 (fun _ => 0), aI g q3 6 (fun _ => 0), aI g q4 6 (fun _ => 0), aI g q5 24 (fun _ => 0), aI g q6 24 (fun _ => 0), aI g q7 24 (fun _ => 0), aI g q8 8 (fun _ => 0), aI g q9 8 (fun _ => 0), aI g q10 8 (fun _ => 0), aI g q11 120 (lf L_X8_0 52)] := hG
  refine lv_dup hx hb dX8_init_343 rfl ?_
  refine lv_bipush (v := 52) hx hb dX8_init_344 (by decide) ?_
  refine lv_iconst (v := 5) hx hb dX8_init_346 (by decide) ?_
  refine r_ilf X hG 11 rfl (by decide) (by decide) (by decide) (by decide +kernel) dX8_init_347 (fun H locs hG => ?_)
  have hG : GM g A s.heap H locs [oX8 g o (fun _ => 0) (va_up (va_up (va_up (va_up (va_up (va_up (va_up (va_up (va_up (va_up (fun _ => none) 2 (some q1)) 3 (some q2)) 4 (some q3)) 5 (some q4)) 7 (some q5)) 8 (some q6)) 9 (some q7)) 11 (some q8)) 12 (some q9)) 13 (some q10)), aI g q1 6 (fun _ => 0), aI g q2 6 (fun _ => 0), aI g q3 6 (fun _ => 0), aI g q4 6 (fun _ => 0), aI g q5 24 (fun _ => 0), aI g q6 24 (fun _ => 0), aI g q7 24 (fun _ => 0), aI g q8 8 (fun _ => 0), aI g q9 8 (fun _ => 0), aI g q10 8 (fun _ => 0), aI g q11 120 (lf L_X8_0 53)] := hG
  refine lv_dup hx hb dX8_init_348 rfl ?_
  refine lv_bipush (v := 53) hx hb dX8_init_349 (by decide) ?_
  refine lv_iconst (v := 5) hx hb dX8_init_351 (by decide) ?_
  refine r_ilf X hG 11 rfl (by decide) (by decide) (by decide) (by decide +kernel) dX8_init_352 (fun H locs hG => ?_)
  have hG : GM g A s.heap H locs [oX8 g o (fun _ => 0) (va_up (va_up (va_up (va_up (va_up (va_up (va_up (va_up (va_up (va_up (fun _ => none) 2 (some q1)) 3 (some q2)) 4 (some q3)) 5 (some q4)) 7 (some q5)) 8 (some q6)) 9 (some q7)) 11 (some q8)) 12 (some q9)) 13 (some q10)), aI g q1 6 (fun _ => 0), aI g q2 6 (fun _ => 0), aI g q3 6 (fun _ => 0), aI g q4 6 (fun _ => 0), aI g q5 24 (fun _ => 0), aI g q6 24 (fun _ => 0), aI g q7 24 (fun _ => 0), aI g q8 8 (fun _ => 0), aI g q9 8 (fun _ => 0), aI g q10 8 (fun _ => 0), aI g q11 120 (lf L_X8_0 54)] := hG
  refine lv_dup hx hb dX8_init_353 rfl ?_
  refine lv_bipush (v := 54) hx hb dX8_init_354 (by decide) ?_
  refine lv_iconst (v := 5) hx hb dX8_init_356 (by decide) ?_
  refine r_ilf X hG 11 rfl (by decide) (by decide) (by decide) (by decide +kernel) dX8_init_357 (fun H locs hG => ?_)
  have hG : GM g A s.heap H locs [oX8 g o (fun _ => 0) (va_up (va_up (va_up (va_up (va_up (va_up (va_up (va_up (va_up (va_up (fun _ => none) 2 (some q1)) 3 (some q2)) 4 (some q3)) 5 (some q4)) 7 (some q5)) 8 (some q6)) 9 (some q7)) 11 (some q8)) 12 (some q9)) 13 (some q10)), aI g q1 6 (fun _ => 0), aI g q2 6 (fun _ => 0), aI g q3 6 (fun _ => 0), aI g q4 6 (fun _ => 0), aI g q5 24 (fun _ => 0), aI g q6 24 (fun _ => 0), aI g q7 24 (fun _ => 0), aI g q8 8 (fun _ => 0), aI g q9 8 (fun _ => 0), aI g q10 8 (fun _ => 0), aI g q11 120 (lf L_X8_0 55)] := hG
  refine lv_dup hx hb dX8_init_358 rfl ?_
  refine lv_bipush (v := 55) hx hb dX8_init_359 (by decide) ?_
  refine lv_iconst (v := 5) hx hb dX8_init_361 (by decide) ?_
  refine r_ilf X hG 11 rfl (by decide) (by decide) (by decide) (by decide +kernel) dX8_init_362 (fun H locs hG => ?_)
  have hG : GM g A s.heap H locs [oX8 g o (fun _ => 0) (va_up (va_up (va_up (va_up (va_up (va_up (va_up (va_up (va_up (va_up (fun _ => none) 2 (some q1)) 3 (some q2)) 4 (some q3)) 5 (some q4)) 7 (some q5)) 8 (some q6)) 9 (some q7)) 11 (some q8)) 12 (some q9)) 13 (some q10)), aI g q1 6 (fun _ => 0), aI g q2 6 (fun _ => 0), aI g q3 6 (fun _ => 0), aI g q4 6 (fun _ => 0), aI g q5 24 (fun _ => 0), aI g q6 24 (fun _ => 0), aI g q7 24 (fun _ => 0), aI g q8 8 (fun _ => 0), aI g q9 8 (fun _ => 0), aI g q10 8 (fun _ => 0), aI g q11 120 (lf L_X8_0 56)] := hG
  refine lv_dup hx hb dX8_init_363 rfl ?_
  refine lv_bipush (v := 56) hx hb dX8_init_364 (by decide) ?_
  refine lv_iconst (v := 5) hx hb dX8_init_366 (by decide) ?_
  refine r_ilf X hG 11 rfl (by decide) (by decide) (by decide) (by decide +kernel) dX8_init_367 (fun H locs hG => ?_)
  have hG : GM g A s.heap H locs [oX8 g o (fun _ => 0) (va_up (va_up (va_up (va_up (va_up (va_up (va_up (va_up (va_up (va_up (fun _ => none) 2 (some q1)) 3 (some q2)) 4 (some q3)) 5 (some q4)) 7 (some q5)) 8 (some q6)) 9 (some q7)) 11 (some q8)) 12 (some q9)) 13 (some q10)), aI g q1 6 (fun _ => 0), aI g q2 6 (fun _ => 0), aI g q3 6 (fun _ => 0), aI g q4 6 (fun _ => 0), aI g q5 24 (fun _ => 0), aI g q6 24 (fun _ => 0), aI g q7 24 (fun _ => 0), aI g q8 8 (fun _ => 0), aI g q9 8 (fun _ => 0), aI g q10 8 (fun _ => 0), aI g q11 120 (lf L_X8_0 57)] := hG
  refine lv_dup hx hb dX8_init_368 rfl ?_
  refine lv_bipush (v := 57) hx hb dX8_init_369 (by decide) ?_
  refine lv_iconst (v := 5) hx hb dX8_init_371 (by decide) ?_
  refine r_ilf X hG 11 rfl (by decide) (by decide) (by decide) (by decide +kernel) dX8_init_372 (fun H locs hG => ?_)
  have hG : GM g A s.heap H locs [oX8 g o (fun _ => 0) (va_up (va_up (va_up (va_up (va_up (va_up (va_up (va_up (va_up (va_up (fun _ => none) 2 (some q1)) 3 (some q2)) 4 (some q3)) 5 (some q4)) 7 (some q5)) 8 (some q6)) 9 (some q7)) 11 (some q8)) 12 (some q9)) 13 (some q10)), aI g q1 6 (fun _ => 0), aI g q2 6 (fun _ => 0), aI g q3 6 (fun _ => 0), aI g q4 6 (fun _ => 0), aI g q5 24 (fun _ => 0), aI g q6 24 (fun _ => 0), aI g q7 24 (fun _ => 0), aI g q8 8 (fun _ => 0), aI g q9 8 (fun _ => 0), aI g q10 8 (fun _ => 0), aI g q11 120 (lf L_X8_0 58)] := hG
  refine lv_dup hx hb dX8_init_373 rfl ?_
  refine lv_bipush (v := 58) hx hb dX8_init_374 (by decide) ?_
  refine lv_iconst (v := 5) hx hb dX8_init_376 (by decide) ?_
  refine r_ilf X hG 11 rfl (by decide) (by decide) (by decide) (by decide +kernel) dX8_init_377 (fun H locs hG => ?_)
  have hG : GM g A s.heap H locs [oX8 g o (fun _ => 0) (va_up (va_up (va_up (va_up (va_up (va_up (va_up (va_up (va_up (va_up (fun _ => none) 2 (some q1)) 3 (some q2)) 4 (some q3)) 5 (some q4)) 7 (some q5)) 8 (some q6)) 9 (some q7)) 11 (some q8)) 12 (some q9)) 13 (some q10)), aI g q1 6 (fun _ => 0), aI g q2 6 (fun _ => 0), aI g q3 6 (fun _ => 0), aI g q4 6 (fun _ => 0), aI g q5 24 (fun _ => 0), aI g q6 24 (fun _ => 0), aI g q7 24 (fun _ => 0), aI g q8 8 (fun _ => 0), aI g q9 8 (fun _ => 0), aI g q10 8 (fun _ => 0), aI g q11 120 (lf L_X8_0 59)] := hG
  refine lv_dup hx hb dX8_init_378 rfl ?_
  refine lv_bipush (v := 59) hx hb dX8_init_379 (by decide) ?_
  refine lv_iconst (v := 5) hx hb dX8_init_381 (by decide) ?_
  refine r_ilf X hG 11 rfl (by decide) (by decide) (by decide) (by decide +kernel) dX8_init_382 (fun H locs hG => ?_)
  have hG : GM g A s.heap H locs [oX8 g o (fun _ => 0) (va_up (va_up (va_up (va_up (va_up (va_up (va_up (va_up (va_up (va_up (fun _ => none) 2 (some q1)) 3 (some q2)) 4 (some q3)) 5 (some q4)) 7 (some q5)) 8 (some q6)) 9 (some q7)) 11 (some q8)) 12 (some q9)) 13 (some q10)), aI g q1 6 (fun _ => 0), aI g q2 6 (fun _ => 0), aI g q3 6 (fun _ => 0), aI g q4 6 (fun _ => 0), aI g q5 24 (fun _ => 0), aI g q6 24 (fun _ => 0), aI g q7 24 (fun _ => 0), aI g q8 8 (fun _ => 0), aI g q9 8 (fun _ => 0), aI g q10 8 (fun _ => 0), aI g q11 120 (lf L_X8_0 60)] := hG
  refine lv_dup hx hb dX8_init_383 rfl ?_
  refine lv_bipush (v := 60) hx hb dX8_init_384 (by decide) ?_
  refine lv_iconst (v := 5) hx hb dX8_init_386 (by decide) ?_
  refine r_ilf X hG 11 rfl (by decide) (by decide) (by decide) (by decide +kernel) dX8_init_387 (fun H locs hG => ?_)
  have hG : GM g A s.heap H locs [oX8 g o (fun _ => 0) (va_up (va_up (va_up (va_up (va_up (va_up (va_up (va_up (va_up (va_up (fun _ => none) 2 (some q1)) 3 (some q2)) 4 (some q3)) 5 (some q4)) 7 (some q5)) 8 (some q6)) 9 (some q7)) 11 (some q8)) 12 (some q9)) 13 (some q10)), aI g q1 6 (fun _ => 0), aI g q2 6 (fun _ => 0), aI g q3 6 (fun _ => 0), aI g q4 6 (fun _ => 0), aI g q5 24 (fun _ => 0), aI g q6 24 (fun _ => 0), aI g q7 24 (fun _ => 0), aI g q8 8 (fun _ => 0), aI g q9 8 (fun _ => 0), aI g q10 8 (fun _ => 0), aI g q11 120 (lf L_X8_0 61)] := hG
  refine lv_dup hx hb dX8_init_388 rfl ?_
  refine lv_bipush (v := 61) hx hb dX8_init_389 (by decide) ?_
  refine lv_iconst (v := 5) hx hb dX8_init_391 (by decide) ?_
  refine r_ilf X hG 11 rfl (by decide) (by decide) (by decide) (by decide +kernel) dX8_init_392 (fun H locs hG => ?_)
  have hG : GM g A s.heap H locs [oX8 g o (fun _ => 0) (va_up (va_up (va_up (va_up (va_up (va_up (va_up (va_up (va_up (va_up (fun _ => none) 2 (some q1)) 3 (some q2)) 4 (some q3)) 5 (some q4)) 7 (some q5)) 8 (some q6)) 9 (some q7)) 11 (some q8)) 12 (some q9)) 13 (some q10)), aI g q1 6 (fun _ => 0), aI g q2 6 (fun _ => 0), aI g q3 6 (fun _ => 0), aI g q4 6 (fun _ => 0), aI g q5 24 (fun _ => 0), aI g q6 24 (fun _ => 0), aI g q7 24 (fun _ => 0), aI g q8 8 (fun _ => 0), aI g q9 8 (fun _ => 0), aI g q10 8 (fun _ => 0), aI g q11 120 (lf L_X8_0 62)] := hG
  refine lv_dup hx hb dX8_init_393 rfl ?_
  refine lv_bipush (v := 62) hx hb dX8_init_394 (by decide) ?_
  refine lv_iconst (v := 5) hx hb dX8_init_396 (by decide) ?_
  refine r_ilf X hG 11 rfl (by decide) (by decide) (by decide) (by decide +kernel) dX8_init_397 (fun H locs hG => ?_)
  have hG : GM g A s.heap H locs [oX8 g o (fun _ => 0) (va_up (va_up (va_up (va_up (va_up (va_up (va_up (va_up (va_up (va_up (fun _ => none) 2 (some q1)) 3 (some q2)) 4 (some q3)) 5 (some q4)) 7 (some q5)) 8 (some q6)) 9 (some q7)) 11 (some q8)) 12 (some q9)) 13 (some q10)), aI g q1 6 (fun _ => 0), aI g q2 6 (fun _ => 0), aI g q3 6 (fun _ => 0), aI g q4 6 (fun _ => 0), aI g q5 24 (fun _ => 0), aI g q6 24 (fun _ => 0), aI g q7 24 (fun _ => 0), aI g q8 8 (fun _ => 0), aI g q9 8 (fun _ => 0), aI g q10 8 (fun _ => 0), aI g q11 120 (lf L_X8_0 63)] := hG
  refine lv_dup hx hb dX8_init_398 rfl ?_
  refine lv_bipush (v := 63) hx hb dX8_init_399 (by decide) ?_
  refine lv_iconst (v := 5) hx hb dX8_init_401 (by decide) ?_
  refine r_ilf X hG 11 rfl (by decide) (by decide) (by decide) (by decide +kernel) dX8_init_402 (fun H locs hG => ?_)
  have hG : GM g A s.heap H locs [oX8 g o (fun _ => 0) (va_up (va_up (va_up (va_up (va_up (va_up (va_up (va_up (va_up (va_up (fun _ => none) 2 (some q1)) 3 (some q2)) 4 (some q3)) 5 (some q4)) 7 (some q5)) 8 (some q6)) 9 (some q7)) 11 (some q8)) 12 (some q9)) 13 (some q10)), aI g q1 6 (fun _ => 0), aI g q2 6 (fun _ => 0), aI g q3 6 (fun _ => 0), aI g q4 6 (fun _ => 0), aI g q5 24 (fun _ => 0), aI g q6 24 (fun _ => 0), aI g q7 24 (fun _ => 0), aI g q8 8 (fun _ => 0), aI g q9 8 (fun _ => 0), aI g q10 8 (fun _ => 0), aI g q11 120 (lf L_X8_0 64)] := hG
  refine lv_dup hx hb dX8_init_403 rfl ?_
  refine lv_bipush (v := 64) hx hb dX8_init_404 (by decide) ?_
  refine lv_iconst (v := 5) hx hb dX8_init_406 (by decide) ?_
  refine r_ilf X hG 11 rfl (by decide) (by decide) (by decide) (by decide +kernel) dX8_init_407 (fun H locs hG => ?_)
  have hG : GM g A s.heap H locs [oX8 g o (fun _ => 0) (va_up (va_up (va_up (va_up (va_up (va_up (va_up (va_up (va_up (va_up (fun _ => none) 2 (some q1)) 3 (some q2)) 4 (some q3)) 5 (some q4)) 7 (some q5)) 8 (some q6)) 9 (some q7)) 11 (some q8)) 12 (some q9)) 13 (some q10)), aI g q1 6 (fun _ => 0), aI g q2 6 (fun _ => 0), aI g q3 6 (fun _ => 0), aI g q4 6 (fun _ => 0), aI g q5 24 (fun _ => 0), aI g q6 24 (fun _ => 0), aI g q7 24 (fun _ => 0), aI g q8 8 (fun _ => 0), aI g q9 8 (fun _ => 0), aI g q10 8 (fun _ => 0), aI g q11 120 (lf L_X8_0 65)] := hG
  refine lv_dup hx hb dX8_init_408 rfl ?_
  refine lv_bipush (v := 65) hx hb dX8_init_409 (by decide) ?_
  refine lv_iconst (v := 5) hx hb dX8_init_411 (by decide) ?_
  refine r_ilf X hG 11 rfl (by decide) (by decide) (by decide) (by decide +kernel) dX8_init_412 (fun H locs hG => ?_)
  have hG : GM g A s.heap H locs [oX8 g o (fun _ => 0) (va_up (va_up (va_up (va_up (va_up (va_up (va_up (va_up (va_up (va_up (fun _ => none) 2 (some q1)) 3 (some q2)) 4 (some q3)) 5 (some q4)) 7 (some q5)) 8 (some q6)) 9 (some q7)) 11 (some q8)) 12 (some q9)) 13 (some q10)), aI g q1 6 (fun _ => 0), aI g q2 6 (fun _ => 0), aI g q3 6 (fun _ => 0), aI g q4 6 (fun _ => 0), aI g q5 24 (fun _ => 0), aI g q6 24 (fun _ => 0), aI g q7 24 (fun _ => 0), aI g q8 8 (fun _ => 0), aI g q9 8 (fun _ => 0), aI g q10 8 (fun _ => 0), aI g q11 120 (lf L_X8_0 66)] := hG
  refine lv_dup hx hb dX8_init_413 rfl ?_
  refine lv_bipush (v := 66) hx hb dX8_init_414 (by decide) ?_
  refine lv_iconst (v := 5) hx hb dX8_init_416 (by decide) ?_
  refine r_ilf X hG 11 rfl (by decide) (by decide) (by decide) (by decide +kernel) dX8_init_417 (fun H locs hG => ?_)
  have hG : GM g A s.heap H locs [oX8 g o (fun _ => 0) (va_up (va_up (va_up (va_up (va_up (va_up (va_up (va_up (va_up (va_up (fun _ => none) 2 (some q1)) 3 (some q2)) 4 (some q3)) 5 (some q4)) 7 (some q5)) 8 (some q6)) 9 (some q7)) 11 (some q8)) 12 (some q9)) 13 (some q10)), aI g q1 6 (fun _ => 0), aI g q2 6 (fun _ => 0), aI g q3 6 (fun _ => 0), aI g q4 6 (fun _ => 0), aI g q5 24 (fun _ => 0), aI g q6 24 (fun _ => 0), aI g q7 24 (fun _ => 0), aI g q8 8 (fun _ => 0), aI g q9 8 (fun _ => 0), aI g q10 8 (fun _ => 0), aI g q11 120 (lf L_X8_0 67)] := hG
  refine lv_dup hx hb dX8_init_418 rfl ?_
  refine lv_bipush (v := 67) hx hb dX8_init_419 (by decide) ?_
  refine lv_iconst (v := 5) hx hb dX8_init_421 (by decide) ?_
  refine r_ilf X hG 11 rfl (by decide) (by decide) (by decide) (by decide +kernel) dX8_init_422 (fun H locs hG => ?_)
  have hG : GM g A s.heap H locs [oX8 g o (fun _ => 0) (va_up (va_up (va_up (va_up (va_up (va_up (va_up (va_up (va_up (va_up (fun _ => none) 2 (some q1)) 3 (some q2)) 4 (some q3)) 5 (some q4)) 7 (some q5)) 8 (some q6)) 9 (some q7)) 11 (some q8)) 12 (some q9)) 13 (some q10)), aI g q1 6 (fun _ => 0), aI g q2 6 (fun _ => 0), aI g q3 6 (fun _ => 0), aI g q4 6 (fun _ => 0), aI g q5 24 (fun _ => 0), aI g q6 24 (fun _ => 0), aI g q7 24 (fun _ => 0), aI g q8 8 (fun _ => 0), aI g q9 8 (fun _ => 0), aI g q10 8 (fun _ => 0), aI g q11 120 (lf L_X8_0 68)] := hG
  refine lv_dup hx hb dX8_init_423 rfl ?_
  refine lv_bipush (v := 68) hx hb dX8_init_424 (by decide) ?_
  refine lv_iconst (v := 5) hx hb dX8_init_426 (by decide) ?_
  refine r_ilf X hG 11 rfl (by decide) (by decide) (by decide) (by decide +kernel) dX8_init_427 (fun H locs hG => ?_)
  have hG : GM g A s.heap H locs [oX8 g o (fun _ => 0) (va_up (va_up (va_up (va_up (va_up (va_up (va_up (va_up (va_up (va_up (fun _ => none) 2 (some q1)) 3 (some q2)) 4 (some q3)) 5 (some q4)) 7 (some q5)) 8 (some q6)) 9 (some q7)) 11 (some q8)) 12 (some q9)) 13 (some q10)), aI g q1 6 (fun _ => 0), aI g q2 6 (fun _ => 0), aI g q3 6 (fun _ => 0), aI g q4 6 (fun _ => 0), aI g q5 24 (fun _ => 0), aI g q6 24 (fun _ => 0), aI g q7 24 (fun _ => 0), aI g q8 8 (fun _ => 0), aI g q9 8 (fun _ => 0), aI g q10 8 (fun _ => 0), aI g q11 120 (lf L_X8_0 69)] := hG
  refine lv_dup hx hb dX8_init_428 rfl ?_
  refine lv_bipush (v := 69) hx hb dX8_init_429 (by decide) ?_
  refine lv_iconst (v := 5) hx hb dX8_init_431 (by decide) ?_
  refine r_ilf X hG 11 rfl (by decide) (by decide) (by decide) (by decide +kernel) dX8_init_432 (fun H locs hG => ?_)
  have hG : GM g A s.heap H locs [oX8 g o (fun _ => 0) (va_up (va_up (va_up (va_up (va_up (va_up (va_up (va_up (va_up (va_up (fun _ => none) 2 (some q1)) 3 (some q2)) 4 (some q3)) 5 (some q4)) 7 (some q5)) 8 (some q6)) 9 (some q7)) 11 (some q8)) 12 (some q9)) 13 (some q10)), aI g q1 6 (fun _ => 0), aI g q2 6 (fun _ => 0), aI g q3 6 (fun _ => 0), aI g q4 6 (fun _ => 0), aI g q5 24 (fun _ => 0), aI g q6 24 (fun _ => 0), aI g q7 24 (fun _ => 0), aI g q8 8 (fun _ => 0), aI g q9 8 (fun _ => 0), aI g q10 8 (fun _ => 0), aI g q11 120 (lf L_X8_0 70)] := hG
  refine lv_dup hx hb dX8_init_433 rfl ?_
  refine lv_bipush (v := 70) hx hb dX8_init_434 (by decide) ?_
  refine lv_iconst (v := 5) hx hb dX8_init_436 (by decide) ?_
  refine r_ilf X hG 11 rfl (by decide) (by decide) (by decide) (by decide +kernel) dX8_init_437 (fun H locs hG => ?_)
  have hG : GM g A s.heap H locs [oX8 g o (fun _ => 0) (va_up (va_up (va_up (va_up (va_up (va_up (va_up (va_up (va_up (va_up (fun _ => none) 2 (some q1)) 3 (some q2)) 4 (some q3)) 5 (some q4)) 7 (some q5)) 8 (some q6)) 9 (some q7)) 11 (some q8)) 12 (some q9)) 13 (some q10)), aI g q1 6 (fun _ => 0), aI g q2 6 (fun _ => 0), aI g q3 6 (fun _ => 0), aI g q4 6 (fun _ => 0), aI g q5 24 (fun _ => 0), aI g q6 24 (fun _ => 0), aI g q7 24 (fun _ => 0), aI g q8 8 (fun _ => 0), aI g q9 8 (fun _ => 0), aI g q10 8 (fun _ => 0), aI g q11 120 (lf L_X8_0 71)] := hG
  refine lv_dup hx hb dX8_init_438 rfl ?_
  refine lv_bipush (v := 71) hx hb dX8_init_439 (by decide) ?_
  refine lv_iconst (v := 5) hx hb dX8_init_441 (by decide) ?_
  refine r_ilf X hG 11 rfl (by decide) (by decide) (by decide) (by decide +kernel) dX8_init_442 (fun H locs hG => ?_)
  have hG : GM g A s.heap H locs [oX8 g o (fun _ => 0) (va_up (va_up (va_up (va_up (va_up (va_up (va_up (va_up (va_up (va_up (fun _ => none) 2 (some q1)) 3 (some q2)) 4 (some q3)) 5 (some q4)) 7 (some q5)) 8 (some q6)) 9 (some q7)) 11 (some q8)) 12 (some q9)) 13 (some q10)), aI g q1 6 (fun _ => 0), aI g q2 6 (fun _ => 0), aI g q3 6 (fun _ => 0), aI g q4 6 (fun _ => 0), aI g q5 24 (fun _ => 0), aI g q6 24 (fun _ => 0), aI g q7 24 (fun _ => 0), aI g q8 8 (fun _ => 0), aI g q9 8 (fun _ => 0), aI g q10 8 (fun _ => 0), aI g q11 120 (lf L_X8_0 72)] := hG
  refine lv_dup hx hb dX8_init_443 rfl ?_
  refine lv_bipush (v := 72) hx hb dX8_init_444 (by decide) ?_
  refine lv_iconst (v := 5) hx hb dX8_init_446 (by decide) ?_
  refine r_ilf X hG 11 rfl (by decide) (by decide) (by decide) (by decide +kernel) dX8_init_447 (fun H locs hG => ?_)
  have hG : GM g A s.heap H locs [oX8 g o (fun _ => 0) (va_up (va_up (va_up (va_up (va_up (va_up (va_up (va_up (va_up (va_up (fun _ => none) 2 (some q1)) 3 (some q2)) 4 (some q3)) 5 (some q4)) 7 (some q5)) 8 (some q6)) 9 (some q7)) 11 (some q8)) 12 (some q9)) 13 (some q10)), aI g q1 6 (fun _ => 0), aI g q2 6 (fun _ => 0), aI g q3 6 (fun _ => 0), aI g q4 6 (fun _ => 0), aI g q5 24 (fun _ => 0), aI g q6 24 (fun _ => 0), aI g q7 24 (fun _ => 0), aI g q8 8 (fun _ => 0), aI g q9 8 (fun _ => 0), aI g q10 8 (fun _ => 0), aI g q11 120 (lf L_X8_0 73)] := hG
  refine lv_dup hx hb dX8_init_448 rfl ?_
  refine lv_bipush (v := 73) hx hb dX8_init_449 (by decide) ?_
  refine lv_iconst (v := 5) hx hb dX8_init_451 (by decide) ?_
  refine r_ilf X hG 11 rfl (by decide) (by decide) (by decide) (by decide +kernel) dX8_init_452 (fun H locs hG => ?_)
  have hG : GM g A s.heap H locs [oX8 g o (fun _ => 0) (va_up (va_up (va_up (va_up (va_up (va_up (va_up (va_up (va_up (va_up (fun _ => none) 2 (some q1)) 3 (some q2)) 4 (some q3)) 5 (some q4)) 7 (some q5)) 8 (some q6)) 9 (some q7)) 11 (some q8)) 12 (some q9)) 13 (some q10)), aI g q1 6 (fun _ => 0), aI g q2 6 (fun _ => 0), aI g q3 6 (fun _ => 0), aI g q4 6 (fun _ => 0), aI g q5 24 (fun _ => 0), aI g q6 24 (fun _ => 0), aI g q7 24 (fun _ => 0), aI g q8 8 (fun _ => 0), aI g q9 8 (fun _ => 0), aI g q10 8 (fun _ => 0), aI g q11 120 (lf L_X8_0 74)] := hG
  refine lv_dup hx hb dX8_init_453 rfl ?_
  refine lv_bipush (v := 74) hx hb dX8_init_454 (by decide) ?_
  refine lv_iconst (v := 5) hx hb dX8_init_456 (by decide) ?_
  refine r_ilf X hG 11 rfl (by decide) (by decide) (by decide) (by decide +kernel) dX8_init_457 (fun H locs hG => ?_)
  have hG : GM g A s.heap H locs [oX8 g o (fun _ => 0) (va_up (va_up (va_up (va_up (va_up (va_up (va_up (va_up (va_up (va_up (fun _ => none) 2 (some q1)) 3 (some q2)) 4 (some q3)) 5 (some q4)) 7 (some q5)) 8 (some q6)) 9 (some q7)) 11 (some q8)) 12 (some q9)) 13 (some q10)), aI g q1 6 (fun _ => 0), aI g q2 6 (fun _ => 0), aI g q3 6 (fun _ => 0), aI g q4 6 (fun _ => 0), aI g q5 24 (fun _ => 0), aI g q6 24 (fun _ => 0), aI g q7 24 (fun _ => 0), aI g q8 8 (fun _ => 0), aI g q9 8 (fun _ => 0), aI g q10 8 (fun _ => 0), aI g q11 120 (lf L_X8_0 75)] := hG
  refine lv_dup hx hb dX8_init_458 rfl ?_
  refine lv_bipush (v := 75) hx hb dX8_init_459 (by decide) ?_
  refine lv_iconst (v := 5) hx hb dX8_init_461 (by decide) ?_
  refine r_ilf X hG 11 rfl (by decide) (by decide) (by decide) (by decide +kernel) dX8_init_462 (fun H locs hG => ?_)
  have hG : GM g A s.heap H locs [oX8 g o (fun _ => 0) (va_up (va_up (va_up (va_up (va_up (va_up (va_up (va_up (va_up (va_up (fun _ => none) 2 (some q1)) 3 (some q2)) 4 (some q3)) 5 (some q4)) 7 (some q5)) 8 (some q6)) 9 (some q7)) 11 (some q8)) 12 (some q9)) 13 (some q10)), aI g q1 6 (fun _ => 0), aI g q2 6 (fun _ => 0), aI g q3 6 (fun _ => 0), aI g q4 6 (fun _ => 0), aI g q5 24 (fun _ => 0), aI g q6 24 (fun _ => 0), aI g q7 24 (fun _ => 0), aI g q8 8 (fun _ => 0), aI g q9 8 (fun _ => 0), aI g q10 8 (fun _ => 0), aI g q11 120 (lf L_X8_0 76)] := hG
  refine lv_dup hx hb dX8_init_463 rfl ?_
  refine lv_bipush (v := 76) hx hb dX8_init_464 (by decide) ?_
  refine lv_iconst (v := 5) hx hb dX8_init_466 (by decide) ?_
  refine r_ilf X hG 11 rfl (by decide) (by decide) (by decide) (by decide +kernel) dX8_init_467 (fun H locs hG => ?_)
  have hG : GM g A s.heap H locs [oX8 g o (fun _ => 0) (va_up (va_up (va_up (va_up (va_up (va_up (va_up (va_up (va_up (va_up (fun _ => none) 2 (some q1)) 3 (some q2)) 4 (some q3)) 5 (some q4)) 7 (some q5)) 8 (some q6)) 9 (some q7)) 11 (some q8)) 12 (some q9)) 13 (some q10)), aI g q1 6 (fun _ => 0), aI g q2 6 (fun _ => 0), aI g q3 6 (fun _ => 0), aI g q4 6 (fun _ => 0), aI g q5 24 (fun _ => 0), aI g q6 24 (fun _ => 0), aI g q7 24 (fun _ => 0), aI g q8 8 (fun _ => 0), aI g q9 8 (fun _ => 0), aI g q10 8 (fun _ => 0), aI g q11 120 (lf L_X8_0 77)] := hG
  refine lv_dup hx hb dX8_init_468 rfl ?_
  refine lv_bipush (v := 77) hx hb dX8_init_469 (by decide) ?_
  refine lv_iconst (v := 5) hx hb dX8_init_471 (by decide) ?_
  refine r_ilf X hG 11 rfl (by decide) (by decide) (by decide) (by decide +kernel) dX8_init_472 (fun H locs hG => ?_)
  have hG : GM g A s.heap H locs [oX8 g o (fun _ => 0) (va_up (va_up (va_up (va_up (va_up (va_up (va_up (va_up (va_up (va_up (fun _ => none) 2 (some q1)) 3 (some q2)) 4 (some q3)) 5 (some q4)) 7 (some q5)) 8 (some q6)) 9 (some q7)) 11 (some q8)) 12 (some q9)) 13 (some q10)), aI g q1 6 (fun _ => 0), aI g q2 6 (fun _ => 0), aI g q3 6 (fun _ => 0), aI g q4 6 (fun _ => 0), aI g q5 24 (fun _ => 0), aI g q6 24 (fun _ => 0), aI g q7 24 (fun _ => 0), aI g q8 8 (fun _ => 0), aI g q9 8 (fun _ => 0), aI g q10 8 (fun _ => 0), aI g q11 120 (lf L_X8_0 78)] := hG
  refine lv_dup hx hb dX8_init_473 rfl ?_
  refine lv_bipush (v := 78) hx hb dX8_init_474 (by decide) ?_
  refine lv_iconst (v := 5) hx hb dX8_init_476 (by decide) ?_
  refine r_ilf X hG 11 rfl (by decide) (by decide) (by decide) (by decide +kernel) dX8_init_477 (fun H locs hG => ?_)
  have hG : GM g A s.heap H locs [oX8 g o (fun _ => 0) (va_up (va_up (va_up (va_up (va_up (va_up (va_up (va_up (va_up (va_up (fun _ => none) 2 (some q1)) 3 (some q2)) 4 (some q3)) 5 (some q4)) 7 (some q5)) 8 (some q6)) 9 (some q7)) 11 (some q8)) 12 (some q9)) 13 (some q10)), aI g q1 6 (fun _ => 0), aI g q2 6 (fun _ => 0), aI g q3 6 (fun _ => 0), aI g q4 6 (fun _ => 0), aI g q5 24 (fun _ => 0), aI g q6 24 (fun _ => 0), aI g q7 24 (fun _ => 0), aI g q8 8 (fun _ => 0), aI g q9 8 (fun _ => 0), aI g q10 8 (fun _ => 0), aI g q11 120 (lf L_X8_0 79)] := hG
  refine lv_dup hx hb dX8_init_478 rfl ?_
  refine lv_bipush (v := 79) hx hb dX8_init_479 (by decide) ?_
  refine lv_iconst (v := 5) hx hb dX8_init_481 (by decide) ?_
  refine r_ilf X hG 11 rfl (by decide) (by decide) (by decide) (by decide +kernel) dX8_init_482 (fun H locs hG => ?_)
  have hG : GM g A s.heap H locs [oX8 g o (fun _ => 0) (va_up (va_up (va_up (va_up (va_up (va_up (va_up (va_up (va_up (va_up (fun _ => none) 2 (some q1)) 3 (some q2)) 4 (some q3)) 5 (some q4)) 7 (some q5)) 8 (some q6)) 9 (some q7)) 11 (some q8)) 12 (some q9)) 13 (some q10)), aI g q1 6 (fun _ => 0), aI g q2 6 (fun _ => 0), aI g q3 6 (fun _ => 0), aI g q4 6 (fun _ => 0), aI g q5 24 (fun _ => 0), aI g q6 24 (fun _ => 0), aI g q7 24 (fun _ => 0), aI g q8 8 (fun _ => 0), aI g q9 8 (fun _ => 0), aI g q10 8 (fun _ => 0), aI g q11 120 (lf L_X8_0 80)] := hG
  refine lv_dup hx hb dX8_init_483 rfl ?_
  refine lv_bipush (v := 80) hx hb dX8_init_484 (by decide) ?_
  refine lv_iconst (v := 5) hx hb dX8_init_486 (by decide) ?_
  refine r_ilf X hG 11 rfl (by decide) (by decide) (by decide) (by decide +kernel) dX8_init_487 (fun H locs hG => ?_)
  have hG : GM g A s.heap H locs [oX8 g o (fun _ => 0) (va_up (va_up (va_up (va_up (va_up (va_up (va_up (va_up (va_up (va_up (fun _ => none) 2 (some q1)) 3 (some q2)) 4 (some q3)) 5 (some q4)) 7 (some q5)) 8 (some q6)) 9 (some q7)) 11 (some q8)) 12 (some q9)) 13 (some q10)), aI g q1 6 (fun _ => 0), aI g q2 6 (fun _ => 0), aI g q3 6 (fun _ => 0), aI g q4 6 (fun _ => 0), aI g q5 24 (fun _ => 0), aI g q6 24 (fun _ => 0), aI g q7 24 (fun _ => 0), aI g q8 8 (fun _ => 0), aI g q9 8 (fun _ => 0), aI g q10 8 (fun _ => 0), aI g q11 120 (lf L_X8_0 81)] := hG
  refine lv_dup hx hb dX8_init_488 rfl ?_
  refine lv_bipush (v := 81) hx hb dX8_init_489 (by decide) ?_
  refine lv_iconst (v := 5) hx hb dX8_init_491 (by decide) ?_
  refine r_ilf X hG 11 rfl (by decide) (by decide) (by decide) (by decide +kernel) dX8_init_492 (fun H locs hG => ?_)
  have hG : GM g A s.heap H locs [oX8 g o (fun _ => 0) (va_up (va_up (va_up (va_up (va_up (va_up (va_up (va_up (va_up (va_up (fun _ => none) 2 (some q1)) 3 (some q2)) 4 (some q3)) 5 (some q4)) 7 (some q5)) 8 (some q6)) 9 (some q7)) 11 (some q8)) 12 (some q9)) 13 (some q10)), aI g q1 6 (fun _ => 0), aI g q2 6 (fun _ => 0), aI g q3 6 (fun _ => 0), aI g q4 6 (fun _ => 0), aI g q5 24 (fun _ => 0), aI g q6 24 (fun _ => 0), aI g q7 24 (fun _ => 0), aI g q8 8 (fun _ => 0), aI g q9 8 (fun _ => 0), aI g q10 8 (fun _ => 0), aI g q11 120 (lf L_X8_0 82)] := hG
  refine lv_dup hx hb dX8_init_493 rfl ?_
  refine lv_bipush (v := 82) hx hb dX8_init_494 (by decide) ?_
  refine lv_iconst (v := 5) hx hb dX8_init_496 (by decide) ?_
  refine r_ilf X hG 11 rfl (by decide) (by decide) (by decide) (by decide +kernel) dX8_init_497 (fun H locs hG => ?_)
  have hG : GM g A s.heap H locs [oX8 g o (fun _ => 0) (va_up (va_up (va_up (va_up (va_up (va_up (va_up (va_up (va_up (va_up (fun _ => none) 2 (some q1)) 3 (some q2)) 4 (some q3)) 5 (some q4)) 7 (some q5)) 8 (some q6)) 9 (some q7)) 11 (some q8)) 12 (some q9)) 13 (some q10)), aI g q1 6 (fun _ => 0), aI g q2 6 (fun _ => 0), aI g q3 6 (fun _ => 0), aI g q4 6 (fun _ => 0), aI g q5 24 (fun _ => 0), aI g q6 24 (fun _ => 0), aI g q7 24 (fun _ => 0), aI g q8 8 (fun _ => 0), aI g q9 8 (fun _ => 0), aI g q10 8 (fun _ => 0), aI g q11 120 (lf L_X8_0 83)] := hG
  refine lv_dup hx hb dX8_init_498 rfl ?_
  refine lv_bipush (v := 83) hx hb dX8_init_499 (by decide) ?_
  refine lv_iconst (v := 5) hx hb dX8_init_501 (by decide) ?_
  refine r_ilf X hG 11 rfl (by decide) (by decide) (by decide) (by decide +kernel) dX8_init_502 (fun H locs hG => ?_)
  have hG : GM g A s.heap H locs [oX8 g o (fun _ => 0) (va_up (va_up (va_up (va_up (va_up (va_up (va_up (va_up (va_up (va_up (fun _ => none) 2 (some q1)) 3 (some q2)) 4 (some q3)) 5 (some q4)) 7 (some q5)) 8 (some q6)) 9 (some q7)) 11 (some q8)) 12 (some q9)) 13 (some q10)), aI g q1 6 (fun _ => 0), aI g q2 6 (fun _ => 0), aI g q3 6 (fun _ => 0), aI g q4 6 (fun _ => 0), aI g q5 24 (fun _ => 0), aI g q6 24 (fun _ => 0), aI g q7 24 (fun _ => 0), aI g q8 8 (fun _ => 0), aI g q9 8 (fun _ => 0), aI g q10 8 (fun _ => 0), aI g q11 120 (lf L_X8_0 84)] := hG
  refine lv_dup hx hb dX8_init_503 rfl ?_
  refine lv_bipush (v := 84) hx hb dX8_init_504 (by decide) ?_
  refine lv_iconst (v := 5) hx hb dX8_init_506 (by decide) ?_
  refine r_ilf X hG 11 rfl (by decide) (by decide) (by decide) (by decide +kernel) dX8_init_507 (fun H locs hG => ?_)
  have hG : GM g A s.heap H locs [oX8 g o (fun _ => 0) (va_up (va_up (va_up (va_up (va_up (va_up (va_up (va_up (va_up (va_up (fun _ => none) 2 (some q1)) 3 (some q2)) 4 (some q3)) 5 (some q4)) 7 (some q5)) 8 (some q6)) 9 (some q7)) 11 (some q8)) 12 (some q9)) 13 (some q10)), aI g q1 6 (fun _ => 0), aI g q2 6 (fun _ => 0), aI g q3 6 (fun _ => 0), aI g q4 6 (fun _ => 0), aI g q5 24 (fun _ => 0), aI g q6 24 (fun _ => 0), aI g q7 24 (fun _ => 0), aI g q8 8 (fun _ => 0), aI g q9 8 (fun _ => 0), aI g q10 8 (fun _ => 0), aI g q11 120 (lf L_X8_0 85)] := hG
  refine lv_dup hx hb dX8_init_508 rfl ?_
  refine lv_bipush (v := 85) hx hb dX8_init_509 (by decide) ?_
  refine lv_iconst (v := 5) hx hb dX8_init_511 (by decide) ?_
  refine r_ilf X hG 11 rfl (by decide) (by decide) (by decide) (by decide +kernel) dX8_init_512 (fun H locs hG => ?_)
  have hG : GM g A s.heap H locs [oX8 g o (fun _ => 0) (va_up (va_up (va_up (va_up (va_up (va_up (va_up (va_up (va_up (va_up (fun _ => none) 2 (some q1)) 3 (some q2)) 4 (some q3)) 5 (some q4)) 7 (some q5)) 8 (some q6)) 9 (some q7)) 11 (some q8)) 12 (some q9)) 13 (some q10)), aI g q1 6 (fun _ => 0), aI g q2 6 (fun _ => 0), aI g q3 6 (fun _ => 0), aI g q4 6 (fun _ => 0), aI g q5 24 (fun _ => 0), aI g q6 24 (fun _ => 0), aI g q7 24 (fun _ => 0), aI g q8 8 (fun _ => 0), aI g q9 8 (fun _ => 0), aI g q10 8 (fun _ => 0), aI g q11 120 (lf L_X8_0 86)] := hG
  refine lv_dup hx hb dX8_init_513 rfl ?_
  refine lv_bipush (v := 86) hx hb dX8_init_514 (by decide) ?_
  refine lv_iconst (v := 5) hx hb dX8_init_516 (by decide) ?_
  refine r_ilf X hG 11 rfl (by decide) (by decide) (by decide) (by decide +kernel) dX8_init_517 (fun H locs hG => ?_)
  have hG : GM g A s.heap H locs [oX8 g o (fun _ => 0) (va_up (va_up (va_up (va_up (va_up (va_up (va_up (va_up (va_up (va_up (fun _ => none) 2 (some q1)) 3 (some q2)) 4 (some q3)) 5 (some q4)) 7 (some q5)) 8 (some q6)) 9 (some q7)) 11 (some q8)) 12 (some q9)) 13 (some q10)), aI g q1 6 (fun _ => 0), aI g q2 6 (fun _ => 0), aI g q3 6 (fun _ => 0), aI g q4 6 (fun _ => 0), aI g q5 24 (fun _ => 0), aI g q6 24 (fun _ => 0), aI g q7 24 (fun _ => 0), aI g q8 8 (fun _ => 0), aI g q9 8 (fun _ => 0), aI g q10 8 (fun _ => 0), aI g q11 120 (lf L_X8_0 87)] := hG
  refine lv_dup hx hb dX8_init_518 rfl ?_
  refine lv_bipush (v := 87) hx hb dX8_init_519 (by decide) ?_
  refine lv_iconst (v := 5) hx hb dX8_init_521 (by decide) ?_
  refine r_ilf X hG 11 rfl (by decide) (by decide) (by decide) (by decide +kernel) dX8_init_522 (fun H locs hG => ?_)
  have hG : GM g A s.heap H locs [oX8 g o (fun _ => 0) (va_up (va_up (va_up (va_up (va_up (va_up (va_up (va_up (va_up (va_up (fun _ => none) 2 (some q1)) 3 (some q2)) 4 (some q3)) 5 (some q4)) 7 (some q5)) 8 (some q6)) 9 (some q7)) 11 (some q8)) 12 (some q9)) 13 (some q10)), aI g q1 6 (fun _ => 0), aI g q2 6 (fun _ => 0), aI g q3 6 (fun _ => 0), aI g q4 6 (fun _ => 0), aI g q5 24 (fun _ => 0), aI g q6 24 (fun _ => 0), aI g q7 24 (fun _ => 0), aI g q8 8 (fun _ => 0), aI g q9 8 (fun _ => 0), aI g q10 8 (fun _ => 0), aI g q11 120 (lf L_X8_0 88)] := hG
  refine lv_dup hx hb dX8_init_523 rfl ?_
  refine lv_bipush (v := 88) hx hb dX8_init_524 (by decide) ?_
  refine lv_iconst (v := 5) hx hb dX8_init_526 (by decide) ?_
  refine r_ilf X hG 11 rfl (by decide) (by decide) (by decide) (by decide +kernel) dX8_init_527 (fun H locs hG => ?_)
  have hG : GM g A s.heap H locs [oX8 g o (fun _ => 0) (va_up (va_up (va_up (va_up (va_up (va_up (va_up (va_up (va_up (va_up (fun _ => none) 2 (some q1)) 3 (some q2)) 4 (some q3)) 5 (some q4)) 7 (some q5)) 8 (some q6)) 9 (some q7)) 11 (some q8)) 12 (some q9)) 13 (some q10)), aI g q1 6 (fun _ => 0), aI g q2 6 (fun _ => 0), aI g q3 6 (fun _ => 0), aI g q4 6 (fun _ => 0), aI g q5 24 (fun _ => 0), aI g q6 24 (fun _ => 0), aI g q7 24 (fun _ => 0), aI g q8 8 (fun _ => 0), aI g q9 8 (fun _ => 0), aI g q10 8 (fun _ => 0), aI g q11 120 (lf L_X8_0 89)] := hG
  refine lv_dup hx hb dX8_init_528 rfl ?_
  refine lv_bipush (v := 89) hx hb dX8_init_529 (by decide) ?_
  refine lv_iconst (v := 5) hx hb dX8_init_531 (by decide) ?_
  refine r_ilf X hG 11 rfl (by decide) (by decide) (by decide) (by decide +kernel) dX8_init_532 (fun H locs hG => ?_)
  have hG : GM g A s.heap H locs [oX8 g o (fun _ => 0) (va_up (va_up (va_up (va_up (va_up (va_up (va_up (va_up (va_up (va_up (fun _ => none) 2 (some q1)) 3 (some q2)) 4 (some q3)) 5 (some q4)) 7 (some q5)) 8 (some q6)) 9 (some q7)) 11 (some q8)) 12 (some q9)) 13 (some q10)), aI g q1 6 (fun _ => 0), aI g q2 6 (fun _ => 0), aI g q3 6 (fun _ => 0), aI g q4 6 (fun _ => 0), aI g q5 24 (fun _ => 0), aI g q6 24 (fun _ => 0), aI g q7 24 (fun _ => 0), aI g q8 8 (fun _ => 0), aI g q9 8 (fun _ => 0), aI g q10 8 (fun _ => 0), aI g q11 120 (lf L_X8_0 90)] := hG
  refine lv_dup hx hb dX8_init_533 rfl ?_
  refine lv_bipush (v := 90) hx hb dX8_init_534 (by decide) ?_
  refine lv_iconst (v := 5) hx hb dX8_init_536 (by decide) ?_
  refine r_ilf X hG 11 rfl (by decide) (by decide) (by decide) (by decide +kernel) dX8_init_537 (fun H locs hG => ?_)
  have hG : GM g A s.heap H locs [oX8 g o (fun _ => 0) (va_up (va_up (va_up (va_up (va_up (va_up (va_up (va_up (va_up (va_up (fun _ => none) 2 (some q1)) 3 (some q2)) 4 (some q3)) 5 (some q4)) 7 (some q5)) 8 (some q6)) 9 (some q7)) 11 (some q8)) 12 (some q9)) 13 (some q10)), aI g q1 6 (fun _ => 0), aI g q2 6 (fun _ => 0), aI g q3 6 (fun _ => 0), aI g q4 6 (fun _ => 0), aI g q5 24 (fun _ => 0), aI g q6 24 (fun _ => 0), aI g q7 24 (fun _ => 0), aI g q8 8 (fun _ => 0), aI g q9 8 (fun _ => 0), aI g q10 8 (fun _ => 0), aI g q11 120 (lf L_X8_0 91)] := hG
  refine lv_dup hx hb dX8_init_538 rfl ?_
  refine lv_bipush (v := 91) hx hb dX8_init_539 (by decide) ?_
  refine lv_iconst (v := 5) hx hb dX8_init_541 (by decide) ?_
  refine r_ilf X hG 11 rfl (by decide) (by decide) (by decide) (by decide +kernel) dX8_init_542 (fun H locs hG => ?_)
  have hG : GM g A s.heap H locs [oX8 g o (fun _ => 0) (va_up (va_up (va_up (va_up (va_up (va_up (va_up (va_up (va_up (va_up (fun _ => none) 2 (some q1)) 3 (some q2)) 4 (some q3)) 5 (some q4)) 7 (some q5)) 8 (some q6)) 9 (some q7)) 11 (some q8)) 12 (some q9)) 13 (some q10)), aI g q1 6 (fun _ => 0), aI g q2 6 (fun _ => 0), aI g q3 6 (fun _ => 0), aI g q4 6 (fun _ => 0), aI g q5 24 (fun _ => 0), aI g q6 24 (fun _ => 0), aI g q7 24 (fun _ => 0), aI g q8 8 (fun _ => 0), aI g q9 8 (fun _ => 0), aI g q10 8 (fun _ => 0), aI g q11 120 (lf L_X8_0 92)] := hG
  refine lv_dup hx hb dX8_init_543 rfl ?_
  refine lv_bipush (v := 92) hx hb dX8_init_544 (by decide) ?_
  refine lv_iconst (v := 5) hx hb dX8_init_546 (by decide) ?_
  refine r_ilf X hG 11 rfl (by decide) (by decide) (by decide) (by decide +kernel) dX8_init_547 (fun H locs hG => ?_)
  have hG : GM g A s.heap H locs [oX8 g o (fun _ => 0) (va_up (va_up (va_up (va_up (va_up (va_up (va_up (va_up (va_up (va_up (fun _ => none) 2 (some q1)) 3 (some q2)) 4 (some q3)) 5 (some q4)) 7 (some q5)) 8 (some q6)) 9 (some q7)) 11 (some q8)) 12 (some q9)) 13 (some q10)), aI g q1 6 (fun _ => 0), aI g q2 6 (fun _ => 0), aI g q3 6 (fun _ => 0), aI g q4 6 (fun _ => 0), aI g q5 24 (fun _ => 0), aI g q6 24 (fun _ => 0), aI g q7 24 (fun _ => 0), aI g q8 8 (fun _ => 0), aI g q9 8 (fun _ => 0), aI g q10 8 (fun _ => 0), aI g q11 120 (lf L_X8_0 93)] := hG
  refine lv_dup hx hb dX8_init_548 rfl ?_
  refine lv_bipush (v := 93) hx hb dX8_init_549 (by decide) ?_
  refine lv_iconst (v := 5) hx hb dX8_init_551 (by decide) ?_
  refine r_ilf X hG 11 rfl (by decide) (by decide) (by decide) (by decide +kernel) dX8_init_552 (fun H locs hG => ?_)
  have hG : GM g A s.heap H locs [oX8 g o (fun _ => 0) (va_up (va_up (va_up (va_up (va_up (va_up (va_up (va_up (va_up (va_up (fun _ => none) 2 (some q1)) 3 (some q2)) 4 (some q3)) 5 (some q4)) 7 (some q5)) 8 (some q6)) 9 (some q7)) 11 (some q8)) 12 (some q9)) 13 (some q10)), aI g q1 6 (fun _ => 0), aI g q2 6 (fun _ => 0), aI g q3 6 (fun _ => 0), aI g q4 6 (fun _ => 0), aI g q5 24 (fun _ => 0), aI g q6 24 (fun _ => 0), aI g q7 24 (fun _ => 0), aI g q8 8 (fun _ => 0), aI g q9 8 (fun _ => 0), aI g q10 8 (fun _ => 0), aI g q11 120 (lf L_X8_0 94)] := hG
  refine lv_dup hx hb dX8_init_553 rfl ?_
  refine lv_bipush (v := 94) hx hb dX8_init_554 (by decide) ?_
  refine lv_iconst (v := 5) hx hb dX8_init_556 (by decide) ?_
  refine r_ilf X hG 11 rfl (by decide) (by decide) (by decide) (by decide +kernel) dX8_init_557 (fun H locs hG => ?_)
  have hG : GM g A s.heap H locs [oX8 g o (fun _ => 0) (va_up (va_up (va_up (va_up (va_up (va_up (va_up (va_up (va_up (va_up (fun _ => none) 2 (some q1)) 3 (some q2)) 4 (some q3)) 5 (some q4)) 7 (some q5)) 8 (some q6)) 9 (some q7)) 11 (some q8)) 12 (some q9)) 13 (some q10)), aI g q1 6 (fun _ => 0), aI g q2 6 (fun _ => 0), aI g q3 6 (fun _ => 0), aI g q4 6 (fun _ => 0), aI g q5 24 (fun _ => 0), aI g q6 24 (fun _ => 0), aI g q7 24 (fun _ => 0), aI g q8 8 (fun _ => 0), aI g q9 8 (fun _ => 0), aI g q10 8 (fun _ => 0), aI g q11 120 (lf L_X8_0 95)] := hG
  refine lv_dup hx hb dX8_init_558 rfl ?_
  refine lv_bipush (v := 95) hx hb dX8_init_559 (by decide) ?_
  refine lv_iconst (v := 5) hx hb dX8_init_561 (by decide) ?_
  refine r_ilf X hG 11 rfl (by decide) (by decide) (by decide) (by decide +kernel) dX8_init_562 (fun H locs hG => ?_)
  have hG : GM g A s.heap H locs [oX8 g o (fun _ => 0) (va_up (va_up (va_up (va_up (va_up (va_up (va_up (va_up (va_up (va_up (fun _ => none) 2 (some q1)) 3 (some q2)) 4 (some q3)) 5 (some q4)) 7 (some q5)) 8 (some q6)) 9 (some q7)) 11 (some q8)) 12 (some q9)) 13 (some q10)), aI g q1 6 (fun _ => 0), aI g q2 6 (fun _ => 0), aI g q3 6 (fun _ => 0), aI g q4 6 (fun _ => 0), aI g q5 24 (fun _ => 0), aI g q6 24 (fun _ => 0), aI g q7 24 (fun _ => 0), aI g q8 8 (fun _ => 0), aI g q9 8 (fun _ => 0), aI g q10 8 (fun _ => 0), aI g q11 120 (lf L_X8_0 96)] := hG
  refine lv_dup hx hb dX8_init_563 rfl ?_
  refine lv_bipush (v := 96) hx hb dX8_init_564 (by decide) ?_
  refine lv_iconst (v := 5) hx hb dX8_init_566 (by decide) ?_
  refine r_ilf X hG 11 rfl (by decide) (by decide) (by decide) (by decide +kernel) dX8_init_567 (fun H locs hG => ?_)
  have hG : GM g A s.heap H locs [oX8 g o (fun _ => 0) (va_up (va_up (va_up (va_up (va_up (va_up (va_up (va_up (va_up (va_up (fun _ => none) 2 (some q1)) 3 (some q2)) 4 (some q3)) 5 (some q4)) 7 (some q5)) 8 (some q6)) 9 (some q7)) 11 (some q8)) 12 (some q9)) 13 (some q10)), aI g q1 6 (fun _ => 0), aI g q2 6 (fun _ => 0), aI g q3 6 (fun _ => 0), aI g q4 6 (fun _ => 0), aI g q5 24 (fun _ => 0), aI g q6 24 (fun _ => 0), aI g q7 24 (fun _ => 0), aI g q8 8 (fun _ => 0), aI g q9 8 (fun _ => 0), aI g q10 8 (fun _ => 0), aI g q11 120 (lf L_X8_0 97)] := hG
  refine lv_dup hx hb dX8_init_568 rfl ?_
  refine lv_bipush (v := 97) hx hb dX8_init_569 (by decide) ?_
  refine lv_iconst (v := 5) hx hb dX8_init_571 (by decide) ?_
  refine r_ilf X hG 11 rfl (by decide) (by decide) (by decide) (by decide +kernel) dX8_init_572 (fun H locs hG => ?_)
  have hG : GM g A s.heap H locs [oX8 g o (fun _ => 0) (va_up (va_up (va_up (va_up (va_up (va_up (va_up (va_up (va_up (va_up (fun _ => none) 2 (some q1)) 3 (some q2)) 4 (some q3)) 5 (some q4)) 7 (some q5)) 8 (some q6)) 9 (some q7)) 11 (some q8)) 12 (some q9)) 13 (some q10)), aI g q1 6 (fun _ => 0), aI g q2 6 (fun _ => 0), aI g q3 6 (fun _ => 0), aI g q4 6 (fun _ => 0), aI g q5 24 (fun _ => 0), aI g q6 24 (fun _ => 0), aI g q7 24 (fun _ => 0), aI g q8 8 (fun _ => 0), aI g q9 8 (fun _ => 0), aI g q10 8 (fun _ => 0), aI g q11 120 (lf L_X8_0 98)] := hG
  refine lv_dup hx hb dX8_init_573 rfl ?_
  refine lv_bipush (v := 98) hx hb dX8_init_574 (by decide) ?_
  refine lv_iconst (v := 5) hx hb dX8_init_576 (by decide) ?_
  refine r_ilf X hG 11 rfl (by decide) (by decide) (by decide) (by decide +kernel) dX8_init_577 (fun H locs hG => ?_)
  have hG : GM g A s.heap H locs [oX8 g o (fun _ => 0) (va_up (va_up (va_up (va_up (va_up (va_up (va_up (va_up (va_up (va_up (fun _ => none) 2 (some q1)) 3 (some q2)) 4 (some q3)) 5 (some q4)) 7 (some q5)) 8 (some q6)) 9 (some q7)) 11 (some q8)) 12 (some q9)) 13 (some q10)), aI g q1 6 (fun _ => 0), aI g q2 6 (fun _ => 0), aI g q3 6 (fun _ => 0), aI g q4 6 (fun _ => 0), aI g q5 24 (fun _ => 0), aI g q6 24 (fun _ => 0), aI g q7 24 (fun _ => 0), aI g q8 8 (fun _ => 0), aI g q9 8 (fun _ => 0), aI g q10 8 (fun _ => 0), aI g q11 120 (lf L_X8_0 99)] := hG
  refine lv_dup hx hb dX8_init_578 rfl ?_
  refine lv_bipush (v := 99) hx hb dX8_init_579 (by decide) ?_
  refine lv_iconst (v := 5) hx hb dX8_init_581 (by decide) ?_
  refine r_ilf X hG 11 rfl (by decide) (by decide) (by decide) (by decide +kernel) dX8_init_582 (fun H locs hG => ?_)
  have hG : GM g A s.heap H locs [oX8 g o (fun _ => 0) (va_up (va_up (va_up (va_up (va_up (va_up (va_up (va_up (va_up (va_up (fun _ => none) 2 (some q1)) 3 (some q2)) 4 (some q3)) 5 (some q4)) 7 (some q5)) 8 (some q6)) 9 (some q7)) 11 (some q8)) 12 (some q9)) 13 (some q10)), aI g q1 6 (fun _ => 0), aI g q2 6 (fun _ => 0), aI g q3 6 (fun _ => 0), aI g q4 6 (fun _ => 0), aI g q5 24 (fun _ => 0), aI g q6 24 (fun _ => 0), aI g q7 24 (fun _ => 0), aI g q8 8 (fun _ => 0), aI g q9 8 (fun _ => 0), aI g q10 8 (fun _ => 0), aI g q11 120 (lf L_X8_0 100)] := hG
  refine lv_dup hx hb dX8_init_583 rfl ?_
  refine lv_bipush (v := 100) hx hb dX8_init_584 (by decide) ?_
  refine lv_iconst (v := 5) hx hb dX8_init_586 (by decide) ?_
  refine r_ilf X hG 11 rfl (by decide) (by decide) (by decide) (by decide +kernel) dX8_init_587 (fun H locs hG => ?_)
  have hG : GM g A s.heap H locs [oX8 g o (fun _ => 0) (va_up (va_up (va_up (va_up (va_up (va_up (va_up (va_up (va_up (va_up (fun _ => none) 2 (some q1)) 3 (some q2)) 4 (some q3)) 5 (some q4)) 7 (some q5)) 8 (some q6)) 9 (some q7)) 11 (some q8)) 12 (some q9)) 13 (some q10)), aI g q1 6 (fun _ => 0), aI g q2 6 (fun _ => 0), aI g q3 6 (fun _ => 0), aI g q4 6 (fun _ => 0), aI g q5 24 (fun _ => 0), aI g q6 24 (fun _ => 0), aI g q7 24 (fun _ => 0), aI g q8 8 (fun _ => 0), aI g q9 8 (fun _ => 0), aI g q10 8 (fun _ => 0), aI g q11 120 (lf L_X8_0 101)] := hG
  refine lv_dup hx hb dX8_init_588 rfl ?_
  refine lv_bipush (v := 101) hx hb dX8_init_589 (by decide) ?_
  refine lv_iconst (v := 5) hx hb dX8_init_591 (by decide) ?_
  refine r_ilf X hG 11 rfl (by decide) (by decide) (by decide) (by decide +kernel) dX8_init_592 (fun H locs hG => ?_)
  have hG : GM g A s.heap H locs [oX8 g o (fun _ => 0) (va_up (va_up (va_up (va_up (va_up (va_up (va_up (va_up (va_up (va_up (fun _ => none) 2 (some q1)) 3 (some q2)) 4 (some q3)) 5 (some q4)) 7 (some q5)) 8 (some q6)) 9 (some q7)) 11 (some q8)) 12 (some q9)) 13 (some q10)), aI g q1 6 (fun _ => 0), aI g q2 6 (fun _ => 0), aI g q3 6 (fun _ => 0), aI g q4 6 (fun _ => 0), aI g q5 24 (fun _ => 0), aI g q6 24 (fun _ => 0), aI g q7 24 (fun _ => 0), aI g q8 8 (fun _ => 0), aI g q9 8 (fun _ => 0), aI g q10 8 (fun _ => 0), aI g q11 120 (lf L_X8_0 102)] := hG
  refine lv_dup hx hb dX8_init_593 rfl ?_
  refine lv_bipush (v := 102) hx hb dX8_init_594 (by decide) ?_
  refine lv_iconst (v := 5) hx hb dX8_init_596 (by decide) ?_
  refine r_ilf X hG 11 rfl (by decide) (by decide) (by decide) (by decide +kernel) dX8_init_597 (fun H locs hG => ?_)
  have hG : GM g A s.heap H locs [oX8 g o (fun _ => 0) (va_up (va_up (va_up (va_up (va_up (va_up (va_up (va_up (va_up (va_up (fun _ => none) 2 (some q1)) 3 (some q2)) 4 (some q3)) 5 (some q4)) 7 (some q5)) 8 (some q6)) 9 (some q7)) 11 (some q8)) 12 (some q9)) 13 (some q10)), aI g q1 6 (fun _ => 0), aI g q2 6 (fun _ => 0), aI g q3 6 (fun _ => 0), aI g q4 6 (fun _ => 0), aI g q5 24 (fun _ => 0), aI g q6 24 (fun _ => 0), aI g q7 24 (fun _ => 0), aI g q8 8 (fun _ => 0), aI g q9 8 (fun _ => 0), aI g q10 8 (fun _ => 0), aI g q11 120 (lf L_X8_0 103)] := hG
  refine lv_dup hx hb dX8_init_598 rfl ?_
  refine lv_bipush (v := 103) hx hb dX8_init_599 (by decide) ?_
  refine lv_iconst (v := 5) hx hb dX8_init_601 (by decide) ?_
  refine r_ilf X hG 11 rfl (by decide) (by decide) (by decide) (by decide +kernel) dX8_init_602 (fun H locs hG => ?_)
  have hG : GM g A s.heap H locs [oX8 g o (fun _ => 0) (va_up (va_up (va_up (va_up (va_up (va_up (va_up (va_up (va_up (va_up (fun _ => none) 2 (some q1)) 3 (some q2)) 4 (some q3)) 5 (some q4)) 7 (some q5)) 8 (some q6)) 9 (some q7)) 11 (some q8)) 12 (some q9)) 13 (some q10)), aI g q1 6 (fun _ => 0), aI g q2 6 (fun _ => 0), aI g q3 6 (fun _ => 0), aI g q4 6 (fun _ => 0), aI g q5 24 (fun _ => 0), aI g q6 24 (fun _ => 0), aI g q7 24 (fun _ => 0), aI g q8 8 (fun _ => 0), aI g q9 8 (fun _ => 0), aI g q10 8 (fun _ => 0), aI g q11 120 (lf L_X8_0 104)] := hG
  refine lv_dup hx hb dX8_init_603 rfl ?_
  refine lv_bipush (v := 104) hx hb dX8_init_604 (by decide) ?_
  refine lv_iconst (v := 5) hx hb dX8_init_606 (by decide) ?_
  refine r_ilf X hG 11 rfl (by decide) (by decide) (by decide) (by decide +kernel) dX8_init_607 (fun H locs hG => ?_)
  have hG : GM g A s.heap H locs [oX8 g o (fun _ => 0) (va_up (va_up (va_up (va_up (va_up (va_up (va_up (va_up (va_up (va_up (fun _ => none) 2 (some q1)) 3 (some q2)) 4 (some q3)) 5 (some q4)) 7 (some q5)) 8 (some q6)) 9 (some q7)) 11 (some q8)) 12 (some q9)) 13 (some q10)), aI g q1 6 (fun _ => 0), aI g q2 6 (fun _ => 0), aI g q3 6 (fun _ => 0), aI g q4 6 (fun _ => 0), aI g q5 24 (fun _ => 0), aI g q6 24 (fun _ => 0), aI g q7 24 (fun _ => 0), aI g q8 8 (fun _ => 0), aI g q9 8 (fun _ => 0), aI g q10 8 (fun _ => 0), aI g q11 120 (lf L_X8_0 105)] := hG
  refine lv_dup hx hb dX8_init_608 rfl ?_
  refine lv_bipush (v := 105) hx hb dX8_init_609 (by decide) ?_
  refine lv_iconst (v := 5) hx hb dX8_init_611 (by decide) ?_
  refine r_ilf X hG 11 rfl (by decide) (by decide) (by decide) (by decide +kernel) dX8_init_612 (fun H locs hG => ?_)
  have hG : GM g A s.heap H locs [oX8 g o (fun _ => 0) (va_up (va_up (va_up (va_up (va_up (va_up (va_up (va_up (va_up (va_up (fun _ => none) 2 (some q1)) 3 (some q2)) 4 (some q3)) 5 (some q4)) 7 (some q5)) 8 (some q6)) 9 (some q7)) 11 (some q8)) 12 (some q9)) 13 (some q10)), aI g q1 6 (fun _ => 0), aI g q2 6 (fun _ => 0), aI g q3 6 (fun _ => 0), aI g q4 6 (fun _ => 0), aI g q5 24 (fun _ => 0), aI g q6 24 (fun _ => 0), aI g q7 24 (fun _ => 0), aI g q8 8 (fun _ => 0), aI g q9 8 (fun _ => 0), aI g q10 8 (fun _ => 0), aI g q11 120 (lf L_X8_0 106)] := hG
  refine lv_dup hx hb dX8_init_613 rfl ?_
  refine lv_bipush (v := 106) hx hb dX8_init_614 (by decide) ?_
  refine lv_iconst (v := 5) hx hb dX8_init_616 (by decide) ?_
  refine r_ilf X hG 11 rfl (by decide) (by decide) (by decide) (by decide +kernel) dX8_init_617 (fun H locs hG => ?_)
  have hG : GM g A s.heap H locs [oX8 g o (fun _ => 0) (va_up (va_up (va_up (va_up (va_up (va_up (va_up (va_up (va_up (va_up (fun _ => none) 2 (some q1)) 3 (some q2)) 4 (some q3)) 5 (some q4)) 7 (some q5)) 8 (some q6)) 9 (some q7)) 11 (some q8)) 12 (some q9)) 13 (some q10)), aI g q1 6 (fun _ => 0), aI g q2 6 (fun _ => 0), aI g q3 6 (fun _ => 0), aI g q4 6 (fun _ => 0), aI g q5 24 (fun _ => 0), aI g q6 24 (fun _ => 0), aI g q7 24 (fun _ => 0), aI g q8 8 (fun _ => 0), aI g q9 8 (fun _ => 0), aI g q10 8 (fun _ => 0), aI g q11 120 (lf L_X8_0 107)] := hG
  refine lv_dup hx hb dX8_init_618 rfl ?_
  refine lv_bipush (v := 107) hx hb dX8_init_619 (by decide) ?_
  refine lv_iconst (v := 5) hx hb dX8_init_621 (by decide) ?_
  refine r_ilf X hG 11 rfl (by decide) (by decide) (by decide) (by decide +kernel) dX8_init_622 (fun H locs hG => ?_)
  have hG : GM g A s.heap H locs [oX8 g o (fun _ => 0) (va_up (va_up (va_up (va_up (va_up (va_up (va_up (va_up (va_up (va_up (fun _ => none) 2 (some q1)) 3 (some q2)) 4 (some q3)) 5 (some q4)) 7 (some q5)) 8 (some q6)) 9 (some q7)) 11 (some q8)) 12 (some q9)) 13 (some q10)), aI g q1 6 (fun _ => 0), aI g q2 6 (fun _ => 0), aI g q3 6 (fun _ => 0), aI g q4 6 (fun _ => 0), aI g q5 24 (fun _ => 0), aI g q6 24 (fun _ => 0), aI g q7 24 (fun _ => 0), aI g q8 8 (fun _ => 0), aI g q9 8 (fun _ => 0), aI g q10 8 (fun _ => 0), aI g q11 120 (lf L_X8_0 108)] := hG
  refine lv_dup hx hb dX8_init_623 rfl ?_
  refine lv_bipush (v := 108) hx hb dX8_init_624 (by decide) ?_
  refine lv_iconst (v := 5) hx hb dX8_init_626 (by decide) ?_
  refine r_ilf X hG 11 rfl (by decide) (by decide) (by decide) (by decide +kernel) dX8_init_627 (fun H locs hG => ?_)
  have hG : GM g A s.heap H locs [oX8 g o (fun _ => 0) (va_up (va_up (va_up (va_up (va_up (va_up (va_up (va_up (va_up (va_up (fun _ => none) 2 (some q1)) 3 (some q2)) 4 (some q3)) 5 (some q4)) 7 (some q5)) 8 (some q6)) 9 (some q7)) 11 (some q8)) 12 (some q9)) 13 (some q10)), aI g q1 6 (fun _ => 0), aI g q2 6 (fun _ => 0), aI g q3 6 (fun _ => 0), aI g q4 6 (fun _ => 0), aI g q5 24 (fun _ => 0), aI g q6 24 (fun _ => 0), aI g q7 24 (fun _ => 0), aI g q8 8 (fun _ => 0), aI g q9 8 (fun _ => 0), aI g q10 8 (fun _ => 0), aI g q11 120 (lf L_X8_0 109)] := hG
  refine lv_dup hx hb dX8_init_628 rfl ?_
  refine lv_bipush (v := 109) hx hb dX8_init_629 (by decide) ?_
  refine lv_iconst (v := 5) hx hb dX8_init_631 (by decide) ?_
  refine r_ilf X hG 11 rfl (by decide) (by decide) (by decide) (by decide +kernel) dX8_init_632 (fun H locs hG => ?_)
  have hG : GM g A s.heap H locs [oX8 g o (fun _ => 0) (va_up (va_up (va_up (va_up (va_up (va_up (va_up (va_up (va_up (va_up (fun _ => none) 2 (some q1)) 3 (some q2)) 4 (some q3)) 5 (some q4)) 7 (some q5)) 8 (some q6)) 9 (some q7)) 11 (some q8)) 12 (some q9)) 13 (some q10)), aI g q1 6 (fun _ => 0), aI g q2 6 (fun _ => 0), aI g q3 6 (fun _ => 0), aI g q4 6 (fun _ => 0), aI g q5 24 (fun _ => 0), aI g q6 24 (fun _ => 0), aI g q7 24 (fun _ => 0), aI g q8 8 (fun _ => 0), aI g q9 8 (fun _ => 0), aI g q10 8 (fun _ => 0), aI g q11 120 (lf L_X8_0 110)] := hG
  refine lv_dup hx hb dX8_init_633 rfl ?_
  refine lv_bipush (v := 110) hx hb dX8_init_634 (by decide) ?_
  refine lv_iconst (v := 5) hx hb dX8_init_636 (by decide) ?_
  refine r_ilf X hG 11 rfl (by decide) (by decide) (by decide) (by decide +kernel) dX8_init_637 (fun H locs hG => ?_)
  have hG : GM g A s.heap H locs [oX8 g o (fun _ => 0) (va_up (va_up (va_up (va_up (va_up (va_up (va_up (va_up (va_up (va_up (fun _ => none) 2 (some q1)) 3 (some q2)) 4 (some q3)) 5 (some q4)) 7 (some q5)) 8 (some q6)) 9 (some q7)) 11 (some q8)) 12 (some q9)) 13 (some q10)), aI g q1 6 (fun _ => 0), aI g q2 6 (fun _ => 0), aI g q3 6 (fun _ => 0), aI g q4 6 (fun _ => 0), aI g q5 24 (fun _ => 0), aI g q6 24 (fun _ => 0), aI g q7 24 (fun _ => 0), aI g q8 8 (fun _ => 0), aI g q9 8 (fun _ => 0), aI g q10 8 (fun _ => 0), aI g q11 120 (lf L_X8_0 111)] := hG
  refine lv_dup hx hb dX8_init_638 rfl ?_
  refine lv_bipush (v := 111) hx hb dX8_init_639 (by decide) ?_
  refine lv_iconst (v := 5) hx hb dX8_init_641 (by decide) ?_
  refine r_ilf X hG 11 rfl (by decide) (by decide) (by decide) (by decide +kernel) dX8_init_642 (fun H locs hG => ?_)
  have hG : GM g A s.heap H locs [oX8 g o (fun _ => 0) (va_up (va_up (va_up (va_up (va_up (va_up (va_up (va_up (va_up (va_up (fun _ => none) 2 (some q1)) 3 (some q2)) 4 (some q3)) 5 (some q4)) 7 (some q5)) 8 (some q6)) 9 (some q7)) 11 (some q8)) 12 (some q9)) 13 (some q10)), aI g q1 6 (fun _ => 0), aI g q2 6 (fun _ => 0), aI g q3 6 (fun _ => 0), aI g q4 6 (fun _ => 0), aI g q5 24 (fun _ => 0), aI g q6 24 (fun _ => 0), aI g q7 24 (fun _ => 0), aI g q8 8 (fun _ => 0), aI g q9 8 (fun _ => 0), aI g q10 8 (fun _ => 0), aI g q11 120 (lf L_X8_0 112)] := hG
  refine lv_dup hx hb dX8_init_643 rfl ?_
  refine lv_bipush (v := 112) hx hb dX8_init_644 (by decide) ?_
  refine lv_iconst (v := 5) hx hb dX8_init_646 (by decide) ?_
  refine r_ilf X hG 11 rfl (by decide) (by decide) (by decide) (by decide +kernel) dX8_init_647 (fun H locs hG => ?_)
  have hG : GM g A s.heap H locs [oX8 g o (fun _ => 0) (va_up (va_up (va_up (va_up (va_up (va_up (va_up (va_up (va_up (va_up (fun _ => none) 2 (some q1)) 3 (some q2)) 4 (some q3)) 5 (some q4)) 7 (some q5)) 8 (some q6)) 9 (some q7)) 11 (some q8)) 12 (some q9)) 13 (some q10)), aI g q1 6 (fun _ => 0), aI g q2 6 (fun _ => 0), aI g q3 6 (fun _ => 0), aI g q4 6 (fun _ => 0), aI g q5 24 (fun _ => 0), aI g q6 24 (fun _ => 0), aI g q7 24 (fun _ => 0), aI g q8 8 (fun _ => 0), aI g q9 8 (fun _ => 0), aI g q10 8 (fun _ => 0), aI g q11 120 (lf L_X8_0 113)] := hG
  refine lv_dup hx hb dX8_init_648 rfl ?_
  refine lv_bipush (v := 113) hx hb dX8_init_649 (by decide) ?_
  refine lv_iconst (v := 5) hx hb dX8_init_651 (by decide) ?_
  refine r_ilf X hG 11 rfl (by decide) (by decide) (by decide) (by decide +kernel) dX8_init_652 (fun H locs hG => ?_)
  have hG : GM g A s.heap H locs [oX8 g o (fun _ => 0) (va_up (va_up (va_up (va_up (va_up (va_up (va_up (va_up (va_up (va_up (fun _ => none) 2 (some q1)) 3 (some q2)) 4 (some q3)) 5 (some q4)) 7 (some q5)) 8 (some q6)) 9 (some q7)) 11 (some q8)) 12 (some q9)) 13 (some q10)), aI g q1 6 (fun _ => 0), aI g q2 6 (fun _ => 0), aI g q3 6 (fun _ => 0), aI g q4 6 (fun _ => 0), aI g q5 24 (fun _ => 0), aI g q6 24 (fun _ => 0), aI g q7 24 (fun _ => 0), aI g q8 8 (fun _ => 0), aI g q9 8 (fun _ => 0), aI g q10 8 (fun _ => 0), aI g q11 120 (lf L_X8_0 114)] := hG
  refine lv_dup hx hb dX8_init_653 rfl ?_
  refine lv_bipush (v := 114) hx hb dX8_init_654 (by decide) ?_
  refine lv_iconst (v := 5) hx hb dX8_init_656 (by decide) ?_
  refine r_ilf X hG 11 rfl (by decide) (by decide) (by decide) (by decide +kernel) dX8_init_657 (fun H locs hG => ?_)
  have hG : GM g A s.heap H locs [oX8 g o (fun _ => 0) (va_up (va_up (va_up (va_up (va_up (va_up (va_up (va_up (va_up (va_up (fun _ => none) 2 (some q1)) 3 (some q2)) 4 (some q3)) 5 (some q4)) 7 (some q5)) 8 (some q6)) 9 (some q7)) 11 (some q8)) 12 (some q9)) 13 (some q10)), aI g q1 6 (fun _ => 0), aI g q2 6 (fun _ => 0), aI g q3 6 (fun _ => 0), aI g q4 6 (fun _ => 0), aI g q5 24 (fun _ => 0), aI g q6 24 (fun _ => 0), aI g q7 24 (fun _ => 0), aI g q8 8 (fun _ => 0), aI g q9 8 (fun _ => 0), aI g q10 8 (fun _ => 0), aI g q11 120 (lf L_X8_0 115)] := hG
  refine lv_dup hx hb dX8_init_658 rfl ?_
  refine lv_bipush (v := 115) hx hb dX8_init_659 (by decide) ?_
  refine lv_iconst (v := 5) hx hb dX8_init_661 (by decide) ?_
  refine r_ilf X hG 11 rfl (by decide) (by decide) (by decide) (by decide +kernel) dX8_init_662 (fun H locs hG => ?_)
  have hG : GM g A s.heap H locs [oX8 g o (fun _ => 0) (va_up (va_up (va_up (va_up (va_up (va_up (va_up (va_up (va_up (va_up (fun _ => none) 2 (some q1)) 3 (some q2)) 4 (some q3)) 5 (some q4)) 7 (some q5)) 8 (some q6)) 9 (some q7)) 11 (some q8)) 12 (some q9)) 13 (some q10)), aI g q1 6 (fun _ => 0), aI g q2 6 (fun _ => 0), aI g q3 6 (fun _ => 0), aI g q4 6 (fun _ => 0), aI g q5 24 (fun _ => 0), aI g q6 24 (fun _ => 0), aI g q7 24 (fun _ => 0), aI g q8 8 (fun _ => 0), aI g q9 8 (fun _ => 0), aI g q10 8 (fun _ => 0), aI g q11 120 (lf L_X8_0 116)] := hG
  refine lv_dup hx hb dX8_init_663 rfl ?_
  refine lv_bipush (v := 116) hx hb dX8_init_664 (by decide) ?_
  refine lv_iconst (v := 5) hx hb dX8_init_666 (by decide) ?_
  refine r_ilf X hG 11 rfl (by decide) (by decide) (by decide) (by decide +kernel) dX8_init_667 (fun H locs hG => ?_)
  have hG : GM g A s.heap H locs [oX8 g o (fun _ => 0) (va_up (va_up (va_up (va_up (va_up (va_up (va_up (va_up (va_up (va_up (fun _ => none) 2 (some q1)) 3 (some q2)) 4 (some q3)) 5 (some q4)) 7 (some q5)) 8 (some q6)) 9 (some q7)) 11 (some q8)) 12 (some q9)) 13 (some q10)), aI g q1 6 (fun _ => 0), aI g q2 6 (fun _ => 0), aI g q3 6 (fun _ => 0), aI g q4 6 (fun _ => 0), aI g q5 24 (fun _ => 0), aI g q6 24 (fun _ => 0), aI g q7 24 (fun _ => 0), aI g q8 8 (fun _ => 0), aI g q9 8 (fun _ => 0), aI g q10 8 (fun _ => 0), aI g q11 120 (lf L_X8_0 117)] := hG
  refine lv_dup hx hb dX8_init_668 rfl ?_
  refine lv_bipush (v := 117) hx hb dX8_init_669 (by decide) ?_
  refine lv_iconst (v := 5) hx hb dX8_init_671 (by decide) ?_
  refine r_ilf X hG 11 rfl (by decide) (by decide) (by decide) (by decide +kernel) dX8_init_672 (fun H locs hG => ?_)
  have hG : GM g A s.heap H locs [oX8 g o (fun _ => 0) (va_up (va_up (va_up (va_up (va_up (va_up (va_up (va_up (va_up (va_up (fun _ => none) 2 (some q1)) 3 (some q2)) 4 (some q3)) 5 (some q4)) 7 (some q5)) 8 (some q6)) 9 (some q7)) 11 (some q8)) 12 (some q9)) 13 (some q10)), aI g q1 6 (fun _ => 0), aI g q2 6 (fun _ => 0), aI g q3 6 (fun _ => 0), aI g q4 6 (fun _ => 0), aI g q5 24 (fun _ => 0), aI g q6 24 (fun _ => 0), aI g q7 24 (fun _ => 0), aI g q8 8 (fun _ => 0), aI g q9 8 (fun _ => 0), aI g q10 8 (fun _ => 0), aI g q11 120 (lf L_X8_0 118)] := hG
  refine lv_dup hx hb dX8_init_673 rfl ?_
  refine lv_bipush (v := 118) hx hb dX8_init_674 (by decide) ?_
  refine lv_iconst (v := 5) hx hb dX8_init_676 (by decide) ?_
  refine r_ilf X hG 11 rfl (by decide) (by decide) (by decide) (by decide +kernel) dX8_init_677 (fun H locs hG => ?_)
  have hG : GM g A s.heap H locs [oX8 g o (fun _ => 0) (va_up (va_up (va_up (va_up (va_up (va_up (va_up (va_up (va_up (va_up (fun _ => none) 2 (some q1)) 3 (some q2)) 4 (some q3)) 5 (some q4)) 7 (some q5)) 8 (some q6)) 9 (some q7)) 11 (some q8)) 12 (some q9)) 13 (some q10)), aI g q1 6 (fun _ => 0), aI g q2 6 (fun _ => 0), aI g q3 6 (fun _ => 0), aI g q4 6 (fun _ => 0), aI g q5 24 (fun _ => 0), aI g q6 24 (fun _ => 0), aI g q7 24 (fun _ => 0), aI g q8 8 (fun _ => 0), aI g q9 8 (fun _ => 0), aI g q10 8 (fun _ => 0), aI g q11 120 (lf L_X8_0 119)] := hG
  refine lv_dup hx hb dX8_init_678 rfl ?_
  refine lv_bipush (v := 119) hx hb dX8_init_679 (by decide) ?_
  refine lv_iconst (v := 5) hx hb dX8_init_681 (by decide) ?_
  refine r_ilf X hG 11 rfl (by decide) (by decide) (by decide) (by decide +kernel) dX8_init_682 (fun H locs hG => ?_)
  have hG : GM g A s.heap H locs [oX8 g o (fun _ => 0) (va_up (va_up (va_up (va_up (va_up (va_up (va_up (va_up (va_up (va_up (fun _ => none) 2 (some q1)) 3 (some q2)) 4 (some q3)) 5 (some q4)) 7 (some q5)) 8 (some q6)) 9 (some q7)) 11 (some q8)) 12 (some q9)) 13 (some q10)), aI g q1 6 (fun _ => 0), aI g q2 6 (fun _ => 0), aI g q3 6 (fun _ => 0), aI g q4 6 (fun _ => 0), aI g q5 24 (fun _ => 0), aI g q6 24 (fun _ => 0), aI g q7 24 (fun _ => 0), aI g q8 8 (fun _ => 0), aI g q9 8 (fun _ => 0), aI g q10 8 (fun _ => 0), aI g q11 120 (lf L_X8_0 120)] := hG
  refine PO_8_40 X hmn hG 0 rfl dX8_init_683 (fun H locs hG => ?_)
  have hG : GM g A s.heap H locs [oX8 g o (fun _ => 0) (va_up (va_up (va_up (va_up (va_up (va_up (va_up (va_up (va_up (va_up (va_up (fun _ => none) 2 (some q1)) 3 (some q2)) 4 (some q3)) 5 (some q4)) 7 (some q5)) 8 (some q6)) 9 (some q7)) 11 (some q8)) 12 (some q9)) 13 (some q10)) 14 (some q11)), aI g q1 6 (fun _ => 0), aI g q2 6 (fun _ => 0), aI g q3 6 (fun _ => 0), aI g q4 6 (fun _ => 0), aI g q5 24 (fun _ => 0), aI g q6 24 (fun _ => 0), aI g q7 24 (fun _ => 0), aI g q8 8 (fun _ => 0), aI g q9 8 (fun _ => 0), aI g q10 8 (fun _ => 0), aI g q11 120 (lf L_X8_0 120)] := hG
  refine lv_aload_n hx hb dX8_init_686 rfl (lv_at hl 0 rfl) ?_
  refine lv_bipush (v := 90) hx hb dX8_init_687 (by decide) ?_
  refine PO_8_43 X hG 0 rfl dX8_init_689 (fun H locs hG => ?_)
  have hG : GM g A s.heap H locs [oX8 g o (va_up (fun _ => 0) 15 90) (va_up (va_up (va_up (va_up (va_up (va_up (va_up (va_up (va_up (va_up (va_up (fun _ => none) 2 (some q1)) 3 (some q2)) 4 (some q3)) 5 (some q4)) 7 (some q5)) 8 (some q6)) 9 (some q7)) 11 (some q8)) 12 (some q9)) 13 (some q10)) 14 (some q11)), aI g q1 6 (fun _ => 0), aI g q2 6 (fun _ => 0), aI g q3 6 (fun _ => 0), aI g q4 6 (fun _ => 0), aI g q5 24 (fun _ => 0), aI g q6 24 (fun _ => 0), aI g q7 24 (fun _ => 0), aI g q8 8 (fun _ => 0), aI g q9 8 (fun _ => 0), aI g q10 8 (fun _ => 0), aI g q11 120 (lf L_X8_0 120)] := hG
  refine lv_aload_n hx hb dX8_init_692 rfl (lv_at hl 0 rfl) ?_
  refine lv_iconst (v := (-1)) hx hb dX8_init_693 (by decide) ?_
  refine PO_8_47 X hG 0 rfl dX8_init_694 (fun H locs hG => ?_)
  have hG : GM g A s.heap H locs [oX8 g o (va_up (va_up (fun _ => 0) 15 90) 16 (-1)) (va_up (va_up (va_up (va_up (va_up (va_up (va_up (va_up (va_up (va_up (va_up (fun _ => none) 2 (some q1)) 3 (some q2)) 4 (some q3)) 5 (some q4)) 7 (some q5)) 8 (some q6)) 9 (some q7)) 11 (some q8)) 12 (some q9)) 13 (some q10)) 14 (some q11)), aI g q1 6 (fun _ => 0), aI g q2 6 (fun _ => 0), aI g q3 6 (fun _ => 0), aI g q4 6 (fun _ => 0), aI g q5 24 (fun _ => 0), aI g q6 24 (fun _ => 0), aI g q7 24 (fun _ => 0), aI g q8 8 (fun _ => 0), aI g q9 8 (fun _ => 0), aI g q10 8 (fun _ => 0), aI g q11 120 (lf L_X8_0 120)] := hG
  refine lv_aload_n hx hb dX8_init_697 rfl (lv_at hl 0 rfl) ?_
  refine lv_iconst (v := (-1)) hx hb dX8_init_698 (by decide) ?_
  refine PO_8_50 X hG 0 rfl dX8_init_699 (fun H locs hG => ?_)
  have hG : GM g A s.heap H locs [oX8 g o (va_up (va_up (va_up (fun _ => 0) 15 90) 16 (-1)) 18 (-1)) (va_up (va_up (va_up (va_up (va_up (va_up (va_up (va_up (va_up (va_up (va_up (fun _ => none) 2 (some q1)) 3 (some q2)) 4 (some q3)) 5 (some q4)) 7 (some q5)) 8 (some q6)) 9 (some q7)) 11 (some q8)) 12 (some q9)) 13 (some q10)) 14 (some q11)), aI g q1 6 (fun _ => 0), aI g q2 6 (fun _ => 0), aI g q3 6 (fun _ => 0), aI g q4 6 (fun _ => 0), aI g q5 24 (fun _ => 0), aI g q6 24 (fun _ => 0), aI g q7 24 (fun _ => 0), aI g q8 8 (fun _ => 0), aI g q9 8 (fun _ => 0), aI g q10 8 (fun _ => 0), aI g q11 120 (lf L_X8_0 120)] := hG
  refine lv_aload_n hx hb dX8_init_702 rfl (lv_at hl 0 rfl) ?_
  refine lv_sipush (v := 160) hx hb dX8_init_703 (by decide) ?_
  refine r_newB (N' := 160) X hG (by decide) (by decide) (by decide) (by show (_ : Nat) ≤ _; decide) (by show (_ : Nat) ≤ _; decide) dX8_init_706 (fun q12 H hG => ?_)
  have hG : GM g A s.heap H locs [oX8 g o (va_up (va_up (va_up (fun _ => 0) 15 90) 16 (-1)) 18 (-1)) (va_up (va_up (va_up (va_up (va_up (va_up (va_up (va_up (va_up (va_up (va_up (fun _ => none) 2 (some q1)) 3 (some q2)) 4 (some q3)) 5 (some q4)) 7 (some q5)) 8 (some q6)) 9 (some q7)) 11 (some q8)) 12 (some q9)) 13 (some q10)) 14 (some q11)), aI g q1 6 (fun _ => 0), aI g q2 6 (fun _ => 0), aI g q3 6 (fun _ => 0), aI g q4 6 (fun _ => 0), aI g q5 24 (fun _ => 0), aI g q6 24 (fun _ => 0), aI g q7 24 (fun _ => 0), aI g q8 8 (fun _ => 0), aI g q9 8 (fun _ => 0), aI g q10 8 (fun _ => 0), aI g q11 120 (lf L_X8_0 120), aB g q12 160 (fun _ => 0)] := hG
  refine W.widen (k := 12) (n := 400) (by omega) (by omega) ?_
  refine PO_8_53 X hmn hG 0 rfl dX8_init_708 (fun H locs hG => ?_)
  have hG : GM g A s.heap H locs [oX8 g o (va_up (va_up (va_up (fun _ => 0) 15 90) 16 (-1)) 18 (-1)) (va_up (va_up (va_up (va_up (va_up (va_up (va_up (va_up (va_up (va_up (va_up (va_up (fun _ => none) 2 (some q1)) 3 (some q2)) 4 (some q3)) 5 (some q4)) 7 (some q5)) 8 (some q6)) 9 (some q7)) 11 (some q8)) 12 (some q9)) 13 (some q10)) 14 (some q11)) 19 (some q12)), aI g q1 6 (fun _ => 0), aI g q2 6 (fun _ => 0), aI g q3 6 (fun _ => 0), aI g q4 6 (fun _ => 0), aI g q5 24 (fun _ => 0), aI g q6 24 (fun _ => 0), aI g q7 24 (fun _ => 0), aI g q8 8 (fun _ => 0), aI g q9 8 (fun _ => 0), aI g q10 8 (fun _ => 0), aI g q11 120 (lf L_X8_0 120), aB g q12 160 (fun _ => 0)] := hG
  refine lv_aload_n hx hb dX8_init_711 rfl (lv_at hl 0 rfl) ?_
  refine lv_iconst (v := 1) hx hb dX8_init_712 (by decide) ?_
  refine PO_8_57 X hG 0 rfl dX8_init_713 (fun H locs hG => ?_)
  have hG : GM g A s.heap H locs [oX8 g o (va_up (va_up (va_up (va_up (fun _ => 0) 15 90) 16 (-1)) 18 (-1)) 21 1) (va_up (va_up (va_up (va_up (va_up (va_up (va_up (va_up (va_up (va_up (va_up (va_up (fun _ => none) 2 (some q1)) 3 (some q2)) 4 (some q3)) 5 (some q4)) 7 (some q5)) 8 (some q6)) 9 (some q7)) 11 (some q8)) 12 (some q9)) 13 (some q10)) 14 (some q11)) 19 (some q12)), aI g q1 6 (fun _ => 0), aI g q2 6 (fun _ => 0), aI g q3 6 (fun _ => 0), aI g q4 6 (fun _ => 0), aI g q5 24 (fun _ => 0), aI g q6 24 (fun _ => 0), aI g q7 24 (fun _ => 0), aI g q8 8 (fun _ => 0), aI g q9 8 (fun _ => 0), aI g q10 8 (fun _ => 0), aI g q11 120 (lf L_X8_0 120), aB g q12 160 (fun _ => 0)] := hG
  refine lv_aload_n hx hb dX8_init_716 rfl (lv_at hl 0 rfl) ?_
  refine lv_sipush (v := 1190) hx hb dX8_init_717 (by decide) ?_
  refine r_newI (N' := 1190) X hG (by decide) (by decide) (by decide) (by show (_ : Nat) ≤ _; decide) (by show (_ : Nat) ≤ _; decide) dX8_init_720 (fun q13 H hG => ?_)
  have hG : GM g A s.heap H locs [oX8 g o (va_up (va_up (va_up (va_up (fun _ => 0) 15 90) 16 (-1)) 18 (-1)) 21 1) (va_up (va_up (va_up (va_up (va_up (va_up (va_up (va_up (va_up (va_up (va_up (va_up (fun _ => none) 2 (some q1)) 3 (some q2)) 4 (some q3)) 5 (some q4)) 7 (some q5)) 8 (some q6)) 9 (some q7)) 11 (some q8)) 12 (some q9)) 13 (some q10)) 14 (some q11)) 19 (some q12)), aI g q1 6 (fun _ => 0), aI g q2 6 (fun _ => 0), aI g q3 6 (fun _ => 0), aI g q4 6 (fun _ => 0), aI g q5 24 (fun _ => 0), aI g q6 24 (fun _ => 0), aI g q7 24 (fun _ => 0), aI g q8 8 (fun _ => 0), aI g q9 8 (fun _ => 0), aI g q10 8 (fun _ => 0), aI g q11 120 (lf L_X8_0 120), aB g q12 160 (fun _ => 0), aI g q13 1190 (fun _ => 0)] := hG
  refine W.widen (k := 13) (n := 1590) (by omega) (by omega) ?_
  refine PO_8_60 X hmn hG 0 rfl dX8_init_722 (fun H locs hG => ?_)
  have hG : GM g A s.heap H locs [oX8 g o (va_up (va_up (va_up (va_up (fun _ => 0) 15 90) 16 (-1)) 18 (-1)) 21 1) (va_up (va_up (va_up (va_up (va_up (va_up (va_up (va_up (va_up (va_up (va_up (va_up (va_up (fun _ => none) 2 (some q1)) 3 (some q2)) 4 (some q3)) 5 (some q4)) 7 (some q5)) 8 (some q6)) 9 (some q7)) 11 (some q8)) 12 (some q9)) 13 (some q10)) 14 (some q11)) 19 (some q12)) 23 (some q13)), aI g q1 6 (fun _ => 0), aI g q2 6 (fun _ => 0), aI g q3 6 (fun _ => 0), aI g q4 6 (fun _ => 0), aI g q5 24 (fun _ => 0), aI g q6 24 (fun _ => 0), aI g q7 24 (fun _ => 0), aI g q8 8 (fun _ => 0), aI g q9 8 (fun _ => 0), aI g q10 8 (fun _ => 0), aI g q11 120 (lf L_X8_0 120), aB g q12 160 (fun _ => 0), aI g q13 1190 (fun _ => 0)] := hG
  refine lv_aload_n hx hb dX8_init_725 rfl (lv_at hl 0 rfl) ?_
  refine lv_sipush (v := 1190) hx hb dX8_init_726 (by decide) ?_
  refine r_newI (N' := 1190) X hG (by decide) (by decide) (by decide) (by show (_ : Nat) ≤ _; decide) (by show (_ : Nat) ≤ _; decide) dX8_init_729 (fun q14 H hG => ?_)
  have hG : GM g A s.heap H locs [oX8 g o (va_up (va_up (va_up (va_up (fun _ => 0) 15 90) 16 (-1)) 18 (-1)) 21 1) (va_up (va_up (va_up (va_up (va_up (va_up (va_up (va_up (va_up (va_up (va_up (va_up (va_up (fun _ => none) 2 (some q1)) 3 (some q2)) 4 (some q3)) 5 (some q4)) 7 (some q5)) 8 (some q6)) 9 (some q7)) 11 (some q8)) 12 (some q9)) 13 (some q10)) 14 (some q11)) 19 (some q12)) 23 (some q13)), aI g q1 6 (fun _ => 0), aI g q2 6 (fun _ => 0), aI g q3 6 (fun _ => 0), aI g q4 6 (fun _ => 0), aI g q5 24 (fun _ => 0), aI g q6 24 (fun _ => 0), aI g q7 24 (fun _ => 0), aI g q8 8 (fun _ => 0), aI g q9 8 (fun _ => 0), aI g q10 8 (fun _ => 0), aI g q11 120 (lf L_X8_0 120), aB g q12 160 (fun _ => 0), aI g q13 1190 (fun _ => 0), aI g q14 1190 (fun _ => 0)] := hG
  refine W.widen (k := 14) (n := 2780) (by omega) (by omega) ?_
  refine PO_8_63 X hmn hG 0 rfl dX8_init_731 (fun H locs hG => ?_)
  have hG : GM g A s.heap H locs [oX8 g o (va_up (va_up (va_up (va_up (fun _ => 0) 15 90) 16 (-1)) 18 (-1)) 21 1) (va_up (va_up (va_up (va_up (va_up (va_up (va_up (va_up (va_up (va_up (va_up (va_up (va_up (va_up (fun _ => none) 2 (some q1)) 3 (some q2)) 4 (some q3)) 5 (some q4)) 7 (some q5)) 8 (some q6)) 9 (some q7)) 11 (some q8)) 12 (some q9)) 13 (some q10)) 14 (some q11)) 19 (some q12)) 23 (some q13)) 24 (some q14)), aI g q1 6 (fun _ => 0), aI g q2 6 (fun _ => 0), aI g q3 6 (fun _ => 0), aI g q4 6 (fun _ => 0), aI g q5 24 (fun _ => 0), aI g q6 24 (fun _ => 0), aI g q7 24 (fun _ => 0), aI g q8 8 (fun _ => 0), aI g q9 8 (fun _ => 0), aI g q10 8 (fun _ => 0), aI g q11 120 (lf L_X8_0 120), aB g q12 160 (fun _ => 0), aI g q13 1190 (fun _ => 0), aI g q14 1190 (fun _ => 0)] := hG
  refine lv_aload_n hx hb dX8_init_734 rfl (lv_at hl 0 rfl) ?_
  refine lv_bipush (v := 21) hx hb dX8_init_735 (by decide) ?_
  refine r_newI (N' := 21) X hG (by decide) (by decide) (by decide) (by show (_ : Nat) ≤ _; decide) (by show (_ : Nat) ≤ _; decide) dX8_init_737 (fun q15 H hG => ?_)
  have hG : GM g A s.heap H locs [oX8 g o (va_up (va_up (va_up (va_up (fun _ => 0) 15 90) 16 (-1)) 18 (-1)) 21 1) (va_up (va_up (va_up (va_up (va_up (va_up (va_up (va_up (va_up (va_up (va_up (va_up (va_up (va_up (fun _ => none) 2 (some q1)) 3 (some q2)) 4 (some q3)) 5 (some q4)) 7 (some q5)) 8 (some q6)) 9 (some q7)) 11 (some q8)) 12 (some q9)) 13 (some q10)) 14 (some q11)) 19 (some q12)) 23 (some q13)) 24 (some q14)), aI g q1 6 (fun _ => 0), aI g q2 6 (fun _ => 0), aI g q3 6 (fun _ => 0), aI g q4 6 (fun _ => 0), aI g q5 24 (fun _ => 0), aI g q6 24 (fun _ => 0), aI g q7 24 (fun _ => 0), aI g q8 8 (fun _ => 0), aI g q9 8 (fun _ => 0), aI g q10 8 (fun _ => 0), aI g q11 120 (lf L_X8_0 120), aB g q12 160 (fun _ => 0), aI g q13 1190 (fun _ => 0), aI g q14 1190 (fun _ => 0), aI g q15 21 (fun _ => 0)] := hG
  refine W.widen (k := 15) (n := 2801) (by omega) (by omega) ?_
  refine PO_8_66 X hmn hG 0 rfl dX8_init_739 (fun H locs hG => ?_)
  have hG : GM g A s.heap H locs [oX8 g o (va_up (va_up (va_up (va_up (fun _ => 0) 15 90) 16 (-1)) 18 (-1)) 21 1) (va_up (va_up (va_up (va_up (va_up (va_up (va_up (va_up (va_up (va_up (va_up (va_up (va_up (va_up (va_up (fun _ => none) 2 (some q1)) 3 (some q2)) 4 (some q3)) 5 (some q4)) 7 (some q5)) 8 (some q6)) 9 (some q7)) 11 (some q8)) 12 (some q9)) 13 (some q10)) 14 (some q11)) 19 (some q12)) 23 (some q13)) 24 (some q14)) 25 (some q15)), aI g q1 6 (fun _ => 0), aI g q2 6 (fun _ => 0), aI g q3 6 (fun _ => 0), aI g q4 6 (fun _ => 0), aI g q5 24 (fun _ => 0), aI g q6 24 (fun _ => 0), aI g q7 24 (fun _ => 0), aI g q8 8 (fun _ => 0), aI g q9 8 (fun _ => 0), aI g q10 8 (fun _ => 0), aI g q11 120 (lf L_X8_0 120), aB g q12 160 (fun _ => 0), aI g q13 1190 (fun _ => 0), aI g q14 1190 (fun _ => 0), aI g q15 21 (fun _ => 0)] := hG
  refine lv_aload_n hx hb dX8_init_742 rfl (lv_at hl 0 rfl) ?_
  refine lv_sipush (v := 170) hx hb dX8_init_743 (by decide) ?_
  refine r_newI (N' := 170) X hG (by decide) (by decide) (by decide) (by show (_ : Nat) ≤ _; decide) (by show (_ : Nat) ≤ _; decide) dX8_init_746 (fun q16 H hG => ?_)
  have hG : GM g A s.heap H locs [oX8 g o (va_up (va_up (va_up (va_up (fun _ => 0) 15 90) 16 (-1)) 18 (-1)) 21 1) (va_up (va_up (va_up (va_up (va_up (va_up (va_up (va_up (va_up (va_up (va_up (va_up (va_up (va_up (va_up (fun _ => none) 2 (some q1)) 3 (some q2)) 4 (some q3)) 5 (some q4)) 7 (some q5)) 8 (some q6)) 9 (some q7)) 11 (some q8)) 12 (some q9)) 13 (some q10)) 14 (some q11)) 19 (some q12)) 23 (some q13)) 24 (some q14)) 25 (some q15)), aI g q1 6 (fun _ => 0), aI g q2 6 (fun _ => 0), aI g q3 6 (fun _ => 0), aI g q4 6 (fun _ => 0), aI g q5 24 (fun _ => 0), aI g q6 24 (fun _ => 0), aI g q7 24 (fun _ => 0), aI g q8 8 (fun _ => 0), aI g q9 8 (fun _ => 0), aI g q10 8 (fun _ => 0), aI g q11 120 (lf L_X8_0 120), aB g q12 160 (fun _ => 0), aI g q13 1190 (fun _ => 0), aI g q14 1190 (fun _ => 0), aI g q15 21 (fun _ => 0), aI g q16 170 (fun _ => 0)] := hG
  refine W.widen (k := 16) (n := 2971) (by omega) (by omega) ?_
  refine PO_8_69 X hmn hG 0 rfl dX8_init_748 (fun H locs hG => ?_)
  have hG : GM g A s.heap H locs [oX8 g o (va_up (va_up (va_up (va_up (fun _ => 0) 15 90) 16 (-1)) 18 (-1)) 21 1) (va_up (va_up (va_up (va_up (va_up (va_up (va_up (va_up (va_up (va_up (va_up (va_up (va_up (va_up (va_up (va_up (fun _ => none) 2 (some q1)) 3 (some q2)) 4 (some q3)) 5 (some q4)) 7 (some q5)) 8 (some q6)) 9 (some q7)) 11 (some q8)) 12 (some q9)) 13 (some q10)) 14 (some q11)) 19 (some q12)) 23 (some q13)) 24 (some q14)) 25 (some q15)) 33 (some q16)), aI g q1 6 (fun _ => 0), aI g q2 6 (fun _ => 0), aI g q3 6 (fun _ => 0), aI g q4 6 (fun _ => 0), aI g q5 24 (fun _ => 0), aI g q6 24 (fun _ => 0), aI g q7 24 (fun _ => 0), aI g q8 8 (fun _ => 0), aI g q9 8 (fun _ => 0), aI g q10 8 (fun _ => 0), aI g q11 120 (lf L_X8_0 120), aB g q12 160 (fun _ => 0), aI g q13 1190 (fun _ => 0), aI g q14 1190 (fun _ => 0), aI g q15 21 (fun _ => 0), aI g q16 170 (fun _ => 0)] := hG
  refine lv_aload_n hx hb dX8_init_751 rfl (lv_at hl 0 rfl) ?_
  refine lv_bipush (v := 6) hx hb dX8_init_752 (by decide) ?_
  refine r_newI (N' := 6) X hG (by decide) (by decide) (by decide) (by show (_ : Nat) ≤ _; decide) (by show (_ : Nat) ≤ _; decide) dX8_init_754 (fun q17 H hG => ?_)
  have hG : GM g A s.heap H locs [oX8 g o (va_up (va_up (va_up (va_up (fun _ => 0) 15 90) 16 (-1)) 18 (-1)) 21 1) (va_up (va_up (va_up (va_up (va_up (va_up (va_up (va_up (va_up (va_up (va_up (va_up (va_up (va_up (va_up (va_up (fun _ => none) 2 (some q1)) 3 (some q2)) 4 (some q3)) 5 (some q4)) 7 (some q5)) 8 (some q6)) 9 (some q7)) 11 (some q8)) 12 (some q9)) 13 (some q10)) 14 (some q11)) 19 (some q12)) 23 (some q13)) 24 (some q14)) 25 (some q15)) 33 (some q16)), aI g q1 6 (fun _ => 0), aI g q2 6 (fun _ => 0), aI g q3 6 (fun _ => 0), aI g q4 6 (fun _ => 0), aI g q5 24 (fun _ => 0), aI g q6 24 (fun _ => 0), aI g q7 24 (fun _ => 0), aI g q8 8 (fun _ => 0), aI g q9 8 (fun _ => 0), aI g q10 8 (fun _ => 0), aI g q11 120 (lf L_X8_0 120), aB g q12 160 (fun _ => 0), aI g q13 1190 (fun _ => 0), aI g q14 1190 (fun _ => 0), aI g q15 21 (fun _ => 0), aI g q16 170 (fun _ => 0), aI g q17 6 (fun _ => 0)] := hG
  refine W.widen (k := 17) (n := 2977) (by omega) (by omega) ?_
  refine PO_8_72 X hmn hG 0 rfl dX8_init_756 (fun H locs hG => ?_)
  have hG : GM g A s.heap H locs [oX8 g o (va_up (va_up (va_up (va_up (fun _ => 0) 15 90) 16 (-1)) 18 (-1)) 21 1) (va_up (va_up (va_up (va_up (va_up (va_up (va_up (va_up (va_up (va_up (va_up (va_up (va_up (va_up (va_up (va_up (va_up (fun _ => none) 2 (some q1)) 3 (some q2)) 4 (some q3)) 5 (some q4)) 7 (some q5)) 8 (some q6)) 9 (some q7)) 11 (some q8)) 12 (some q9)) 13 (some q10)) 14 (some q11)) 19 (some q12)) 23 (some q13)) 24 (some q14)) 25 (some q15)) 33 (some q16)) 34 (some q17)), aI g q1 6 (fun _ => 0), aI g q2 6 (fun _ => 0), aI g q3 6 (fun _ => 0), aI g q4 6 (fun _ => 0), aI g q5 24 (fun _ => 0), aI g q6 24 (fun _ => 0), aI g q7 24 (fun _ => 0), aI g q8 8 (fun _ => 0), aI g q9 8 (fun _ => 0), aI g q10 8 (fun _ => 0), aI g q11 120 (lf L_X8_0 120), aB g q12 160 (fun _ => 0), aI g q13 1190 (fun _ => 0), aI g q14 1190 (fun _ => 0), aI g q15 21 (fun _ => 0), aI g q16 170 (fun _ => 0), aI g q17 6 (fun _ => 0)] := hG
  refine lv_aload_n hx hb dX8_init_759 rfl (lv_at hl 0 rfl) ?_
  refine lv_bipush (v := 53) hx hb dX8_init_760 (by decide) ?_
  refine r_newI (N' := 53) X hG (by decide) (by decide) (by decide) (by show (_ : Nat) ≤ _; decide) (by show (_ : Nat) ≤ _; decide) dX8_init_762 (fun q18 H hG => ?_)
  have hG : GM g A s.heap H locs [oX8 g o (va_up (va_up (va_up (va_up (fun _ => 0) 15 90) 16 (-1)) 18 (-1)) 21 1) (va_up (va_up (va_up (va_up (va_up (va_up (va_up (va_up (va_up (va_up (va_up (va_up (va_up (va_up (va_up (va_up (va_up (fun _ => none) 2 (some q1)) 3 (some q2)) 4 (some q3)) 5 (some q4)) 7 (some q5)) 8 (some q6)) 9 (some q7)) 11 (some q8)) 12 (some q9)) 13 (some q10)) 14 (some q11)) 19 (some q12)) 23 (some q13)) 24 (some q14)) 25 (some q15)) 33 (some q16)) 34 (some q17)), aI g q1 6 (fun _ => 0), aI g q2 6 (fun _ => 0), aI g q3 6 (fun _ => 0), aI g q4 6 (fun _ => 0), aI g q5 24 (fun _ => 0), aI g q6 24 (fun _ => 0), aI g q7 24 (fun _ => 0), aI g q8 8 (fun _ => 0), aI g q9 8 (fun _ => 0), aI g q10 8 (fun _ => 0), aI g q11 120 (lf L_X8_0 120), aB g q12 160 (fun _ => 0), aI g q13 1190 (fun _ => 0), aI g q14 1190 (fun _ => 0), aI g q15 21 (fun _ => 0), aI g q16 170 (fun _ => 0), aI g q17 6 (fun _ => 0), aI g q18 53 (fun _ => 0)] := hG
  refine W.widen (k := 18) (n := 3030) (by omega) (by omega) ?_
  have hG : GM g A s.heap H locs [oX8 g o (va_up (va_up (va_up (va_up (fun _ => 0) 15 90) 16 (-1)) 18 (-1)) 21 1) (va_up (va_up (va_up (va_up (va_up (va_up (va_up (va_up (va_up (va_up (va_up (va_up (va_up (va_up (va_up (va_up (va_up (fun _ => none) 2 (some q1)) 3 (some q2)) 4 (some q3)) 5 (some q4)) 7 (some q5)) 8 (some q6)) 9 (some q7)) 11 (some q8)) 12 (some q9)) 13 (some q10)) 14 (some q11)) 19 (some q12)) 23 (some q13)) 24 (some q14)) 25 (some q15)) 33 (some q16)) 34 (some q17)), aI g q1 6 (fun _ => 0), aI g q2 6 (fun _ => 0), aI g q3 6 (fun _ => 0), aI g q4 6 (fun _ => 0), aI g q5 24 (fun _ => 0), aI g q6 24 (fun _ => 0), aI g q7 24 (fun _ => 0), aI g q8 8 (fun _ => 0), aI g q9 8 (fun _ => 0), aI g q10 8 (fun _ => 0), aI g q11 120 (lf L_X8_0 120), aB g q12 160 (fun _ => 0), aI g q13 1190 (fun _ => 0), aI g q14 1190 (fun _ => 0), aI g q15 21 (fun _ => 0), aI g q16 170 (fun _ => 0), aI g q17 6 (fun _ => 0), aI g q18 53 (lf L_X8_1 0)] := by rw [lf_0]; exact hG
  refine lv_dup hx hb dX8_init_764 rfl ?_
  refine lv_iconst (v := 0) hx hb dX8_init_765 (by decide) ?_
  refine lv_bipush (v := 117) hx hb dX8_init_766 (by decide) ?_
  refine r_ilf X hG 18 rfl (by decide) (by decide) (by decide) (by decide +kernel) dX8_init_768 (fun H locs hG => ?_)
  have hG : GM g A s.heap H locs [oX8 g o (va_up (va_up (va_up (va_up (fun _ => 0) 15 90) 16 (-1)) 18 (-1)) 21 1) (va_up (va_up (va_up (va_up (va_up (va_up (va_up (va_up (va_up (va_up (va_up (va_up (va_up (va_up (va_up (va_up (va_up (fun _ => none) 2 (some q1)) 3 (some q2)) 4 (some q3)) 5 (some q4)) 7 (some q5)) 8 (some q6)) 9 (some q7)) 11 (some q8)) 12 (some q9)) 13 (some q10)) 14 (some q11)) 19 (some q12)) 23 (some q13)) 24 (some q14)) 25 (some q15)) 33 (some q16)) 34 (some q17)), aI g q1 6 (fun _ => 0), aI g q2 6 (fun _ => 0), aI g q3 6 (fun _ => 0), aI g q4 6 (fun _ => 0), aI g q5 24 (fun _ => 0), aI g q6 24 (fun _ => 0), aI g q7 24 (fun _ => 0), aI g q8 8 (fun _ => 0), aI g q9 8 (fun _ => 0), aI g q10 8 (fun _ => 0), aI g q11 120 (lf L_X8_0 120), aB g q12 160 (fun _ => 0), aI g q13 1190 (fun _ => 0), aI g q14 1190 (fun _ => 0), aI g q15 21 (fun _ => 0), aI g q16 170 (fun _ => 0), aI g q17 6 (fun _ => 0), aI g q18 53 (lf L_X8_1 1)] := hG
  refine lv_dup hx hb dX8_init_769 rfl ?_
  refine lv_iconst (v := 1) hx hb dX8_init_770 (by decide) ?_
  refine lv_bipush (v := 112) hx hb dX8_init_771 (by decide) ?_
  refine r_ilf X hG 18 rfl (by decide) (by decide) (by decide) (by decide +kernel) dX8_init_773 (fun H locs hG => ?_)
  have hG : GM g A s.heap H locs [oX8 g o (va_up (va_up (va_up (va_up (fun _ => 0) 15 90) 16 (-1)) 18 (-1)) 21 1) (va_up (va_up (va_up (va_up (va_up (va_up (va_up (va_up (va_up (va_up (va_up (va_up (va_up (va_up (va_up (va_up (va_up (fun _ => none) 2 (some q1)) 3 (some q2)) 4 (some q3)) 5 (some q4)) 7 (some q5)) 8 (some q6)) 9 (some q7)) 11 (some q8)) 12 (some q9)) 13 (some q10)) 14 (some q11)) 19 (some q12)) 23 (some q13)) 24 (some q14)) 25 (some q15)) 33 (some q16)) 34 (some q17)), aI g q1 6 (fun _ => 0), aI g q2 6 (fun _ => 0), aI g q3 6 (fun _ => 0), aI g q4 6 (fun _ => 0), aI g q5 24 (fun _ => 0), aI g q6 24 (fun _ => 0), aI g q7 24 (fun _ => 0), aI g q8 8 (fun _ => 0), aI g q9 8 (fun _ => 0), aI g q10 8 (fun _ => 0), aI g q11 120 (lf L_X8_0 120), aB g q12 160 (fun _ => 0), aI g q13 1190 (fun _ => 0), aI g q14 1190 (fun _ => 0), aI g q15 21 (fun _ => 0), aI g q16 170 (fun _ => 0), aI g q17 6 (fun _ => 0), aI g q18 53 (lf L_X8_1 2)] := hG
  refine lv_dup hx hb dX8_init_774 rfl ?_
  refine lv_iconst (v := 2) hx hb dX8_init_775 (by decide) ?_
  refine lv_bipush (v := 32) hx hb dX8_init_776 (by decide) ?_
  refine r_ilf X hG 18 rfl (by decide) (by decide) (by decide) (by decide +kernel) dX8_init_778 (fun H locs hG => ?_)
  have hG : GM g A s.heap H locs [oX8 g o (va_up (va_up (va_up (va_up (fun _ => 0) 15 90) 16 (-1)) 18 (-1)) 21 1) (va_up (va_up (va_up (va_up (va_up (va_up (va_up (va_up (va_up (va_up (va_up (va_up (va_up (va_up (va_up (va_up (va_up (fun _ => none) 2 (some q1)) 3 (some q2)) 4 (some q3)) 5 (some q4)) 7 (some q5)) 8 (some q6)) 9 (some q7)) 11 (some q8)) 12 (some q9)) 13 (some q10)) 14 (some q11)) 19 (some q12)) 23 (some q13)) 24 (some q14)) 25 (some q15)) 33 (some q16)) 34 (some q17)), aI g q1 6 (fun _ => 0), aI g q2 6 (fun _ => 0), aI g q3 6 (fun _ => 0), aI g q4 6 (fun _ => 0), aI g q5 24 (fun _ => 0), aI g q6 24 (fun _ => 0), aI g q7 24 (fun _ => 0), aI g q8 8 (fun _ => 0), aI g q9 8 (fun _ => 0), aI g q10 8 (fun _ => 0), aI g q11 120 (lf L_X8_0 120), aB g q12 160 (fun _ => 0), aI g q13 1190 (fun _ => 0), aI g q14 1190 (fun _ => 0), aI g q15 21 (fun _ => 0), aI g q16 170 (fun _ => 0), aI g q17 6 (fun _ => 0), aI g q18 53 (lf L_X8_1 3)] := hG
  refine lv_dup hx hb dX8_init_779 rfl ?_
  refine lv_iconst (v := 3) hx hb dX8_init_780 (by decide) ?_
  refine lv_bipush (v := 119) hx hb dX8_init_781 (by decide) ?_
  refine r_ilf X hG 18 rfl (by decide) (by decide) (by decide) (by decide +kernel) dX8_init_783 (fun H locs hG => ?_)
  have hG : GM g A s.heap H locs [oX8 g o (va_up (va_up (va_up (va_up (fun _ => 0) 15 90) 16 (-1)) 18 (-1)) 21 1) (va_up (va_up (va_up (va_up (va_up (va_up (va_up (va_up (va_up (va_up (va_up (va_up (va_up (va_up (va_up (va_up (va_up (fun _ => none) 2 (some q1)) 3 (some q2)) 4 (some q3)) 5 (some q4)) 7 (some q5)) 8 (some q6)) 9 (some q7)) 11 (some q8)) 12 (some q9)) 13 (some q10)) 14 (some q11)) 19 (some q12)) 23 (some q13)) 24 (some q14)) 25 (some q15)) 33 (some q16)) 34 (some q17)), aI g q1 6 (fun _ => 0), aI g q2 6 (fun _ => 0), aI g q3 6 (fun _ => 0), aI g q4 6 (fun _ => 0), aI g q5 24 (fun _ => 0), aI g q6 24 (fun _ => 0), aI g q7 24 (fun _ => 0), aI g q8 8 (fun _ => 0), aI g q9 8 (fun _ => 0), aI g q10 8 (fun _ => 0), aI g q11 120 (lf L_X8_0 120), aB g q12 160 (fun _ => 0), aI g q13 1190 (fun _ => 0), aI g q14 1190 (fun _ => 0), aI g q15 21 (fun _ => 0), aI g q16 170 (fun _ => 0), aI g q17 6 (fun _ => 0), aI g q18 53 (lf L_X8_1 4)] := hG
  refine lv_dup hx hb dX8_init_784 rfl ?_
  refine lv_iconst (v := 4) hx hb dX8_init_785 (by decide) ?_
  refine lv_bipush (v := 97) hx hb dX8_init_786 (by decide) ?_
  refine r_ilf X hG 18 rfl (by decide) (by decide) (by decide) (by decide +kernel) dX8_init_788 (fun H locs hG => ?_)
  have hG : GM g A s.heap H locs [oX8 g o (va_up (va_up (va_up (va_up (fun _ => 0) 15 90) 16 (-1)) 18 (-1)) 21 1) (va_up (va_up (va_up (va_up (va_up (va_up (va_up (va_up (va_up (va_up (va_up (va_up (va_up (va_up (va_up (va_up (va_up (fun _ => none) 2 (some q1)) 3 (some q2)) 4 (some q3)) 5 (some q4)) 7 (some q5)) 8 (some q6)) 9 (some q7)) 11 (some q8)) 12 (some q9)) 13 (some q10)) 14 (some q11)) 19 (some q12)) 23 (some q13)) 24 (some q14)) 25 (some q15)) 33 (some q16)) 34 (some q17)), aI g q1 6 (fun _ => 0), aI g q2 6 (fun _ => 0), aI g q3 6 (fun _ => 0), aI g q4 6 (fun _ => 0), aI g q5 24 (fun _ => 0), aI g q6 24 (fun _ => 0), aI g q7 24 (fun _ => 0), aI g q8 8 (fun _ => 0), aI g q9 8 (fun _ => 0), aI g q10 8 (fun _ => 0), aI g q11 120 (lf L_X8_0 120), aB g q12 160 (fun _ => 0), aI g q13 1190 (fun _ => 0), aI g q14 1190 (fun _ => 0), aI g q15 21 (fun _ => 0), aI g q16 170 (fun _ => 0), aI g q17 6 (fun _ => 0), aI g q18 53 (lf L_X8_1 5)] := hG
  refine lv_dup hx hb dX8_init_789 rfl ?_
  refine lv_iconst (v := 5) hx hb dX8_init_790 (by decide) ?_
  refine lv_bipush (v := 105) hx hb dX8_init_791 (by decide) ?_
  refine r_ilf X hG 18 rfl (by decide) (by decide) (by decide) (by decide +kernel) dX8_init_793 (fun H locs hG => ?_)
  have hG : GM g A s.heap H locs [oX8 g o (va_up (va_up (va_up (va_up (fun _ => 0) 15 90) 16 (-1)) 18 (-1)) 21 1) (va_up (va_up (va_up (va_up (va_up (va_up (va_up (va_up (va_up (va_up (va_up (va_up (va_up (va_up (va_up (va_up (va_up (fun _ => none) 2 (some q1)) 3 (some q2)) 4 (some q3)) 5 (some q4)) 7 (some q5)) 8 (some q6)) 9 (some q7)) 11 (some q8)) 12 (some q9)) 13 (some q10)) 14 (some q11)) 19 (some q12)) 23 (some q13)) 24 (some q14)) 25 (some q15)) 33 (some q16)) 34 (some q17)), aI g q1 6 (fun _ => 0), aI g q2 6 (fun _ => 0), aI g q3 6 (fun _ => 0), aI g q4 6 (fun _ => 0), aI g q5 24 (fun _ => 0), aI g q6 24 (fun _ => 0), aI g q7 24 (fun _ => 0), aI g q8 8 (fun _ => 0), aI g q9 8 (fun _ => 0), aI g q10 8 (fun _ => 0), aI g q11 120 (lf L_X8_0 120), aB g q12 160 (fun _ => 0), aI g q13 1190 (fun _ => 0), aI g q14 1190 (fun _ => 0), aI g q15 21 (fun _ => 0), aI g q16 170 (fun _ => 0), aI g q17 6 (fun _ => 0), aI g q18 53 (lf L_X8_1 6)] := hG
  refine lv_dup hx hb dX8_init_794 rfl ?_
  refine lv_bipush (v := 6) hx hb dX8_init_795 (by decide) ?_
  refine lv_bipush (v := 116) hx hb dX8_init_797 (by decide) ?_
  refine r_ilf X hG 18 rfl (by decide) (by decide) (by decide) (by decide +kernel) dX8_init_799 (fun H locs hG => ?_)
  have hG : GM g A s.heap H locs [oX8 g o (va_up (va_up (va_up (va_up (fun _ => 0) 15 90) 16 (-1)) 18 (-1)) 21 1) (va_up (va_up (va_up (va_up (va_up (va_up (va_up (va_up (va_up (va_up (va_up (va_up (va_up (va_up (va_up (va_up (va_up (fun _ => none) 2 (some q1)) 3 (some q2)) 4 (some q3)) 5 (some q4)) 7 (some q5)) 8 (some q6)) 9 (some q7)) 11 (some q8)) 12 (some q9)) 13 (some q10)) 14 (some q11)) 19 (some q12)) 23 (some q13)) 24 (some q14)) 25 (some q15)) 33 (some q16)) 34 (some q17)), aI g q1 6 (fun _ => 0), aI g q2 6 (fun _ => 0), aI g q3 6 (fun _ => 0), aI g q4 6 (fun _ => 0), aI g q5 24 (fun _ => 0), aI g q6 24 (fun _ => 0), aI g q7 24 (fun _ => 0), aI g q8 8 (fun _ => 0), aI g q9 8 (fun _ => 0), aI g q10 8 (fun _ => 0), aI g q11 120 (lf L_X8_0 120), aB g q12 160 (fun _ => 0), aI g q13 1190 (fun _ => 0), aI g q14 1190 (fun _ => 0), aI g q15 21 (fun _ => 0), aI g q16 170 (fun _ => 0), aI g q17 6 (fun _ => 0), aI g q18 53 (lf L_X8_1 7)] := hG
  refine lv_dup hx hb dX8_init_800 rfl ?_
  refine lv_bipush (v := 7) hx hb dX8_init_801 (by decide) ?_
  refine lv_bipush (v := 32) hx hb dX8_init_803 (by decide) ?_
  refine r_ilf X hG 18 rfl (by decide) (by decide) (by decide) (by decide +kernel) dX8_init_805 (fun H locs hG => ?_)
  have hG : GM g A s.heap H locs [oX8 g o (va_up (va_up (va_up (va_up (fun _ => 0) 15 90) 16 (-1)) 18 (-1)) 21 1) (va_up (va_up (va_up (va_up (va_up (va_up (va_up (va_up (va_up (va_up (va_up (va_up (va_up (va_up (va_up (va_up (va_up (fun _ => none) 2 (some q1)) 3 (some q2)) 4 (some q3)) 5 (some q4)) 7 (some q5)) 8 (some q6)) 9 (some q7)) 11 (some q8)) 12 (some q9)) 13 (some q10)) 14 (some q11)) 19 (some q12)) 23 (some q13)) 24 (some q14)) 25 (some q15)) 33 (some q16)) 34 (some q17)), aI g q1 6 (fun _ => 0), aI g q2 6 (fun _ => 0), aI g q3 6 (fun _ => 0), aI g q4 6 (fun _ => 0), aI g q5 24 (fun _ => 0), aI g q6 24 (fun _ => 0), aI g q7 24 (fun _ => 0), aI g q8 8 (fun _ => 0), aI g q9 8 (fun _ => 0), aI g q10 8 (fun _ => 0), aI g q11 120 (lf L_X8_0 120), aB g q12 160 (fun _ => 0), aI g q13 1190 (fun _ => 0), aI g q14 1190 (fun _ => 0), aI g q15 21 (fun _ => 0), aI g q16 170 (fun _ => 0), aI g q17 6 (fun _ => 0), aI g q18 53 (lf L_X8_1 8)] := hG
  refine lv_dup hx hb dX8_init_806 rfl ?_
  refine lv_bipush (v := 8) hx hb dX8_init_807 (by decide) ?_
  refine lv_bipush (v := 108) hx hb dX8_init_809 (by decide) ?_
  refine r_ilf X hG 18 rfl (by decide) (by decide) (by decide) (by decide +kernel) dX8_init_811 (fun H locs hG => ?_)
  have hG : GM g A s.heap H locs [oX8 g o (va_up (va_up (va_up (va_up (fun _ => 0) 15 90) 16 (-1)) 18 (-1)) 21 1) (va_up (va_up (va_up (va_up (va_up (va_up (va_up (va_up (va_up (va_up (va_up (va_up (va_up (va_up (va_up (va_up (va_up (fun _ => none) 2 (some q1)) 3 (some q2)) 4 (some q3)) 5 (some q4)) 7 (some q5)) 8 (some q6)) 9 (some q7)) 11 (some q8)) 12 (some q9)) 13 (some q10)) 14 (some q11)) 19 (some q12)) 23 (some q13)) 24 (some q14)) 25 (some q15)) 33 (some q16)) 34 (some q17)), aI g q1 6 (fun _ => 0), aI g q2 6 (fun _ => 0), aI g q3 6 (fun _ => 0), aI g q4 6 (fun _ => 0), aI g q5 24 (fun _ => 0), aI g q6 24 (fun _ => 0), aI g q7 24 (fun _ => 0), aI g q8 8 (fun _ => 0), aI g q9 8 (fun _ => 0), aI g q10 8 (fun _ => 0), aI g q11 120 (lf L_X8_0 120), aB g q12 160 (fun _ => 0), aI g q13 1190 (fun _ => 0), aI g q14 1190 (fun _ => 0), aI g q15 21 (fun _ => 0), aI g q16 170 (fun _ => 0), aI g q17 6 (fun _ => 0), aI g q18 53 (lf L_X8_1 9)] := hG
  refine lv_dup hx hb dX8_init_812 rfl ?_
  refine lv_bipush (v := 9) hx hb dX8_init_813 (by decide) ?_
  refine lv_bipush (v := 101) hx hb dX8_init_815 (by decide) ?_
  refine r_ilf X hG 18 rfl (by decide) (by decide) (by decide) (by decide +kernel) dX8_init_817 (fun H locs hG => ?_)
  have hG : GM g A s.heap H locs [oX8 g o (va_up (va_up (va_up (va_up (fun _ => 0) 15 90) 16 (-1)) 18 (-1)) 21 1) (va_up (va_up (va_up (va_up (va_up (va_up (va_up (va_up (va_up (va_up (va_up (va_up (va_up (va_up (va_up (va_up (va_up (fun _ => none) 2 (some q1)) 3 (some q2)) 4 (some q3)) 5 (some q4)) 7 (some q5)) 8 (some q6)) 9 (some q7)) 11 (some q8)) 12 (some q9)) 13 (some q10)) 14 (some q11)) 19 (some q12)) 23 (some q13)) 24 (some q14)) 25 (some q15)) 33 (some q16)) 34 (some q17)), aI g q1 6 (fun _ => 0), aI g q2 6 (fun _ => 0), aI g q3 6 (fun _ => 0), aI g q4 6 (fun _ => 0), aI g q5 24 (fun _ => 0), aI g q6 24 (fun _ => 0), aI g q7 24 (fun _ => 0), aI g q8 8 (fun _ => 0), aI g q9 8 (fun _ => 0), aI g q10 8 (fun _ => 0), aI g q11 120 (lf L_X8_0 120), aB g q12 160 (fun _ => 0), aI g q13 1190 (fun _ => 0), aI g q14 1190 (fun _ => 0), aI g q15 21 (fun _ => 0), aI g q16 170 (fun _ => 0), aI g q17 6 (fun _ => 0), aI g q18 53 (lf L_X8_1 10)] := hG
  refine lv_dup hx hb dX8_init_818 rfl ?_
  refine lv_bipush (v := 10) hx hb dX8_init_819 (by decide) ?_
  refine lv_bipush (v := 102) hx hb dX8_init_821 (by decide) ?_
  refine r_ilf X hG 18 rfl (by decide) (by decide) (by decide) (by decide +kernel) dX8_init_823 (fun H locs hG => ?_)
  have hG : GM g A s.heap H locs [oX8 g o (va_up (va_up (va_up (va_up (fun _ => 0) 15 90) 16 (-1)) 18 (-1)) 21 1) (va_up (va_up (va_up (va_up (va_up (va_up (va_up (va_up (va_up (va_up (va_up (va_up (va_up (va_up (va_up (va_up (va_up (fun _ => none) 2 (some q1)) 3 (some q2)) 4 (some q3)) 5 (some q4)) 7 (some q5)) 8 (some q6)) 9 (some q7)) 11 (some q8)) 12 (some q9)) 13 (some q10)) 14 (some q11)) 19 (some q12)) 23 (some q13)) 24 (some q14)) 25 (some q15)) 33 (some q16)) 34 (some q17)), aI g q1 6 (fun _ => 0), aI g q2 6 (fun _ => 0), aI g q3 6 (fun _ => 0), aI g q4 6 (fun _ => 0), aI g q5 24 (fun _ => 0), aI g q6 24 (fun _ => 0), aI g q7 24 (fun _ => 0), aI g q8 8 (fun _ => 0), aI g q9 8 (fun _ => 0), aI g q10 8 (fun _ => 0), aI g q11 120 (lf L_X8_0 120), aB g q12 160 (fun _ => 0), aI g q13 1190 (fun _ => 0), aI g q14 1190 (fun _ => 0), aI g q15 21 (fun _ => 0), aI g q16 170 (fun _ => 0), aI g q17 6 (fun _ => 0), aI g q18 53 (lf L_X8_1 11)] := hG
  refine lv_dup hx hb dX8_init_824 rfl ?_
  refine lv_bipush (v := 11) hx hb dX8_init_825 (by decide) ?_
  refine lv_bipush (v := 116) hx hb dX8_init_827 (by decide) ?_
  refine r_ilf X hG 18 rfl (by decide) (by decide) (by decide) (by decide +kernel) dX8_init_829 (fun H locs hG => ?_)
  have hG : GM g A s.heap H locs [oX8 g o (va_up (va_up (va_up (va_up (fun _ => 0) 15 90) 16 (-1)) 18 (-1)) 21 1) (va_up (va_up (va_up (va_up (va_up (va_up (va_up (va_up (va_up (va_up (va_up (va_up (va_up (va_up (va_up (va_up (va_up (fun _ => none) 2 (some q1)) 3 (some q2)) 4 (some q3)) 5 (some q4)) 7 (some q5)) 8 (some q6)) 9 (some q7)) 11 (some q8)) 12 (some q9)) 13 (some q10)) 14 (some q11)) 19 (some q12)) 23 (some q13)) 24 (some q14)) 25 (some q15)) 33 (some q16)) 34 (some q17)), aI g q1 6 (fun _ => 0), aI g q2 6 (fun _ => 0), aI g q3 6 (fun _ => 0), aI g q4 6 (fun _ => 0), aI g q5 24 (fun _ => 0), aI g q6 24 (fun _ => 0), aI g q7 24 (fun _ => 0), aI g q8 8 (fun _ => 0), aI g q9 8 (fun _ => 0), aI g q10 8 (fun _ => 0), aI g q11 120 (lf L_X8_0 120), aB g q12 160 (fun _ => 0), aI g q13 1190 (fun _ => 0), aI g q14 1190 (fun _ => 0), aI g q15 21 (fun _ => 0), aI g q16 170 (fun _ => 0), aI g q17 6 (fun _ => 0), aI g q18 53 (lf L_X8_1 12)] := hG
  refine lv_dup hx hb dX8_init_830 rfl ?_
  refine lv_bipush (v := 12) hx hb dX8_init_831 (by decide) ?_
  refine lv_bipush (v := 32) hx hb dX8_init_833 (by decide) ?_
  refine r_ilf X hG 18 rfl (by decide) (by decide) (by decide) (by decide +kernel) dX8_init_835 (fun H locs hG => ?_)
  have hG : GM g A s.heap H locs [oX8 g o (va_up (va_up (va_up (va_up (fun _ => 0) 15 90) 16 (-1)) 18 (-1)) 21 1) (va_up (va_up (va_up (va_up (va_up (va_up (va_up (va_up (va_up (va_up (va_up (va_up (va_up (va_up (va_up (va_up (va_up (fun _ => none) 2 (some q1)) 3 (some q2)) 4 (some q3)) 5 (some q4)) 7 (some q5)) 8 (some q6)) 9 (some q7)) 11 (some q8)) 12 (some q9)) 13 (some q10)) 14 (some q11)) 19 (some q12)) 23 (some q13)) 24 (some q14)) 25 (some q15)) 33 (some q16)) 34 (some q17)), aI g q1 6 (fun _ => 0), aI g q2 6 (fun _ => 0), aI g q3 6 (fun _ => 0), aI g q4 6 (fun _ => 0), aI g q5 24 (fun _ => 0), aI g q6 24 (fun _ => 0), aI g q7 24 (fun _ => 0), aI g q8 8 (fun _ => 0), aI g q9 8 (fun _ => 0), aI g q10 8 (fun _ => 0), aI g q11 120 (lf L_X8_0 120), aB g q12 160 (fun _ => 0), aI g q13 1190 (fun _ => 0), aI g q14 1190 (fun _ => 0), aI g q15 21 (fun _ => 0), aI g q16 170 (fun _ => 0), aI g q17 6 (fun _ => 0), aI g q18 53 (lf L_X8_1 13)] := hG
  refine lv_dup hx hb dX8_init_836 rfl ?_
  refine lv_bipush (v := 13) hx hb dX8_init_837 (by decide) ?_
  refine lv_bipush (v := 112) hx hb dX8_init_839 (by decide) ?_
  refine r_ilf X hG 18 rfl (by decide) (by decide) (by decide) (by decide +kernel) dX8_init_841 (fun H locs hG => ?_)
  have hG : GM g A s.heap H locs [oX8 g o (va_up (va_up (va_up (va_up (fun _ => 0) 15 90) 16 (-1)) 18 (-1)) 21 1) (va_up (va_up (va_up (va_up (va_up (va_up (va_up (va_up (va_up (va_up (va_up (va_up (va_up (va_up (va_up (va_up (va_up (fun _ => none) 2 (some q1)) 3 (some q2)) 4 (some q3)) 5 (some q4)) 7 (some q5)) 8 (some q6)) 9 (some q7)) 11 (some q8)) 12 (some q9)) 13 (some q10)) 14 (some q11)) 19 (some q12)) 23 (some q13)) 24 (some q14)) 25 (some q15)) 33 (some q16)) 34 (some q17)), aI g q1 6 (fun _ => 0), aI g q2 6 (fun _ => 0), aI g q3 6 (fun _ => 0), aI g q4 6 (fun _ => 0), aI g q5 24 (fun _ => 0), aI g q6 24 (fun _ => 0), aI g q7 24 (fun _ => 0), aI g q8 8 (fun _ => 0), aI g q9 8 (fun _ => 0), aI g q10 8 (fun _ => 0), aI g q11 120 (lf L_X8_0 120), aB g q12 160 (fun _ => 0), aI g q13 1190 (fun _ => 0), aI g q14 1190 (fun _ => 0), aI g q15 21 (fun _ => 0), aI g q16 170 (fun _ => 0), aI g q17 6 (fun _ => 0), aI g q18 53 (lf L_X8_1 14)] := hG
  refine lv_dup hx hb dX8_init_842 rfl ?_
  refine lv_bipush (v := 14) hx hb dX8_init_843 (by decide) ?_
  refine lv_bipush (v := 114) hx hb dX8_init_845 (by decide) ?_
  refine r_ilf X hG 18 rfl (by decide) (by decide) (by decide) (by decide +kernel) dX8_init_847 (fun H locs hG => ?_)
  have hG : GM g A s.heap H locs [oX8 g o (va_up (va_up (va_up (va_up (fun _ => 0) 15 90) 16 (-1)) 18 (-1)) 21 1) (va_up (va_up (va_up (va_up (va_up (va_up (va_up (va_up (va_up (va_up (va_up (va_up (va_up (va_up (va_up (va_up (va_up (fun _ => none) 2 (some q1)) 3 (some q2)) 4 (some q3)) 5 (some q4)) 7 (some q5)) 8 (some q6)) 9 (some q7)) 11 (some q8)) 12 (some q9)) 13 (some q10)) 14 (some q11)) 19 (some q12)) 23 (some q13)) 24 (some q14)) 25 (some q15)) 33 (some q16)) 34 (some q17)), aI g q1 6 (fun _ => 0), aI g q2 6 (fun _ => 0), aI g q3 6 (fun _ => 0), aI g q4 6 (fun _ => 0), aI g q5 24 (fun _ => 0), aI g q6 24 (fun _ => 0), aI g q7 24 (fun _ => 0), aI g q8 8 (fun _ => 0), aI g q9 8 (fun _ => 0), aI g q10 8 (fun _ => 0), aI g q11 120 (lf L_X8_0 120), aB g q12 160 (fun _ => 0), aI g q13 1190 (fun _ => 0), aI g q14 1190 (fun _ => 0), aI g q15 21 (fun _ => 0), aI g q16 170 (fun _ => 0), aI g q17 6 (fun _ => 0), aI g q18 53 (lf L_X8_1 15)] := hG
  refine lv_dup hx hb dX8_init_848 rfl ?_
  refine lv_bipush (v := 15) hx hb dX8_init_849 (by decide) ?_
  refine lv_bipush (v := 105) hx hb dX8_init_851 (by decide) ?_
  refine r_ilf X hG 18 rfl (by decide) (by decide) (by decide) (by decide +kernel) dX8_init_853 (fun H locs hG => ?_)
  have hG : GM g A s.heap H locs [oX8 g o (va_up (va_up (va_up (va_up (fun _ => 0) 15 90) 16 (-1)) 18 (-1)) 21 1) (va_up (va_up (va_up (va_up (va_up (va_up (va_up (va_up (va_up (va_up (va_up (va_up (va_up (va_up (va_up (va_up (va_up (fun _ => none) 2 (some q1)) 3 (some q2)) 4 (some q3)) 5 (some q4)) 7 (some q5)) 8 (some q6)) 9 (some q7)) 11 (some q8)) 12 (some q9)) 13 (some q10)) 14 (some q11)) 19 (some q12)) 23 (some q13)) 24 (some q14)) 25 (some q15)) 33 (some q16)) 34 (some q17)), aI g q1 6 (fun _ => 0), aI g q2 6 (fun _ => 0), aI g q3 6 (fun _ => 0), aI g q4 6 (fun _ => 0), aI g q5 24 (fun _ => 0), aI g q6 24 (fun _ => 0), aI g q7 24 (fun _ => 0), aI g q8 8 (fun _ => 0), aI g q9 8 (fun _ => 0), aI g q10 8 (fun _ => 0), aI g q11 120 (lf L_X8_0 120), aB g q12 160 (fun _ => 0), aI g q13 1190 (fun _ => 0), aI g q14 1190 (fun _ => 0), aI g q15 21 (fun _ => 0), aI g q16 170 (fun _ => 0), aI g q17 6 (fun _ => 0), aI g q18 53 (lf L_X8_1 16)] := hG
  refine lv_dup hx hb dX8_init_854 rfl ?_
  refine lv_bipush (v := 16) hx hb dX8_init_855 (by decide) ?_
  refine lv_bipush (v := 99) hx hb dX8_init_857 (by decide) ?_
  refine r_ilf X hG 18 rfl (by decide) (by decide) (by decide) (by decide +kernel) dX8_init_859 (fun H locs hG => ?_)
  have hG : GM g A s.heap H locs [oX8 g o (va_up (va_up (va_up (va_up (fun _ => 0) 15 90) 16 (-1)) 18 (-1)) 21 1) (va_up (va_up (va_up (va_up (va_up (va_up (va_up (va_up (va_up (va_up (va_up (va_up (va_up (va_up (va_up (va_up (va_up (fun _ => none) 2 (some q1)) 3 (some q2)) 4 (some q3)) 5 (some q4)) 7 (some q5)) 8 (some q6)) 9 (some q7)) 11 (some q8)) 12 (some q9)) 13 (some q10)) 14 (some q11)) 19 (some q12)) 23 (some q13)) 24 (some q14)) 25 (some q15)) 33 (some q16)) 34 (some q17)), aI g q1 6 (fun _ => 0), aI g q2 6 (fun _ => 0), aI g q3 6 (fun _ => 0), aI g q4 6 (fun _ => 0), aI g q5 24 (fun _ => 0), aI g q6 24 (fun _ => 0), aI g q7 24 (fun _ => 0), aI g q8 8 (fun _ => 0), aI g q9 8 (fun _ => 0), aI g q10 8 (fun _ => 0), aI g q11 120 (lf L_X8_0 120), aB g q12 160 (fun _ => 0), aI g q13 1190 (fun _ => 0), aI g q14 1190 (fun _ => 0), aI g q15 21 (fun _ => 0), aI g q16 170 (fun _ => 0), aI g q17 6 (fun _ => 0), aI g q18 53 (lf L_X8_1 17)] := hG
  refine lv_dup hx hb dX8_init_860 rfl ?_
  refine lv_bipush (v := 17) hx hb dX8_init_861 (by decide) ?_
  refine lv_bipush (v := 101) hx hb dX8_init_863 (by decide) ?_
  refine r_ilf X hG 18 rfl (by decide) (by decide) (by decide) (by decide +kernel) dX8_init_865 (fun H locs hG => ?_)
  have hG : GM g A s.heap H locs [oX8 g o (va_up (va_up (va_up (va_up (fun _ => 0) 15 90) 16 (-1)) 18 (-1)) 21 1) (va_up (va_up (va_up (va_up (va_up (va_up (va_up (va_up (va_up (va_up (va_up (va_up (va_up (va_up (va_up (va_up (va_up (fun _ => none) 2 (some q1)) 3 (some q2)) 4 (some q3)) 5 (some q4)) 7 (some q5)) 8 (some q6)) 9 (some q7)) 11 (some q8)) 12 (some q9)) 13 (some q10)) 14 (some q11)) 19 (some q12)) 23 (some q13)) 24 (some q14)) 25 (some q15)) 33 (some q16)) 34 (some q17)), aI g q1 6 (fun _ => 0), aI g q2 6 (fun _ => 0), aI g q3 6 (fun _ => 0), aI g q4 6 (fun _ => 0), aI g q5 24 (fun _ => 0), aI g q6 24 (fun _ => 0), aI g q7 24 (fun _ => 0), aI g q8 8 (fun _ => 0), aI g q9 8 (fun _ => 0), aI g q10 8 (fun _ => 0), aI g q11 120 (lf L_X8_0 120), aB g q12 160 (fun _ => 0), aI g q13 1190 (fun _ => 0), aI g q14 1190 (fun _ => 0), aI g q15 21 (fun _ => 0), aI g q16 170 (fun _ => 0), aI g q17 6 (fun _ => 0), aI g q18 53 (lf L_X8_1 18)] := hG
  refine lv_dup hx hb dX8_init_866 rfl ?_
  refine lv_bipush (v := 18) hx hb dX8_init_867 (by decide) ?_
  refine lv_bipush (v := 32) hx hb dX8_init_869 (by decide) ?_
  refine r_ilf X hG 18 rfl (by decide) (by decide) (by decide) (by decide +kernel) dX8_init_871 (fun H locs hG => ?_)
  have hG : GM g A s.heap H locs [oX8 g o (va_up (va_up (va_up (va_up (fun _ => 0) 15 90) 16 (-1)) 18 (-1)) 21 1) (va_up (va_up (va_up (va_up (va_up (va_up (va_up (va_up (va_up (va_up (va_up (va_up (va_up (va_up (va_up (va_up (va_up (fun _ => none) 2 (some q1)) 3 (some q2)) 4 (some q3)) 5 (some q4)) 7 (some q5)) 8 (some q6)) 9 (some q7)) 11 (some q8)) 12 (some q9)) 13 (some q10)) 14 (some q11)) 19 (some q12)) 23 (some q13)) 24 (some q14)) 25 (some q15)) 33 (some q16)) 34 (some q17)), aI g q1 6 (fun _ => 0), aI g q2 6 (fun _ => 0), aI g q3 6 (fun _ => 0), aI g q4 6 (fun _ => 0), aI g q5 24 (fun _ => 0), aI g q6 24 (fun _ => 0), aI g q7 24 (fun _ => 0), aI g q8 8 (fun _ => 0), aI g q9 8 (fun _ => 0), aI g q10 8 (fun _ => 0), aI g q11 120 (lf L_X8_0 120), aB g q12 160 (fun _ => 0), aI g q13 1190 (fun _ => 0), aI g q14 1190 (fun _ => 0), aI g q15 21 (fun _ => 0), aI g q16 170 (fun _ => 0), aI g q17 6 (fun _ => 0), aI g q18 53 (lf L_X8_1 19)] := hG
  refine lv_dup hx hb dX8_init_872 rfl ?_
  refine lv_bipush (v := 19) hx hb dX8_init_873 (by decide) ?_
  refine lv_bipush (v := 104) hx hb dX8_init_875 (by decide) ?_
  refine r_ilf X hG 18 rfl (by decide) (by decide) (by decide) (by decide +kernel) dX8_init_877 (fun H locs hG => ?_)
  have hG : GM g A s.heap H locs [oX8 g o (va_up (va_up (va_up (va_up (fun _ => 0) 15 90) 16 (-1)) 18 (-1)) 21 1) (va_up (va_up (va_up (va_up (va_up (va_up (va_up (va_up (va_up (va_up (va_up (va_up (va_up (va_up (va_up (va_up (va_up (fun _ => none) 2 (some q1)) 3 (some q2)) 4 (some q3)) 5 (some q4)) 7 (some q5)) 8 (some q6)) 9 (some q7)) 11 (some q8)) 12 (some q9)) 13 (some q10)) 14 (some q11)) 19 (some q12)) 23 (some q13)) 24 (some q14)) 25 (some q15)) 33 (some q16)) 34 (some q17)), aI g q1 6 (fun _ => 0), aI g q2 6 (fun _ => 0), aI g q3 6 (fun _ => 0), aI g q4 6 (fun _ => 0), aI g q5 24 (fun _ => 0), aI g q6 24 (fun _ => 0), aI g q7 24 (fun _ => 0), aI g q8 8 (fun _ => 0), aI g q9 8 (fun _ => 0), aI g q10 8 (fun _ => 0), aI g q11 120 (lf L_X8_0 120), aB g q12 160 (fun _ => 0), aI g q13 1190 (fun _ => 0), aI g q14 1190 (fun _ => 0), aI g q15 21 (fun _ => 0), aI g q16 170 (fun _ => 0), aI g q17 6 (fun _ => 0), aI g q18 53 (lf L_X8_1 20)] := hG
  refine lv_dup hx hb dX8_init_878 rfl ?_
  refine lv_bipush (v := 20) hx hb dX8_init_879 (by decide) ?_
  refine lv_bipush (v := 101) hx hb dX8_init_881 (by decide) ?_
  refine r_ilf X hG 18 rfl (by decide) (by decide) (by decide) (by decide +kernel) dX8_init_883 (fun H locs hG => ?_)
  have hG : GM g A s.heap H locs [oX8 g o (va_up (va_up (va_up (va_up (fun _ => 0) 15 90) 16 (-1)) 18 (-1)) 21 1) (va_up (va_up (va_up (va_up (va_up (va_up (va_up (va_up (va_up (va_up (va_up (va_up (va_up (va_up (va_up (va_up (va_up (fun _ => none) 2 (some q1)) 3 (some q2)) 4 (some q3)) 5 (some q4)) 7 (some q5)) 8 (some q6)) 9 (some q7)) 11 (some q8)) 12 (some q9)) 13 (some q10)) 14 (some q11)) 19 (some q12)) 23 (some q13)) 24 (some q14)) 25 (some q15)) 33 (some q16)) 34 (some q17)), aI g q1 6 (fun _ => 0), aI g q2 6 (fun _ => 0), aI g q3 6 (fun _ => 0), aI g q4 6 (fun _ => 0), aI g q5 24 (fun _ => 0), aI g q6 24 (fun _ => 0), aI g q7 24 (fun _ => 0), aI g q8 8 (fun _ => 0), aI g q9 8 (fun _ => 0), aI g q10 8 (fun _ => 0), aI g q11 120 (lf L_X8_0 120), aB g q12 160 (fun _ => 0), aI g q13 1190 (fun _ => 0), aI g q14 1190 (fun _ => 0), aI g q15 21 (fun _ => 0), aI g q16 170 (fun _ => 0), aI g q17 6 (fun _ => 0), aI g q18 53 (lf L_X8_1 21)] := hG
  refine lv_dup hx hb dX8_init_884 rfl ?_
  refine lv_bipush (v := 21) hx hb dX8_init_885 (by decide) ?_
  refine lv_bipush (v := 97) hx hb dX8_init_887 (by decide) ?_
  refine r_ilf X hG 18 rfl (by decide) (by decide) (by decide) (by decide +kernel) dX8_init_889 (fun H locs hG => ?_)
  have hG : GM g A s.heap H locs [oX8 g o (va_up (va_up (va_up (va_up (fun _ => 0) 15 90) 16 (-1)) 18 (-1)) 21 1) (va_up (va_up (va_up (va_up (va_up (va_up (va_up (va_up (va_up (va_up (va_up (va_up (va_up (va_up (va_up (va_up (va_up (fun _ => none) 2 (some q1)) 3 (some q2)) 4 (some q3)) 5 (some q4)) 7 (some q5)) 8 (some q6)) 9 (some q7)) 11 (some q8)) 12 (some q9)) 13 (some q10)) 14 (some q11)) 19 (some q12)) 23 (some q13)) 24 (some q14)) 25 (some q15)) 33 (some q16)) 34 (some q17)), aI g q1 6 (fun _ => 0), aI g q2 6 (fun _ => 0), aI g q3 6 (fun _ => 0), aI g q4 6 (fun _ => 0), aI g q5 24 (fun _ => 0), aI g q6 24 (fun _ => 0), aI g q7 24 (fun _ => 0), aI g q8 8 (fun _ => 0), aI g q9 8 (fun _ => 0), aI g q10 8 (fun _ => 0), aI g q11 120 (lf L_X8_0 120), aB g q12 160 (fun _ => 0), aI g q13 1190 (fun _ => 0), aI g q14 1190 (fun _ => 0), aI g q15 21 (fun _ => 0), aI g q16 170 (fun _ => 0), aI g q17 6 (fun _ => 0), aI g q18 53 (lf L_X8_1 22)] := hG
  refine lv_dup hx hb dX8_init_890 rfl ?_
  refine lv_bipush (v := 22) hx hb dX8_init_891 (by decide) ?_
  refine lv_bipush (v := 114) hx hb dX8_init_893 (by decide) ?_
  refine r_ilf X hG 18 rfl (by decide) (by decide) (by decide) (by decide +kernel) dX8_init_895 (fun H locs hG => ?_)
  have hG : GM g A s.heap H locs [oX8 g o (va_up (va_up (va_up (va_up (fun _ => 0) 15 90) 16 (-1)) 18 (-1)) 21 1) (va_up (va_up (va_up (va_up (va_up (va_up (va_up (va_up (va_up (va_up (va_up (va_up (va_up (va_up (va_up (va_up (va_up (fun _ => none) 2 (some q1)) 3 (some q2)) 4 (some q3)) 5 (some q4)) 7 (some q5)) 8 (some q6)) 9 (some q7)) 11 (some q8)) 12 (some q9)) 13 (some q10)) 14 (some q11)) 19 (some q12)) 23 (some q13)) 24 (some q14)) 25 (some q15)) 33 (some q16)) 34 (some q17)), aI g q1 6 (fun _ => 0), aI g q2 6 (fun _ => 0), aI g q3 6 (fun _ => 0), aI g q4 6 (fun _ => 0), aI g q5 24 (fun _ => 0), aI g q6 24 (fun _ => 0), aI g q7 24 (fun _ => 0), aI g q8 8 (fun _ => 0), aI g q9 8 (fun _ => 0), aI g q10 8 (fun _ => 0), aI g q11 120 (lf L_X8_0 120), aB g q12 160 (fun _ => 0), aI g q13 1190 (fun _ => 0), aI g q14 1190 (fun _ => 0), aI g q15 21 (fun _ => 0), aI g q16 170 (fun _ => 0), aI g q17 6 (fun _ => 0), aI g q18 53 (lf L_X8_1 23)] := hG
  refine lv_dup hx hb dX8_init_896 rfl ?_
  refine lv_bipush (v := 23) hx hb dX8_init_897 (by decide) ?_
  refine lv_bipush (v := 100) hx hb dX8_init_899 (by decide) ?_
  refine r_ilf X hG 18 rfl (by decide) (by decide) (by decide) (by decide +kernel) dX8_init_901 (fun H locs hG => ?_)
  have hG : GM g A s.heap H locs [oX8 g o (va_up (va_up (va_up (va_up (fun _ => 0) 15 90) 16 (-1)) 18 (-1)) 21 1) (va_up (va_up (va_up (va_up (va_up (va_up (va_up (va_up (va_up (va_up (va_up (va_up (va_up (va_up (va_up (va_up (va_up (fun _ => none) 2 (some q1)) 3 (some q2)) 4 (some q3)) 5 (some q4)) 7 (some q5)) 8 (some q6)) 9 (some q7)) 11 (some q8)) 12 (some q9)) 13 (some q10)) 14 (some q11)) 19 (some q12)) 23 (some q13)) 24 (some q14)) 25 (some q15)) 33 (some q16)) 34 (some q17)), aI g q1 6 (fun _ => 0), aI g q2 6 (fun _ => 0), aI g q3 6 (fun _ => 0), aI g q4 6 (fun _ => 0), aI g q5 24 (fun _ => 0), aI g q6 24 (fun _ => 0), aI g q7 24 (fun _ => 0), aI g q8 8 (fun _ => 0), aI g q9 8 (fun _ => 0), aI g q10 8 (fun _ => 0), aI g q11 120 (lf L_X8_0 120), aB g q12 160 (fun _ => 0), aI g q13 1190 (fun _ => 0), aI g q14 1190 (fun _ => 0), aI g q15 21 (fun _ => 0), aI g q16 170 (fun _ => 0), aI g q17 6 (fun _ => 0), aI g q18 53 (lf L_X8_1 24)] := hG
  refine lv_dup hx hb dX8_init_902 rfl ?_
  refine lv_bipush (v := 24) hx hb dX8_init_903 (by decide) ?_
  refine lv_bipush (v := 32) hx hb dX8_init_905 (by decide) ?_
  refine r_ilf X hG 18 rfl (by decide) (by decide) (by decide) (by decide +kernel) dX8_init_907 (fun H locs hG => ?_)
  have hG : GM g A s.heap H locs [oX8 g o (va_up (va_up (va_up (va_up (fun _ => 0) 15 90) 16 (-1)) 18 (-1)) 21 1) (va_up (va_up (va_up (va_up (va_up (va_up (va_up (va_up (va_up (va_up (va_up (va_up (va_up (va_up (va_up (va_up (va_up (fun _ => none) 2 (some q1)) 3 (some q2)) 4 (some q3)) 5 (some q4)) 7 (some q5)) 8 (some q6)) 9 (some q7)) 11 (some q8)) 12 (some q9)) 13 (some q10)) 14 (some q11)) 19 (some q12)) 23 (some q13)) 24 (some q14)) 25 (some q15)) 33 (some q16)) 34 (some q17)), aI g q1 6 (fun _ => 0), aI g q2 6 (fun _ => 0), aI g q3 6 (fun _ => 0), aI g q4 6 (fun _ => 0), aI g q5 24 (fun _ => 0), aI g q6 24 (fun _ => 0), aI g q7 24 (fun _ => 0), aI g q8 8 (fun _ => 0), aI g q9 8 (fun _ => 0), aI g q10 8 (fun _ => 0), aI g q11 120 (lf L_X8_0 120), aB g q12 160 (fun _ => 0), aI g q13 1190 (fun _ => 0), aI g q14 1190 (fun _ => 0), aI g q15 21 (fun _ => 0), aI g q16 170 (fun _ => 0), aI g q17 6 (fun _ => 0), aI g q18 53 (lf L_X8_1 25)] := hG
  refine lv_dup hx hb dX8_init_908 rfl ?_
  refine lv_bipush (v := 25) hx hb dX8_init_909 (by decide) ?_
  refine lv_bipush (v := 115) hx hb dX8_init_911 (by decide) ?_
  refine r_ilf X hG 18 rfl (by decide) (by decide) (by decide) (by decide +kernel) dX8_init_913 (fun H locs hG => ?_)
  have hG : GM g A s.heap H locs [oX8 g o (va_up (va_up (va_up (va_up (fun _ => 0) 15 90) 16 (-1)) 18 (-1)) 21 1) (va_up (va_up (va_up (va_up (va_up (va_up (va_up (va_up (va_up (va_up (va_up (va_up (va_up (va_up (va_up (va_up (va_up (fun _ => none) 2 (some q1)) 3 (some q2)) 4 (some q3)) 5 (some q4)) 7 (some q5)) 8 (some q6)) 9 (some q7)) 11 (some q8)) 12 (some q9)) 13 (some q10)) 14 (some q11)) 19 (some q12)) 23 (some q13)) 24 (some q14)) 25 (some q15)) 33 (some q16)) 34 (some q17)), aI g q1 6 (fun _ => 0), aI g q2 6 (fun _ => 0), aI g q3 6 (fun _ => 0), aI g q4 6 (fun _ => 0), aI g q5 24 (fun _ => 0), aI g q6 24 (fun _ => 0), aI g q7 24 (fun _ => 0), aI g q8 8 (fun _ => 0), aI g q9 8 (fun _ => 0), aI g q10 8 (fun _ => 0), aI g q11 120 (lf L_X8_0 120), aB g q12 160 (fun _ => 0), aI g q13 1190 (fun _ => 0), aI g q14 1190 (fun _ => 0), aI g q15 21 (fun _ => 0), aI g q16 170 (fun _ => 0), aI g q17 6 (fun _ => 0), aI g q18 53 (lf L_X8_1 26)] := hG
  refine lv_dup hx hb dX8_init_914 rfl ?_
  refine lv_bipush (v := 26) hx hb dX8_init_915 (by decide) ?_
  refine lv_bipush (v := 117) hx hb dX8_init_917 (by decide) ?_
  refine r_ilf X hG 18 rfl (by decide) (by decide) (by decide) (by decide +kernel) dX8_init_919 (fun H locs hG => ?_)
  have hG : GM g A s.heap H locs [oX8 g o (va_up (va_up (va_up (va_up (fun _ => 0) 15 90) 16 (-1)) 18 (-1)) 21 1) (va_up (va_up (va_up (va_up (va_up (va_up (va_up (va_up (va_up (va_up (va_up (va_up (va_up (va_up (va_up (va_up (va_up (fun _ => none) 2 (some q1)) 3 (some q2)) 4 (some q3)) 5 (some q4)) 7 (some q5)) 8 (some q6)) 9 (some q7)) 11 (some q8)) 12 (some q9)) 13 (some q10)) 14 (some q11)) 19 (some q12)) 23 (some q13)) 24 (some q14)) 25 (some q15)) 33 (some q16)) 34 (some q17)), aI g q1 6 (fun _ => 0), aI g q2 6 (fun _ => 0), aI g q3 6 (fun _ => 0), aI g q4 6 (fun _ => 0), aI g q5 24 (fun _ => 0), aI g q6 24 (fun _ => 0), aI g q7 24 (fun _ => 0), aI g q8 8 (fun _ => 0), aI g q9 8 (fun _ => 0), aI g q10 8 (fun _ => 0), aI g q11 120 (lf L_X8_0 120), aB g q12 160 (fun _ => 0), aI g q13 1190 (fun _ => 0), aI g q14 1190 (fun _ => 0), aI g q15 21 (fun _ => 0), aI g q16 170 (fun _ => 0), aI g q17 6 (fun _ => 0), aI g q18 53 (lf L_X8_1 27)] := hG
  refine lv_dup hx hb dX8_init_920 rfl ?_
  refine lv_bipush (v := 27) hx hb dX8_init_921 (by decide) ?_
  refine lv_bipush (v := 110) hx hb dX8_init_923 (by decide) ?_
  refine r_ilf X hG 18 rfl (by decide) (by decide) (by decide) (by decide +kernel) dX8_init_925 (fun H locs hG => ?_)
  have hG : GM g A s.heap H locs [oX8 g o (va_up (va_up (va_up (va_up (fun _ => 0) 15 90) 16 (-1)) 18 (-1)) 21 1) (va_up (va_up (va_up (va_up (va_up (va_up (va_up (va_up (va_up (va_up (va_up (va_up (va_up (va_up (va_up (va_up (va_up (fun _ => none) 2 (some q1)) 3 (some q2)) 4 (some q3)) 5 (some q4)) 7 (some q5)) 8 (some q6)) 9 (some q7)) 11 (some q8)) 12 (some q9)) 13 (some q10)) 14 (some q11)) 19 (some q12)) 23 (some q13)) 24 (some q14)) 25 (some q15)) 33 (some q16)) 34 (some q17)), aI g q1 6 (fun _ => 0), aI g q2 6 (fun _ => 0), aI g q3 6 (fun _ => 0), aI g q4 6 (fun _ => 0), aI g q5 24 (fun _ => 0), aI g q6 24 (fun _ => 0), aI g q7 24 (fun _ => 0), aI g q8 8 (fun _ => 0), aI g q9 8 (fun _ => 0), aI g q10 8 (fun _ => 0), aI g q11 120 (lf L_X8_0 120), aB g q12 160 (fun _ => 0), aI g q13 1190 (fun _ => 0), aI g q14 1190 (fun _ => 0), aI g q15 21 (fun _ => 0), aI g q16 170 (fun _ => 0), aI g q17 6 (fun _ => 0), aI g q18 53 (lf L_X8_1 28)] := hG
  refine lv_dup hx hb dX8_init_926 rfl ?_
  refine lv_bipush (v := 28) hx hb dX8_init_927 (by decide) ?_
  refine lv_bipush (v := 32) hx hb dX8_init_929 (by decide) ?_
  refine r_ilf X hG 18 rfl (by decide) (by decide) (by decide) (by decide +kernel) dX8_init_931 (fun H locs hG => ?_)
  have hG : GM g A s.heap H locs [oX8 g o (va_up (va_up (va_up (va_up (fun _ => 0) 15 90) 16 (-1)) 18 (-1)) 21 1) (va_up (va_up (va_up (va_up (va_up (va_up (va_up (va_up (va_up (va_up (va_up (va_up (va_up (va_up (va_up (va_up (va_up (fun _ => none) 2 (some q1)) 3 (some q2)) 4 (some q3)) 5 (some q4)) 7 (some q5)) 8 (some q6)) 9 (some q7)) 11 (some q8)) 12 (some q9)) 13 (some q10)) 14 (some q11)) 19 (some q12)) 23 (some q13)) 24 (some q14)) 25 (some q15)) 33 (some q16)) 34 (some q17)), aI g q1 6 (fun _ => 0), aI g q2 6 (fun _ => 0), aI g q3 6 (fun _ => 0), aI g q4 6 (fun _ => 0), aI g q5 24 (fun _ => 0), aI g q6 24 (fun _ => 0), aI g q7 24 (fun _ => 0), aI g q8 8 (fun _ => 0), aI g q9 8 (fun _ => 0), aI g q10 8 (fun _ => 0), aI g q11 120 (lf L_X8_0 120), aB g q12 160 (fun _ => 0), aI g q13 1190 (fun _ => 0), aI g q14 1190 (fun _ => 0), aI g q15 21 (fun _ => 0), aI g q16 170 (fun _ => 0), aI g q17 6 (fun _ => 0), aI g q18 53 (lf L_X8_1 29)] := hG
  refine lv_dup hx hb dX8_init_932 rfl ?_
  refine lv_bipush (v := 29) hx hb dX8_init_933 (by decide) ?_
  refine lv_bipush (v := 103) hx hb dX8_init_935 (by decide) ?_
  refine r_ilf X hG 18 rfl (by decide) (by decide) (by decide) (by decide +kernel) dX8_init_937 (fun H locs hG => ?_)
  have hG : GM g A s.heap H locs [oX8 g o (va_up (va_up (va_up (va_up (fun _ => 0) 15 90) 16 (-1)) 18 (-1)) 21 1) (va_up (va_up (va_up (va_up (va_up (va_up (va_up (va_up (va_up (va_up (va_up (va_up (va_up (va_up (va_up (va_up (va_up (fun _ => none) 2 (some q1)) 3 (some q2)) 4 (some q3)) 5 (some q4)) 7 (some q5)) 8 (some q6)) 9 (some q7)) 11 (some q8)) 12 (some q9)) 13 (some q10)) 14 (some q11)) 19 (some q12)) 23 (some q13)) 24 (some q14)) 25 (some q15)) 33 (some q16)) 34 (some q17)), aI g q1 6 (fun _ => 0), aI g q2 6 (fun _ => 0), aI g q3 6 (fun _ => 0), aI g q4 6 (fun _ => 0), aI g q5 24 (fun _ => 0), aI g q6 24 (fun _ => 0), aI g q7 24 (fun _ => 0), aI g q8 8 (fun _ => 0), aI g q9 8 (fun _ => 0), aI g q10 8 (fun _ => 0), aI g q11 120 (lf L_X8_0 120), aB g q12 160 (fun _ => 0), aI g q13 1190 (fun _ => 0), aI g q14 1190 (fun _ => 0), aI g q15 21 (fun _ => 0), aI g q16 170 (fun _ => 0), aI g q17 6 (fun _ => 0), aI g q18 53 (lf L_X8_1 30)] := hG
  refine lv_dup hx hb dX8_init_938 rfl ?_
  refine lv_bipush (v := 30) hx hb dX8_init_939 (by decide) ?_
  refine lv_bipush (v := 111) hx hb dX8_init_941 (by decide) ?_
  refine r_ilf X hG 18 rfl (by decide) (by decide) (by decide) (by decide +kernel) dX8_init_943 (fun H locs hG => ?_)
  have hG : GM g A s.heap H locs [oX8 g o (va_up (va_up (va_up (va_up (fun _ => 0) 15 90) 16 (-1)) 18 (-1)) 21 1) (va_up (va_up (va_up (va_up (va_up (va_up (va_up (va_up (va_up (va_up (va_up (va_up (va_up (va_up (va_up (va_up (va_up (fun _ => none) 2 (some q1)) 3 (some q2)) 4 (some q3)) 5 (some q4)) 7 (some q5)) 8 (some q6)) 9 (some q7)) 11 (some q8)) 12 (some q9)) 13 (some q10)) 14 (some q11)) 19 (some q12)) 23 (some q13)) 24 (some q14)) 25 (some q15)) 33 (some q16)) 34 (some q17)), aI g q1 6 (fun _ => 0), aI g q2 6 (fun _ => 0), aI g q3 6 (fun _ => 0), aI g q4 6 (fun _ => 0), aI g q5 24 (fun _ => 0), aI g q6 24 (fun _ => 0), aI g q7 24 (fun _ => 0), aI g q8 8 (fun _ => 0), aI g q9 8 (fun _ => 0), aI g q10 8 (fun _ => 0), aI g q11 120 (lf L_X8_0 120), aB g q12 160 (fun _ => 0), aI g q13 1190 (fun _ => 0), aI g q14 1190 (fun _ => 0), aI g q15 21 (fun _ => 0), aI g q16 170 (fun _ => 0), aI g q17 6 (fun _ => 0), aI g q18 53 (lf L_X8_1 31)] := hG
  refine lv_dup hx hb dX8_init_944 rfl ?_
  refine lv_bipush (v := 31) hx hb dX8_init_945 (by decide) ?_
  refine lv_bipush (v := 32) hx hb dX8_init_947 (by decide) ?_
  refine r_ilf X hG 18 rfl (by decide) (by decide) (by decide) (by decide +kernel) dX8_init_949 (fun H locs hG => ?_)
  have hG : GM g A s.heap H locs [oX8 g o (va_up (va_up (va_up (va_up (fun _ => 0) 15 90) 16 (-1)) 18 (-1)) 21 1) (va_up (va_up (va_up (va_up (va_up (va_up (va_up (va_up (va_up (va_up (va_up (va_up (va_up (va_up (va_up (va_up (va_up (fun _ => none) 2 (some q1)) 3 (some q2)) 4 (some q3)) 5 (some q4)) 7 (some q5)) 8 (some q6)) 9 (some q7)) 11 (some q8)) 12 (some q9)) 13 (some q10)) 14 (some q11)) 19 (some q12)) 23 (some q13)) 24 (some q14)) 25 (some q15)) 33 (some q16)) 34 (some q17)), aI g q1 6 (fun _ => 0), aI g q2 6 (fun _ => 0), aI g q3 6 (fun _ => 0), aI g q4 6 (fun _ => 0), aI g q5 24 (fun _ => 0), aI g q6 24 (fun _ => 0), aI g q7 24 (fun _ => 0), aI g q8 8 (fun _ => 0), aI g q9 8 (fun _ => 0), aI g q10 8 (fun _ => 0), aI g q11 120 (lf L_X8_0 120), aB g q12 160 (fun _ => 0), aI g q13 1190 (fun _ => 0), aI g q14 1190 (fun _ => 0), aI g q15 21 (fun _ => 0), aI g q16 170 (fun _ => 0), aI g q17 6 (fun _ => 0), aI g q18 53 (lf L_X8_1 32)] := hG
  refine lv_dup hx hb dX8_init_950 rfl ?_
  refine lv_bipush (v := 32) hx hb dX8_init_951 (by decide) ?_
  refine lv_bipush (v := 114) hx hb dX8_init_953 (by decide) ?_
  refine r_ilf X hG 18 rfl (by decide) (by decide) (by decide) (by decide +kernel) dX8_init_955 (fun H locs hG => ?_)
  have hG : GM g A s.heap H locs [oX8 g o (va_up (va_up (va_up (va_up (fun _ => 0) 15 90) 16 (-1)) 18 (-1)) 21 1) (va_up (va_up (va_up (va_up (va_up (va_up (va_up (va_up (va_up (va_up (va_up (va_up (va_up (va_up (va_up (va_up (va_up (fun _ => none) 2 (some q1)) 3 (some q2)) 4 (some q3)) 5 (some q4)) 7 (some q5)) 8 (some q6)) 9 (some q7)) 11 (some q8)) 12 (some q9)) 13 (some q10)) 14 (some q11)) 19 (some q12)) 23 (some q13)) 24 (some q14)) 25 (some q15)) 33 (some q16)) 34 (some q17)), aI g q1 6 (fun _ => 0), aI g q2 6 (fun _ => 0), aI g q3 6 (fun _ => 0), aI g q4 6 (fun _ => 0), aI g q5 24 (fun _ => 0), aI g q6 24 (fun _ => 0), aI g q7 24 (fun _ => 0), aI g q8 8 (fun _ => 0), aI g q9 8 (fun _ => 0), aI g q10 8 (fun _ => 0), aI g q11 120 (lf L_X8_0 120), aB g q12 160 (fun _ => 0), aI g q13 1190 (fun _ => 0), aI g q14 1190 (fun _ => 0), aI g q15 21 (fun _ => 0), aI g q16 170 (fun _ => 0), aI g q17 6 (fun _ => 0), aI g q18 53 (lf L_X8_1 33)] := hG
  refine lv_dup hx hb dX8_init_956 rfl ?_
  refine lv_bipush (v := 33) hx hb dX8_init_957 (by decide) ?_
  refine lv_bipush (v := 117) hx hb dX8_init_959 (by decide) ?_
  refine r_ilf X hG 18 rfl (by decide) (by decide) (by decide) (by decide +kernel) dX8_init_961 (fun H locs hG => ?_)
  have hG : GM g A s.heap H locs [oX8 g o (va_up (va_up (va_up (va_up (fun _ => 0) 15 90) 16 (-1)) 18 (-1)) 21 1) (va_up (va_up (va_up (va_up (va_up (va_up (va_up (va_up (va_up (va_up (va_up (va_up (va_up (va_up (va_up (va_up (va_up (fun _ => none) 2 (some q1)) 3 (some q2)) 4 (some q3)) 5 (some q4)) 7 (some q5)) 8 (some q6)) 9 (some q7)) 11 (some q8)) 12 (some q9)) 13 (some q10)) 14 (some q11)) 19 (some q12)) 23 (some q13)) 24 (some q14)) 25 (some q15)) 33 (some q16)) 34 (some q17)), aI g q1 6 (fun _ => 0), aI g q2 6 (fun _ => 0), aI g q3 6 (fun _ => 0), aI g q4 6 (fun _ => 0), aI g q5 24 (fun _ => 0), aI g q6 24 (fun _ => 0), aI g q7 24 (fun _ => 0), aI g q8 8 (fun _ => 0), aI g q9 8 (fun _ => 0), aI g q10 8 (fun _ => 0), aI g q11 120 (lf L_X8_0 120), aB g q12 160 (fun _ => 0), aI g q13 1190 (fun _ => 0), aI g q14 1190 (fun _ => 0), aI g q15 21 (fun _ => 0), aI g q16 170 (fun _ => 0), aI g q17 6 (fun _ => 0), aI g q18 53 (lf L_X8_1 34)] := hG
  refine lv_dup hx hb dX8_init_962 rfl ?_
  refine lv_bipush (v := 34) hx hb dX8_init_963 (by decide) ?_
  refine lv_bipush (v := 115) hx hb dX8_init_965 (by decide) ?_
  refine r_ilf X hG 18 rfl (by decide) (by decide) (by decide) (by decide +kernel) dX8_init_967 (fun H locs hG => ?_)
  have hG : GM g A s.heap H locs [oX8 g o (va_up (va_up (va_up (va_up (fun _ => 0) 15 90) 16 (-1)) 18 (-1)) 21 1) (va_up (va_up (va_up (va_up (va_up (va_up (va_up (va_up (va_up (va_up (va_up (va_up (va_up (va_up (va_up (va_up (va_up (fun _ => none) 2 (some q1)) 3 (some q2)) 4 (some q3)) 5 (some q4)) 7 (some q5)) 8 (some q6)) 9 (some q7)) 11 (some q8)) 12 (some q9)) 13 (some q10)) 14 (some q11)) 19 (some q12)) 23 (some q13)) 24 (some q14)) 25 (some q15)) 33 (some q16)) 34 (some q17)), aI g q1 6 (fun _ => 0), aI g q2 6 (fun _ => 0), aI g q3 6 (fun _ => 0), aI g q4 6 (fun _ => 0), aI g q5 24 (fun _ => 0), aI g q6 24 (fun _ => 0), aI g q7 24 (fun _ => 0), aI g q8 8 (fun _ => 0), aI g q9 8 (fun _ => 0), aI g q10 8 (fun _ => 0), aI g q11 120 (lf L_X8_0 120), aB g q12 160 (fun _ => 0), aI g q13 1190 (fun _ => 0), aI g q14 1190 (fun _ => 0), aI g q15 21 (fun _ => 0), aI g q16 170 (fun _ => 0), aI g q17 6 (fun _ => 0), aI g q18 53 (lf L_X8_1 35)] := hG
  refine lv_dup hx hb dX8_init_968 rfl ?_
  refine lv_bipush (v := 35) hx hb dX8_init_969 (by decide) ?_
  refine lv_bipush (v := 104) hx hb dX8_init_971 (by decide) ?_
  refine r_ilf X hG 18 rfl (by decide) (by decide) (by decide) (by decide +kernel) dX8_init_973 (fun H locs hG => ?_)
  have hG : GM g A s.heap H locs [oX8 g o (va_up (va_up (va_up (va_up (fun _ => 0) 15 90) 16 (-1)) 18 (-1)) 21 1) (va_up (va_up (va_up (va_up (va_up (va_up (va_up (va_up (va_up (va_up (va_up (va_up (va_up (va_up (va_up (va_up (va_up (fun _ => none) 2 (some q1)) 3 (some q2)) 4 (some q3)) 5 (some q4)) 7 (some q5)) 8 (some q6)) 9 (some q7)) 11 (some q8)) 12 (some q9)) 13 (some q10)) 14 (some q11)) 19 (some q12)) 23 (some q13)) 24 (some q14)) 25 (some q15)) 33 (some q16)) 34 (some q17)), aI g q1 6 (fun _ => 0), aI g q2 6 (fun _ => 0), aI g q3 6 (fun _ => 0), aI g q4 6 (fun _ => 0), aI g q5 24 (fun _ => 0), aI g q6 24 (fun _ => 0), aI g q7 24 (fun _ => 0), aI g q8 8 (fun _ => 0), aI g q9 8 (fun _ => 0), aI g q10 8 (fun _ => 0), aI g q11 120 (lf L_X8_0 120), aB g q12 160 (fun _ => 0), aI g q13 1190 (fun _ => 0), aI g q14 1190 (fun _ => 0), aI g q15 21 (fun _ => 0), aI g q16 170 (fun _ => 0), aI g q17 6 (fun _ => 0), aI g q18 53 (lf L_X8_1 36)] := hG
  refine lv_dup hx hb dX8_init_974 rfl ?_
  refine lv_bipush (v := 36) hx hb dX8_init_975 (by decide) ?_
  refine lv_bipush (v := 32) hx hb dX8_init_977 (by decide) ?_
  refine r_ilf X hG 18 rfl (by decide) (by decide) (by decide) (by decide +kernel) dX8_init_979 (fun H locs hG => ?_)
  have hG : GM g A s.heap H locs [oX8 g o (va_up (va_up (va_up (va_up (fun _ => 0) 15 90) 16 (-1)) 18 (-1)) 21 1) (va_up (va_up (va_up (va_up (va_up (va_up (va_up (va_up (va_up (va_up (va_up (va_up (va_up (va_up (va_up (va_up (va_up (fun _ => none) 2 (some q1)) 3 (some q2)) 4 (some q3)) 5 (some q4)) 7 (some q5)) 8 (some q6)) 9 (some q7)) 11 (some q8)) 12 (some q9)) 13 (some q10)) 14 (some q11)) 19 (some q12)) 23 (some q13)) 24 (some q14)) 25 (some q15)) 33 (some q16)) 34 (some q17)), aI g q1 6 (fun _ => 0), aI g q2 6 (fun _ => 0), aI g q3 6 (fun _ => 0), aI g q4 6 (fun _ => 0), aI g q5 24 (fun _ => 0), aI g q6 24 (fun _ => 0), aI g q7 24 (fun _ => 0), aI g q8 8 (fun _ => 0), aI g q9 8 (fun _ => 0), aI g q10 8 (fun _ => 0), aI g q11 120 (lf L_X8_0 120), aB g q12 160 (fun _ => 0), aI g q13 1190 (fun _ => 0), aI g q14 1190 (fun _ => 0), aI g q15 21 (fun _ => 0), aI g q16 170 (fun _ => 0), aI g q17 6 (fun _ => 0), aI g q18 53 (lf L_X8_1 37)] := hG
  refine lv_dup hx hb dX8_init_980 rfl ?_
  refine lv_bipush (v := 37) hx hb dX8_init_981 (by decide) ?_
  refine lv_bipush (v := 104) hx hb dX8_init_983 (by decide) ?_
  refine r_ilf X hG 18 rfl (by decide) (by decide) (by decide) (by decide +kernel) dX8_init_985 (fun H locs hG => ?_)
  have hG : GM g A s.heap H locs [oX8 g o (va_up (va_up (va_up (va_up (fun _ => 0) 15 90) 16 (-1)) 18 (-1)) 21 1) (va_up (va_up (va_up (va_up (va_up (va_up (va_up (va_up (va_up (va_up (va_up (va_up (va_up (va_up (va_up (va_up (va_up (fun _ => none) 2 (some q1)) 3 (some q2)) 4 (some q3)) 5 (some q4)) 7 (some q5)) 8 (some q6)) 9 (some q7)) 11 (some q8)) 12 (some q9)) 13 (some q10)) 14 (some q11)) 19 (some q12)) 23 (some q13)) 24 (some q14)) 25 (some q15)) 33 (some q16)) 34 (some q17)), aI g q1 6 (fun _ => 0), aI g q2 6 (fun _ => 0), aI g q3 6 (fun _ => 0), aI g q4 6 (fun _ => 0), aI g q5 24 (fun _ => 0), aI g q6 24 (fun _ => 0), aI g q7 24 (fun _ => 0), aI g q8 8 (fun _ => 0), aI g q9 8 (fun _ => 0), aI g q10 8 (fun _ => 0), aI g q11 120 (lf L_X8_0 120), aB g q12 160 (fun _ => 0), aI g q13 1190 (fun _ => 0), aI g q14 1190 (fun _ => 0), aI g q15 21 (fun _ => 0), aI g q16 170 (fun _ => 0), aI g q17 6 (fun _ => 0), aI g q18 53 (lf L_X8_1 38)] := hG
  refine lv_dup hx hb dX8_init_986 rfl ?_
  refine lv_bipush (v := 38) hx hb dX8_init_987 (by decide) ?_
  refine lv_bipush (v := 97) hx hb dX8_init_989 (by decide) ?_
  refine r_ilf X hG 18 rfl (by decide) (by decide) (by decide) (by decide +kernel) dX8_init_991 (fun H locs hG => ?_)
  have hG : GM g A s.heap H locs [oX8 g o (va_up (va_up (va_up (va_up (fun _ => 0) 15 90) 16 (-1)) 18 (-1)) 21 1) (va_up (va_up (va_up (va_up (va_up (va_up (va_up (va_up (va_up (va_up (va_up (va_up (va_up (va_up (va_up (va_up (va_up (fun _ => none) 2 (some q1)) 3 (some q2)) 4 (some q3)) 5 (some q4)) 7 (some q5)) 8 (some q6)) 9 (some q7)) 11 (some q8)) 12 (some q9)) 13 (some q10)) 14 (some q11)) 19 (some q12)) 23 (some q13)) 24 (some q14)) 25 (some q15)) 33 (some q16)) 34 (some q17)), aI g q1 6 (fun _ => 0), aI g q2 6 (fun _ => 0), aI g q3 6 (fun _ => 0), aI g q4 6 (fun _ => 0), aI g q5 24 (fun _ => 0), aI g q6 24 (fun _ => 0), aI g q7 24 (fun _ => 0), aI g q8 8 (fun _ => 0), aI g q9 8 (fun _ => 0), aI g q10 8 (fun _ => 0), aI g q11 120 (lf L_X8_0 120), aB g q12 160 (fun _ => 0), aI g q13 1190 (fun _ => 0), aI g q14 1190 (fun _ => 0), aI g q15 21 (fun _ => 0), aI g q16 170 (fun _ => 0), aI g q17 6 (fun _ => 0), aI g q18 53 (lf L_X8_1 39)] := hG
  refine lv_dup hx hb dX8_init_992 rfl ?_
  refine lv_bipush (v := 39) hx hb dX8_init_993 (by decide) ?_
  refine lv_bipush (v := 114) hx hb dX8_init_995 (by decide) ?_
  refine r_ilf X hG 18 rfl (by decide) (by decide) (by decide) (by decide +kernel) dX8_init_997 (fun H locs hG => ?_)
  have hG : GM g A s.heap H locs [oX8 g o (va_up (va_up (va_up (va_up (fun _ => 0) 15 90) 16 (-1)) 18 (-1)) 21 1) (va_up (va_up (va_up (va_up (va_up (va_up (va_up (va_up (va_up (va_up (va_up (va_up (va_up (va_up (va_up (va_up (va_up (fun _ => none) 2 (some q1)) 3 (some q2)) 4 (some q3)) 5 (some q4)) 7 (some q5)) 8 (some q6)) 9 (some q7)) 11 (some q8)) 12 (some q9)) 13 (some q10)) 14 (some q11)) 19 (some q12)) 23 (some q13)) 24 (some q14)) 25 (some q15)) 33 (some q16)) 34 (some q17)), aI g q1 6 (fun _ => 0), aI g q2 6 (fun _ => 0), aI g q3 6 (fun _ => 0), aI g q4 6 (fun _ => 0), aI g q5 24 (fun _ => 0), aI g q6 24 (fun _ => 0), aI g q7 24 (fun _ => 0), aI g q8 8 (fun _ => 0), aI g q9 8 (fun _ => 0), aI g q10 8 (fun _ => 0), aI g q11 120 (lf L_X8_0 120), aB g q12 160 (fun _ => 0), aI g q13 1190 (fun _ => 0), aI g q14 1190 (fun _ => 0), aI g q15 21 (fun _ => 0), aI g q16 170 (fun _ => 0), aI g q17 6 (fun _ => 0), aI g q18 53 (lf L_X8_1 40)] := hG
  refine lv_dup hx hb dX8_init_998 rfl ?_
  refine lv_bipush (v := 40) hx hb dX8_init_999 (by decide) ?_
  refine lv_bipush (v := 109) hx hb dX8_init_1001 (by decide) ?_
  refine r_ilf X hG 18 rfl (by decide) (by decide) (by decide) (by decide +kernel) dX8_init_1003 (fun H locs hG => ?_)
  have hG : GM g A s.heap H locs [oX8 g o (va_up (va_up (va_up (va_up (fun _ => 0) 15 90) 16 (-1)) 18 (-1)) 21 1) (va_up (va_up (va_up (va_up (va_up (va_up (va_up (va_up (va_up (va_up (va_up (va_up (va_up (va_up (va_up (va_up (va_up (fun _ => none) 2 (some q1)) 3 (some q2)) 4 (some q3)) 5 (some q4)) 7 (some q5)) 8 (some q6)) 9 (some q7)) 11 (some q8)) 12 (some q9)) 13 (some q10)) 14 (some q11)) 19 (some q12)) 23 (some q13)) 24 (some q14)) 25 (some q15)) 33 (some q16)) 34 (some q17)), aI g q1 6 (fun _ => 0), aI g q2 6 (fun _ => 0), aI g q3 6 (fun _ => 0), aI g q4 6 (fun _ => 0), aI g q5 24 (fun _ => 0), aI g q6 24 (fun _ => 0), aI g q7 24 (fun _ => 0), aI g q8 8 (fun _ => 0), aI g q9 8 (fun _ => 0), aI g q10 8 (fun _ => 0), aI g q11 120 (lf L_X8_0 120), aB g q12 160 (fun _ => 0), aI g q13 1190 (fun _ => 0), aI g q14 1190 (fun _ => 0), aI g q15 21 (fun _ => 0), aI g q16 170 (fun _ => 0), aI g q17 6 (fun _ => 0), aI g q18 53 (lf L_X8_1 41)] := hG
  refine lv_dup hx hb dX8_init_1004 rfl ?_
  refine lv_bipush (v := 41) hx hb dX8_init_1005 (by decide) ?_
  refine lv_bipush (v := 32) hx hb dX8_init_1007 (by decide) ?_
  refine r_ilf X hG 18 rfl (by decide) (by decide) (by decide) (by decide +kernel) dX8_init_1009 (fun H locs hG => ?_)
  have hG : GM g A s.heap H locs [oX8 g o (va_up (va_up (va_up (va_up (fun _ => 0) 15 90) 16 (-1)) 18 (-1)) 21 1) (va_up (va_up (va_up (va_up (va_up (va_up (va_up (va_up (va_up (va_up (va_up (va_up (va_up (va_up (va_up (va_up (va_up (fun _ => none) 2 (some q1)) 3 (some q2)) 4 (some q3)) 5 (some q4)) 7 (some q5)) 8 (some q6)) 9 (some q7)) 11 (some q8)) 12 (some q9)) 13 (some q10)) 14 (some q11)) 19 (some q12)) 23 (some q13)) 24 (some q14)) 25 (some q15)) 33 (some q16)) 34 (some q17)), aI g q1 6 (fun _ => 0), aI g q2 6 (fun _ => 0), aI g q3 6 (fun _ => 0), aI g q4 6 (fun _ => 0), aI g q5 24 (fun _ => 0), aI g q6 24 (fun _ => 0), aI g q7 24 (fun _ => 0), aI g q8 8 (fun _ => 0), aI g q9 8 (fun _ => 0), aI g q10 8 (fun _ => 0), aI g q11 120 (lf L_X8_0 120), aB g q12 160 (fun _ => 0), aI g q13 1190 (fun _ => 0), aI g q14 1190 (fun _ => 0), aI g q15 21 (fun _ => 0), aI g q16 170 (fun _ => 0), aI g q17 6 (fun _ => 0), aI g q18 53 (lf L_X8_1 42)] := hG
  refine lv_dup hx hb dX8_init_1010 rfl ?_
  refine lv_bipush (v := 42) hx hb dX8_init_1011 (by decide) ?_
  refine lv_bipush (v := 111) hx hb dX8_init_1013 (by decide) ?_
  refine r_ilf X hG 18 rfl (by decide) (by decide) (by decide) (by decide +kernel) dX8_init_1015 (fun H locs hG => ?_)
  have hG : GM g A s.heap H locs [oX8 g o (va_up (va_up (va_up (va_up (fun _ => 0) 15 90) 16 (-1)) 18 (-1)) 21 1) (va_up (va_up (va_up (va_up (va_up (va_up (va_up (va_up (va_up (va_up (va_up (va_up (va_up (va_up (va_up (va_up (va_up (fun _ => none) 2 (some q1)) 3 (some q2)) 4 (some q3)) 5 (some q4)) 7 (some q5)) 8 (some q6)) 9 (some q7)) 11 (some q8)) 12 (some q9)) 13 (some q10)) 14 (some q11)) 19 (some q12)) 23 (some q13)) 24 (some q14)) 25 (some q15)) 33 (some q16)) 34 (some q17)), aI g q1 6 (fun _ => 0), aI g q2 6 (fun _ => 0), aI g q3 6 (fun _ => 0), aI g q4 6 (fun _ => 0), aI g q5 24 (fun _ => 0), aI g q6 24 (fun _ => 0), aI g q7 24 (fun _ => 0), aI g q8 8 (fun _ => 0), aI g q9 8 (fun _ => 0), aI g q10 8 (fun _ => 0), aI g q11 120 (lf L_X8_0 120), aB g q12 160 (fun _ => 0), aI g q13 1190 (fun _ => 0), aI g q14 1190 (fun _ => 0), aI g q15 21 (fun _ => 0), aI g q16 170 (fun _ => 0), aI g q17 6 (fun _ => 0), aI g q18 53 (lf L_X8_1 43)] := hG
  refine lv_dup hx hb dX8_init_1016 rfl ?_
  refine lv_bipush (v := 43) hx hb dX8_init_1017 (by decide) ?_
  refine lv_bipush (v := 114) hx hb dX8_init_1019 (by decide) ?_
  refine r_ilf X hG 18 rfl (by decide) (by decide) (by decide) (by decide +kernel) dX8_init_1021 (fun H locs hG => ?_)
  have hG : GM g A s.heap H locs [oX8 g o (va_up (va_up (va_up (va_up (fun _ => 0) 15 90) 16 (-1)) 18 (-1)) 21 1) (va_up (va_up (va_up (va_up (va_up (va_up (va_up (va_up (va_up (va_up (va_up (va_up (va_up (va_up (va_up (va_up (va_up (fun _ => none) 2 (some q1)) 3 (some q2)) 4 (some q3)) 5 (some q4)) 7 (some q5)) 8 (some q6)) 9 (some q7)) 11 (some q8)) 12 (some q9)) 13 (some q10)) 14 (some q11)) 19 (some q12)) 23 (some q13)) 24 (some q14)) 25 (some q15)) 33 (some q16)) 34 (some q17)), aI g q1 6 (fun _ => 0), aI g q2 6 (fun _ => 0), aI g q3 6 (fun _ => 0), aI g q4 6 (fun _ => 0), aI g q5 24 (fun _ => 0), aI g q6 24 (fun _ => 0), aI g q7 24 (fun _ => 0), aI g q8 8 (fun _ => 0), aI g q9 8 (fun _ => 0), aI g q10 8 (fun _ => 0), aI g q11 120 (lf L_X8_0 120), aB g q12 160 (fun _ => 0), aI g q13 1190 (fun _ => 0), aI g q14 1190 (fun _ => 0), aI g q15 21 (fun _ => 0), aI g q16 170 (fun _ => 0), aI g q17 6 (fun _ => 0), aI g q18 53 (lf L_X8_1 44)] := hG
  refine lv_dup hx hb dX8_init_1022 rfl ?_
  refine lv_bipush (v := 44) hx hb dX8_init_1023 (by decide) ?_
  refine lv_bipush (v := 32) hx hb dX8_init_1025 (by decide) ?_
  refine r_ilf X hG 18 rfl (by decide) (by decide) (by decide) (by decide +kernel) dX8_init_1027 (fun H locs hG => ?_)
  have hG : GM g A s.heap H locs [oX8 g o (va_up (va_up (va_up (va_up (fun _ => 0) 15 90) 16 (-1)) 18 (-1)) 21 1) (va_up (va_up (va_up (va_up (va_up (va_up (va_up (va_up (va_up (va_up (va_up (va_up (va_up (va_up (va_up (va_up (va_up (fun _ => none) 2 (some q1)) 3 (some q2)) 4 (some q3)) 5 (some q4)) 7 (some q5)) 8 (some q6)) 9 (some q7)) 11 (some q8)) 12 (some q9)) 13 (some q10)) 14 (some q11)) 19 (some q12)) 23 (some q13)) 24 (some q14)) 25 (some q15)) 33 (some q16)) 34 (some q17)), aI g q1 6 (fun _ => 0), aI g q2 6 (fun _ => 0), aI g q3 6 (fun _ => 0), aI g q4 6 (fun _ => 0), aI g q5 24 (fun _ => 0), aI g q6 24 (fun _ => 0), aI g q7 24 (fun _ => 0), aI g q8 8 (fun _ => 0), aI g q9 8 (fun _ => 0), aI g q10 8 (fun _ => 0), aI g q11 120 (lf L_X8_0 120), aB g q12 160 (fun _ => 0), aI g q13 1190 (fun _ => 0), aI g q14 1190 (fun _ => 0), aI g q15 21 (fun _ => 0), aI g q16 170 (fun _ => 0), aI g q17 6 (fun _ => 0), aI g q18 53 (lf L_X8_1 45)] := hG
  refine lv_dup hx hb dX8_init_1028 rfl ?_
  refine lv_bipush (v := 45) hx hb dX8_init_1029 (by decide) ?_
  refine lv_bipush (v := 97) hx hb dX8_init_1031 (by decide) ?_
  refine r_ilf X hG 18 rfl (by decide) (by decide) (by decide) (by decide +kernel) dX8_init_1033 (fun H locs hG => ?_)
  have hG : GM g A s.heap H locs [oX8 g o (va_up (va_up (va_up (va_up (fun _ => 0) 15 90) 16 (-1)) 18 (-1)) 21 1) (va_up (va_up (va_up (va_up (va_up (va_up (va_up (va_up (va_up (va_up (va_up (va_up (va_up (va_up (va_up (va_up (va_up (fun _ => none) 2 (some q1)) 3 (some q2)) 4 (some q3)) 5 (some q4)) 7 (some q5)) 8 (some q6)) 9 (some q7)) 11 (some q8)) 12 (some q9)) 13 (some q10)) 14 (some q11)) 19 (some q12)) 23 (some q13)) 24 (some q14)) 25 (some q15)) 33 (some q16)) 34 (some q17)), aI g q1 6 (fun _ => 0), aI g q2 6 (fun _ => 0), aI g q3 6 (fun _ => 0), aI g q4 6 (fun _ => 0), aI g q5 24 (fun _ => 0), aI g q6 24 (fun _ => 0), aI g q7 24 (fun _ => 0), aI g q8 8 (fun _ => 0), aI g q9 8 (fun _ => 0), aI g q10 8 (fun _ => 0), aI g q11 120 (lf L_X8_0 120), aB g q12 160 (fun _ => 0), aI g q13 1190 (fun _ => 0), aI g q14 1190 (fun _ => 0), aI g q15 21 (fun _ => 0), aI g q16 170 (fun _ => 0), aI g q17 6 (fun _ => 0), aI g q18 53 (lf L_X8_1 46)] := hG
  refine lv_dup hx hb dX8_init_1034 rfl ?_
  refine lv_bipush (v := 46) hx hb dX8_init_1035 (by decide) ?_
  refine lv_bipush (v := 110) hx hb dX8_init_1037 (by decide) ?_
  refine r_ilf X hG 18 rfl (by decide) (by decide) (by decide) (by decide +kernel) dX8_init_1039 (fun H locs hG => ?_)
  have hG : GM g A s.heap H locs [oX8 g o (va_up (va_up (va_up (va_up (fun _ => 0) 15 90) 16 (-1)) 18 (-1)) 21 1) (va_up (va_up (va_up (va_up (va_up (va_up (va_up (va_up (va_up (va_up (va_up (va_up (va_up (va_up (va_up (va_up (va_up (fun _ => none) 2 (some q1)) 3 (some q2)) 4 (some q3)) 5 (some q4)) 7 (some q5)) 8 (some q6)) 9 (some q7)) 11 (some q8)) 12 (some q9)) 13 (some q10)) 14 (some q11)) 19 (some q12)) 23 (some q13)) 24 (some q14)) 25 (some q15)) 33 (some q16)) 34 (some q17)), aI g q1 6 (fun _ => 0), aI g q2 6 (fun _ => 0), aI g q3 6 (fun _ => 0), aI g q4 6 (fun _ => 0), aI g q5 24 (fun _ => 0), aI g q6 24 (fun _ => 0), aI g q7 24 (fun _ => 0), aI g q8 8 (fun _ => 0), aI g q9 8 (fun _ => 0), aI g q10 8 (fun _ => 0), aI g q11 120 (lf L_X8_0 120), aB g q12 160 (fun _ => 0), aI g q13 1190 (fun _ => 0), aI g q14 1190 (fun _ => 0), aI g q15 21 (fun _ => 0), aI g q16 170 (fun _ => 0), aI g q17 6 (fun _ => 0), aI g q18 53 (lf L_X8_1 47)] := hG
  refine lv_dup hx hb dX8_init_1040 rfl ?_
  refine lv_bipush (v := 47) hx hb dX8_init_1041 (by decide) ?_
  refine lv_bipush (v := 100) hx hb dX8_init_1043 (by decide) ?_
  refine r_ilf X hG 18 rfl (by decide) (by decide) (by decide) (by decide +kernel) dX8_init_1045 (fun H locs hG => ?_)
  have hG : GM g A s.heap H locs [oX8 g o (va_up (va_up (va_up (va_up (fun _ => 0) 15 90) 16 (-1)) 18 (-1)) 21 1) (va_up (va_up (va_up (va_up (va_up (va_up (va_up (va_up (va_up (va_up (va_up (va_up (va_up (va_up (va_up (va_up (va_up (fun _ => none) 2 (some q1)) 3 (some q2)) 4 (some q3)) 5 (some q4)) 7 (some q5)) 8 (some q6)) 9 (some q7)) 11 (some q8)) 12 (some q9)) 13 (some q10)) 14 (some q11)) 19 (some q12)) 23 (some q13)) 24 (some q14)) 25 (some q15)) 33 (some q16)) 34 (some q17)), aI g q1 6 (fun _ => 0), aI g q2 6 (fun _ => 0), aI g q3 6 (fun _ => 0), aI g q4 6 (fun _ => 0), aI g q5 24 (fun _ => 0), aI g q6 24 (fun _ => 0), aI g q7 24 (fun _ => 0), aI g q8 8 (fun _ => 0), aI g q9 8 (fun _ => 0), aI g q10 8 (fun _ => 0), aI g q11 120 (lf L_X8_0 120), aB g q12 160 (fun _ => 0), aI g q13 1190 (fun _ => 0), aI g q14 1190 (fun _ => 0), aI g q15 21 (fun _ => 0), aI g q16 170 (fun _ => 0), aI g q17 6 (fun _ => 0), aI g q18 53 (lf L_X8_1 48)] := hG
  refine lv_dup hx hb dX8_init_1046 rfl ?_
  refine lv_bipush (v := 48) hx hb dX8_init_1047 (by decide) ?_
  refine lv_bipush (v := 32) hx hb dX8_init_1049 (by decide) ?_
  refine r_ilf X hG 18 rfl (by decide) (by decide) (by decide) (by decide +kernel) dX8_init_1051 (fun H locs hG => ?_)
  have hG : GM g A s.heap H locs [oX8 g o (va_up (va_up (va_up (va_up (fun _ => 0) 15 90) 16 (-1)) 18 (-1)) 21 1) (va_up (va_up (va_up (va_up (va_up (va_up (va_up (va_up (va_up (va_up (va_up (va_up (va_up (va_up (va_up (va_up (va_up (fun _ => none) 2 (some q1)) 3 (some q2)) 4 (some q3)) 5 (some q4)) 7 (some q5)) 8 (some q6)) 9 (some q7)) 11 (some q8)) 12 (some q9)) 13 (some q10)) 14 (some q11)) 19 (some q12)) 23 (some q13)) 24 (some q14)) 25 (some q15)) 33 (some q16)) 34 (some q17)), aI g q1 6 (fun _ => 0), aI g q2 6 (fun _ => 0), aI g q3 6 (fun _ => 0), aI g q4 6 (fun _ => 0), aI g q5 24 (fun _ => 0), aI g q6 24 (fun _ => 0), aI g q7 24 (fun _ => 0), aI g q8 8 (fun _ => 0), aI g q9 8 (fun _ => 0), aI g q10 8 (fun _ => 0), aI g q11 120 (lf L_X8_0 120), aB g q12 160 (fun _ => 0), aI g q13 1190 (fun _ => 0), aI g q14 1190 (fun _ => 0), aI g q15 21 (fun _ => 0), aI g q16 170 (fun _ => 0), aI g q17 6 (fun _ => 0), aI g q18 53 (lf L_X8_1 49)] := hG
  refine lv_dup hx hb dX8_init_1052 rfl ?_
  refine lv_bipush (v := 49) hx hb dX8_init_1053 (by decide) ?_
  refine lv_bipush (v := 110) hx hb dX8_init_1055 (by decide) ?_
  refine r_ilf X hG 18 rfl (by decide) (by decide) (by decide) (by decide +kernel) dX8_init_1057 (fun H locs hG => ?_)
  have hG : GM g A s.heap H locs [oX8 g o (va_up (va_up (va_up (va_up (fun _ => 0) 15 90) 16 (-1)) 18 (-1)) 21 1) (va_up (va_up (va_up (va_up (va_up (va_up (va_up (va_up (va_up (va_up (va_up (va_up (va_up (va_up (va_up (va_up (va_up (fun _ => none) 2 (some q1)) 3 (some q2)) 4 (some q3)) 5 (some q4)) 7 (some q5)) 8 (some q6)) 9 (some q7)) 11 (some q8)) 12 (some q9)) 13 (some q10)) 14 (some q11)) 19 (some q12)) 23 (some q13)) 24 (some q14)) 25 (some q15)) 33 (some q16)) 34 (some q17)), aI g q1 6 (fun _ => 0), aI g q2 6 (fun _ => 0), aI g q3 6 (fun _ => 0), aI g q4 6 (fun _ => 0), aI g q5 24 (fun _ => 0), aI g q6 24 (fun _ => 0), aI g q7 24 (fun _ => 0), aI g q8 8 (fun _ => 0), aI g q9 8 (fun _ => 0), aI g q10 8 (fun _ => 0), aI g q11 120 (lf L_X8_0 120), aB g q12 160 (fun _ => 0), aI g q13 1190 (fun _ => 0), aI g q14 1190 (fun _ => 0), aI g q15 21 (fun _ => 0), aI g q16 170 (fun _ => 0), aI g q17 6 (fun _ => 0), aI g q18 53 (lf L_X8_1 50)] := hG
  refine lv_dup hx hb dX8_init_1058 rfl ?_
  refine lv_bipush (v := 50) hx hb dX8_init_1059 (by decide) ?_
  refine lv_bipush (v := 111) hx hb dX8_init_1061 (by decide) ?_
  refine r_ilf X hG 18 rfl (by decide) (by decide) (by decide) (by decide +kernel) dX8_init_1063 (fun H locs hG => ?_)
  have hG : GM g A s.heap H locs [oX8 g o (va_up (va_up (va_up (va_up (fun _ => 0) 15 90) 16 (-1)) 18 (-1)) 21 1) (va_up (va_up (va_up (va_up (va_up (va_up (va_up (va_up (va_up (va_up (va_up (va_up (va_up (va_up (va_up (va_up (va_up (fun _ => none) 2 (some q1)) 3 (some q2)) 4 (some q3)) 5 (some q4)) 7 (some q5)) 8 (some q6)) 9 (some q7)) 11 (some q8)) 12 (some q9)) 13 (some q10)) 14 (some q11)) 19 (some q12)) 23 (some q13)) 24 (some q14)) 25 (some q15)) 33 (some q16)) 34 (some q17)), aI g q1 6 (fun _ => 0), aI g q2 6 (fun _ => 0), aI g q3 6 (fun _ => 0), aI g q4 6 (fun _ => 0), aI g q5 24 (fun _ => 0), aI g q6 24 (fun _ => 0), aI g q7 24 (fun _ => 0), aI g q8 8 (fun _ => 0), aI g q9 8 (fun _ => 0), aI g q10 8 (fun _ => 0), aI g q11 120 (lf L_X8_0 120), aB g q12 160 (fun _ => 0), aI g q13 1190 (fun _ => 0), aI g q14 1190 (fun _ => 0), aI g q15 21 (fun _ => 0), aI g q16 170 (fun _ => 0), aI g q17 6 (fun _ => 0), aI g q18 53 (lf L_X8_1 51)] := hG
  refine lv_dup hx hb dX8_init_1064 rfl ?_
  refine lv_bipush (v := 51) hx hb dX8_init_1065 (by decide) ?_
  refine lv_bipush (v := 116) hx hb dX8_init_1067 (by decide) ?_
  refine r_ilf X hG 18 rfl (by decide) (by decide) (by decide) (by decide +kernel) dX8_init_1069 (fun H locs hG => ?_)
  have hG : GM g A s.heap H locs [oX8 g o (va_up (va_up (va_up (va_up (fun _ => 0) 15 90) 16 (-1)) 18 (-1)) 21 1) (va_up (va_up (va_up (va_up (va_up (va_up (va_up (va_up (va_up (va_up (va_up (va_up (va_up (va_up (va_up (va_up (va_up (fun _ => none) 2 (some q1)) 3 (some q2)) 4 (some q3)) 5 (some q4)) 7 (some q5)) 8 (some q6)) 9 (some q7)) 11 (some q8)) 12 (some q9)) 13 (some q10)) 14 (some q11)) 19 (some q12)) 23 (some q13)) 24 (some q14)) 25 (some q15)) 33 (some q16)) 34 (some q17)), aI g q1 6 (fun _ => 0), aI g q2 6 (fun _ => 0), aI g q3 6 (fun _ => 0), aI g q4 6 (fun _ => 0), aI g q5 24 (fun _ => 0), aI g q6 24 (fun _ => 0), aI g q7 24 (fun _ => 0), aI g q8 8 (fun _ => 0), aI g q9 8 (fun _ => 0), aI g q10 8 (fun _ => 0), aI g q11 120 (lf L_X8_0 120), aB g q12 160 (fun _ => 0), aI g q13 1190 (fun _ => 0), aI g q14 1190 (fun _ => 0), aI g q15 21 (fun _ => 0), aI g q16 170 (fun _ => 0), aI g q17 6 (fun _ => 0), aI g q18 53 (lf L_X8_1 52)] := hG
  refine lv_dup hx hb dX8_init_1070 rfl ?_
  refine lv_bipush (v := 52) hx hb dX8_init_1071 (by decide) ?_
  refine lv_bipush (v := 32) hx hb dX8_init_1073 (by decide) ?_
  refine r_ilf X hG 18 rfl (by decide) (by decide) (by decide) (by decide +kernel) dX8_init_1075 (fun H locs hG => ?_)
  have hG : GM g A s.heap H locs [oX8 g o (va_up (va_up (va_up (va_up (fun _ => 0) 15 90) 16 (-1)) 18 (-1)) 21 1) (va_up (va_up (va_up (va_up (va_up (va_up (va_up (va_up (va_up (va_up (va_up (va_up (va_up (va_up (va_up (va_up (va_up (fun _ => none) 2 (some q1)) 3 (some q2)) 4 (some q3)) 5 (some q4)) 7 (some q5)) 8 (some q6)) 9 (some q7)) 11 (some q8)) 12 (some q9)) 13 (some q10)) 14 (some q11)) 19 (some q12)) 23 (some q13)) 24 (some q14)) 25 (some q15)) 33 (some q16)) 34 (some q17)), aI g q1 6 (fun _ => 0), aI g q2 6 (fun _ => 0), aI g q3 6 (fun _ => 0), aI g q4 6 (fun _ => 0), aI g q5 24 (fun _ => 0), aI g q6 24 (fun _ => 0), aI g q7 24 (fun _ => 0), aI g q8 8 (fun _ => 0), aI g q9 8 (fun _ => 0), aI g q10 8 (fun _ => 0), aI g q11 120 (lf L_X8_0 120), aB g q12 160 (fun _ => 0), aI g q13 1190 (fun _ => 0), aI g q14 1190 (fun _ => 0), aI g q15 21 (fun _ => 0), aI g q16 170 (fun _ => 0), aI g q17 6 (fun _ => 0), aI g q18 53 (lf L_X8_1 53)] := hG
  refine PO_8_75 X hmn hG 0 rfl dX8_init_1076 (fun H locs hG => ?_)
  have hG : GM g A s.heap H locs [oX8 g o (va_up (va_up (va_up (va_up (fun _ => 0) 15 90) 16 (-1)) 18 (-1)) 21 1) (va_up (va_up (va_up (va_up (va_up (va_up (va_up (va_up (va_up (va_up (va_up (va_up (va_up (va_up (va_up (va_up (va_up (va_up (fun _ => none) 2 (some q1)) 3 (some q2)) 4 (some q3)) 5 (some q4)) 7 (some q5)) 8 (some q6)) 9 (some q7)) 11 (some q8)) 12 (some q9)) 13 (some q10)) 14 (some q11)) 19 (some q12)) 23 (some q13)) 24 (some q14)) 25 (some q15)) 33 (some q16)) 34 (some q17)) 35 (some q18)), aI g q1 6 (fun _ => 0), aI g q2 6 (fun _ => 0), aI g q3 6 (fun _ => 0), aI g q4 6 (fun _ => 0), aI g q5 24 (fun _ => 0), aI g q6 24 (fun _ => 0), aI g q7 24 (fun _ => 0), aI g q8 8 (fun _ => 0), aI g q9 8 (fun _ => 0), aI g q10 8 (fun _ => 0), aI g q11 120 (lf L_X8_0 120), aB g q12 160 (fun _ => 0), aI g q13 1190 (fun _ => 0), aI g q14 1190 (fun _ => 0), aI g q15 21 (fun _ => 0), aI g q16 170 (fun _ => 0), aI g q17 6 (fun _ => 0), aI g q18 53 (lf L_X8_1 53)] := hG
  refine lv_aload_n hx hb dX8_init_1079 rfl (lv_at hl 0 rfl) ?_
  refine lv_bipush (v := 12) hx hb dX8_init_1080 (by decide) ?_
  refine r_newI (N' := 12) X hG (by decide) (by decide) (by decide) (by show (_ : Nat) ≤ _; decide) (by show (_ : Nat) ≤ _; decide) dX8_init_1082 (fun q19 H hG => ?_)
  have hG : GM g A s.heap H locs [oX8 g o (va_up (va_up (va_up (va_up (fun _ => 0) 15 90) 16 (-1)) 18 (-1)) 21 1) (va_up (va_up (va_up (va_up (va_up (va_up (va_up (va_up (va_up (va_up (va_up (va_up (va_up (va_up (va_up (va_up (va_up (va_up (fun _ => none) 2 (some q1)) 3 (some q2)) 4 (some q3)) 5 (some q4)) 7 (some q5)) 8 (some q6)) 9 (some q7)) 11 (some q8)) 12 (some q9)) 13 (some q10)) 14 (some q11)) 19 (some q12)) 23 (some q13)) 24 (some q14)) 25 (some q15)) 33 (some q16)) 34 (some q17)) 35 (some q18)), aI g q1 6 (fun _ => 0), aI g q2 6 (fun _ => 0), aI g q3 6 (fun _ => 0), aI g q4 6 (fun _ => 0), aI g q5 24 (fun _ => 0), aI g q6 24 (fun _ => 0), aI g q7 24 (fun _ => 0), aI g q8 8 (fun _ => 0), aI g q9 8 (fun _ => 0), aI g q10 8 (fun _ => 0), aI g q11 120 (lf L_X8_0 120), aB g q12 160 (fun _ => 0), aI g q13 1190 (fun _ => 0), aI g q14 1190 (fun _ => 0), aI g q15 21 (fun _ => 0), aI g q16 170 (fun _ => 0), aI g q17 6 (fun _ => 0), aI g q18 53 (lf L_X8_1 53), aI g q19 12 (fun _ => 0)] := hG
  refine W.widen (k := 19) (n := 3042) (by omega) (by omega) ?_
  have hG : GM g A s.heap H locs [oX8 g o (va_up (va_up (va_up (va_up (fun _ => 0) 15 90) 16 (-1)) 18 (-1)) 21 1) (va_up (va_up (va_up (va_up (va_up (va_up (va_up (va_up (va_up (va_up (va_up (va_up (va_up (va_up (va_up (va_up (va_up (va_up (fun _ => none) 2 (some q1)) 3 (some q2)) 4 (some q3)) 5 (some q4)) 7 (some q5)) 8 (some q6)) 9 (some q7)) 11 (some q8)) 12 (some q9)) 13 (some q10)) 14 (some q11)) 19 (some q12)) 23 (some q13)) 24 (some q14)) 25 (some q15)) 33 (some q16)) 34 (some q17)) 35 (some q18)), aI g q1 6 (fun _ => 0), aI g q2 6 (fun _ => 0), aI g q3 6 (fun _ => 0), aI g q4 6 (fun _ => 0), aI g q5 24 (fun _ => 0), aI g q6 24 (fun _ => 0), aI g q7 24 (fun _ => 0), aI g q8 8 (fun _ => 0), aI g q9 8 (fun _ => 0), aI g q10 8 (fun _ => 0), aI g q11 120 (lf L_X8_0 120), aB g q12 160 (fun _ => 0), aI g q13 1190 (fun _ => 0), aI g q14 1190 (fun _ => 0), aI g q15 21 (fun _ => 0), aI g q16 170 (fun _ => 0), aI g q17 6 (fun _ => 0), aI g q18 53 (lf L_X8_1 53), aI g q19 12 (lf L_X8_2 0)] := by rw [lf_0]; exact hG
  refine lv_dup hx hb dX8_init_1084 rfl ?_
  refine lv_iconst (v := 0) hx hb dX8_init_1085 (by decide) ?_
  refine lv_iconst (v := 0) hx hb dX8_init_1086 (by decide) ?_
  refine r_ilf X hG 19 rfl (by decide) (by decide) (by decide) (by decide +kernel) dX8_init_1087 (fun H locs hG => ?_)
  have hG : GM g A s.heap H locs [oX8 g o (va_up (va_up (va_up (va_up (fun _ => 0) 15 90) 16 (-1)) 18 (-1)) 21 1) (va_up (va_up (va_up (va_up (va_up (va_up (va_up (va_up (va_up (va_up (va_up (va_up (va_up (va_up (va_up (va_up (va_up (va_up (fun _ => none) 2 (some q1)) 3 (some q2)) 4 (some q3)) 5 (some q4)) 7 (some q5)) 8 (some q6)) 9 (some q7)) 11 (some q8)) 12 (some q9)) 13 (some q10)) 14 (some q11)) 19 (some q12)) 23 (some q13)) 24 (some q14)) 25 (some q15)) 33 (some q16)) 34 (some q17)) 35 (some q18)), aI g q1 6 (fun _ => 0), aI g q2 6 (fun _ => 0), aI g q3 6 (fun _ => 0), aI g q4 6 (fun _ => 0), aI g q5 24 (fun _ => 0), aI g q6 24 (fun _ => 0), aI g q7 24 (fun _ => 0), aI g q8 8 (fun _ => 0), aI g q9 8 (fun _ => 0), aI g q10 8 (fun _ => 0), aI g q11 120 (lf L_X8_0 120), aB g q12 160 (fun _ => 0), aI g q13 1190 (fun _ => 0), aI g q14 1190 (fun _ => 0), aI g q15 21 (fun _ => 0), aI g q16 170 (fun _ => 0), aI g q17 6 (fun _ => 0), aI g q18 53 (lf L_X8_1 53), aI g q19 12 (lf L_X8_2 1)] := hG
  refine lv_dup hx hb dX8_init_1088 rfl ?_
  refine lv_iconst (v := 1) hx hb dX8_init_1089 (by decide) ?_
  refine lv_iconst (v := 1) hx hb dX8_init_1090 (by decide) ?_
  refine r_ilf X hG 19 rfl (by decide) (by decide) (by decide) (by decide +kernel) dX8_init_1091 (fun H locs hG => ?_)
  have hG : GM g A s.heap H locs [oX8 g o (va_up (va_up (va_up (va_up (fun _ => 0) 15 90) 16 (-1)) 18 (-1)) 21 1) (va_up (va_up (va_up (va_up (va_up (va_up (va_up (va_up (va_up (va_up (va_up (va_up (va_up (va_up (va_up (va_up (va_up (va_up (fun _ => none) 2 (some q1)) 3 (some q2)) 4 (some q3)) 5 (some q4)) 7 (some q5)) 8 (some q6)) 9 (some q7)) 11 (some q8)) 12 (some q9)) 13 (some q10)) 14 (some q11)) 19 (some q12)) 23 (some q13)) 24 (some q14)) 25 (some q15)) 33 (some q16)) 34 (some q17)) 35 (some q18)), aI g q1 6 (fun _ => 0), aI g q2 6 (fun _ => 0), aI g q3 6 (fun _ => 0), aI g q4 6 (fun _ => 0), aI g q5 24 (fun _ => 0), aI g q6 24 (fun _ => 0), aI g q7 24 (fun _ => 0), aI g q8 8 (fun _ => 0), aI g q9 8 (fun _ => 0), aI g q10 8 (fun _ => 0), aI g q11 120 (lf L_X8_0 120), aB g q12 160 (fun _ => 0), aI g q13 1190 (fun _ => 0), aI g q14 1190 (fun _ => 0), aI g q15 21 (fun _ => 0), aI g q16 170 (fun _ => 0), aI g q17 6 (fun _ => 0), aI g q18 53 (lf L_X8_1 53), aI g q19 12 (lf L_X8_2 2)] := hG
  refine lv_dup hx hb dX8_init_1092 rfl ?_
  refine lv_iconst (v := 2) hx hb dX8_init_1093 (by decide) ?_
  refine lv_iconst (v := 2) hx hb dX8_init_1094 (by decide) ?_
  refine r_ilf X hG 19 rfl (by decide) (by decide) (by decide) (by decide +kernel) dX8_init_1095 (fun H locs hG => ?_)
  have hG : GM g A s.heap H locs [oX8 g o (va_up (va_up (va_up (va_up (fun _ => 0) 15 90) 16 (-1)) 18 (-1)) 21 1) (va_up (va_up (va_up (va_up (va_up (va_up (va_up (va_up (va_up (va_up (va_up (va_up (va_up (va_up (va_up (va_up (va_up (va_up (fun _ => none) 2 (some q1)) 3 (some q2)) 4 (some q3)) 5 (some q4)) 7 (some q5)) 8 (some q6)) 9 (some q7)) 11 (some q8)) 12 (some q9)) 13 (some q10)) 14 (some q11)) 19 (some q12)) 23 (some q13)) 24 (some q14)) 25 (some q15)) 33 (some q16)) 34 (some q17)) 35 (some q18)), aI g q1 6 (fun _ => 0), aI g q2 6 (fun _ => 0), aI g q3 6 (fun _ => 0), aI g q4 6 (fun _ => 0), aI g q5 24 (fun _ => 0), aI g q6 24 (fun _ => 0), aI g q7 24 (fun _ => 0), aI g q8 8 (fun _ => 0), aI g q9 8 (fun _ => 0), aI g q10 8 (fun _ => 0), aI g q11 120 (lf L_X8_0 120), aB g q12 160 (fun _ => 0), aI g q13 1190 (fun _ => 0), aI g q14 1190 (fun _ => 0), aI g q15 21 (fun _ => 0), aI g q16 170 (fun _ => 0), aI g q17 6 (fun _ => 0), aI g q18 53 (lf L_X8_1 53), aI g q19 12 (lf L_X8_2 3)] := hG
  refine lv_dup hx hb dX8_init_1096 rfl ?_
  refine lv_iconst (v := 3) hx hb dX8_init_1097 (by decide) ?_
  refine lv_iconst (v := 3) hx hb dX8_init_1098 (by decide) ?_
  refine r_ilf X hG 19 rfl (by decide) (by decide) (by decide) (by decide +kernel) dX8_init_1099 (fun H locs hG => ?_)
  have hG : GM g A s.heap H locs [oX8 g o (va_up (va_up (va_up (va_up (fun _ => 0) 15 90) 16 (-1)) 18 (-1)) 21 1) (va_up (va_up (va_up (va_up (va_up (va_up (va_up (va_up (va_up (va_up (va_up (va_up (va_up (va_up (va_up (va_up (va_up (va_up (fun _ => none) 2 (some q1)) 3 (some q2)) 4 (some q3)) 5 (some q4)) 7 (some q5)) 8 (some q6)) 9 (some q7)) 11 (some q8)) 12 (some q9)) 13 (some q10)) 14 (some q11)) 19 (some q12)) 23 (some q13)) 24 (some q14)) 25 (some q15)) 33 (some q16)) 34 (some q17)) 35 (some q18)), aI g q1 6 (fun _ => 0), aI g q2 6 (fun _ => 0), aI g q3 6 (fun _ => 0), aI g q4 6 (fun _ => 0), aI g q5 24 (fun _ => 0), aI g q6 24 (fun _ => 0), aI g q7 24 (fun _ => 0), aI g q8 8 (fun _ => 0), aI g q9 8 (fun _ => 0), aI g q10 8 (fun _ => 0), aI g q11 120 (lf L_X8_0 120), aB g q12 160 (fun _ => 0), aI g q13 1190 (fun _ => 0), aI g q14 1190 (fun _ => 0), aI g q15 21 (fun _ => 0), aI g q16 170 (fun _ => 0), aI g q17 6 (fun _ => 0), aI g q18 53 (lf L_X8_1 53), aI g q19 12 (lf L_X8_2 4)] := hG
  refine lv_dup hx hb dX8_init_1100 rfl ?_
  refine lv_iconst (v := 4) hx hb dX8_init_1101 (by decide) ?_
  refine lv_iconst (v := 4) hx hb dX8_init_1102 (by decide) ?_
  refine r_ilf X hG 19 rfl (by decide) (by decide) (by decide) (by decide +kernel) dX8_init_1103 (fun H locs hG => ?_)
  have hG : GM g A s.heap H locs [oX8 g o (va_up (va_up (va_up (va_up (fun _ => 0) 15 90) 16 (-1)) 18 (-1)) 21 1) (va_up (va_up (va_up (va_up (va_up (va_up (va_up (va_up (va_up (va_up (va_up (va_up (va_up (va_up (va_up (va_up (va_up (va_up (fun _ => none) 2 (some q1)) 3 (some q2)) 4 (some q3)) 5 (some q4)) 7 (some q5)) 8 (some q6)) 9 (some q7)) 11 (some q8)) 12 (some q9)) 13 (some q10)) 14 (some q11)) 19 (some q12)) 23 (some q13)) 24 (some q14)) 25 (some q15)) 33 (some q16)) 34 (some q17)) 35 (some q18)), aI g q1 6 (fun _ => 0), aI g q2 6 (fun _ => 0), aI g q3 6 (fun _ => 0), aI g q4 6 (fun _ => 0), aI g q5 24 (fun _ => 0), aI g q6 24 (fun _ => 0), aI g q7 24 (fun _ => 0), aI g q8 8 (fun _ => 0), aI g q9 8 (fun _ => 0), aI g q10 8 (fun _ => 0), aI g q11 120 (lf L_X8_0 120), aB g q12 160 (fun _ => 0), aI g q13 1190 (fun _ => 0), aI g q14 1190 (fun _ => 0), aI g q15 21 (fun _ => 0), aI g q16 170 (fun _ => 0), aI g q17 6 (fun _ => 0), aI g q18 53 (lf L_X8_1 53), aI g q19 12 (lf L_X8_2 5)] := hG
  refine lv_dup hx hb dX8_init_1104 rfl ?_
  refine lv_iconst (v := 5) hx hb dX8_init_1105 (by decide) ?_
  refine lv_iconst (v := 5) hx hb dX8_init_1106 (by decide) ?_
  refine r_ilf X hG 19 rfl (by decide) (by decide) (by decide) (by decide +kernel) dX8_init_1107 (fun H locs hG => ?_)
  have hG : GM g A s.heap H locs [oX8 g o (va_up (va_up (va_up (va_up (fun _ => 0) 15 90) 16 (-1)) 18 (-1)) 21 1) (va_up (va_up (va_up (va_up (va_up (va_up (va_up (va_up (va_up (va_up (va_up (va_up (va_up (va_up (va_up (va_up (va_up (va_up (fun _ => none) 2 (some q1)) 3 (some q2)) 4 (some q3)) 5 (some q4)) 7 (some q5)) 8 (some q6)) 9 (some q7)) 11 (some q8)) 12 (some q9)) 13 (some q10)) 14 (some q11)) 19 (some q12)) 23 (some q13)) 24 (some q14)) 25 (some q15)) 33 (some q16)) 34 (some q17)) 35 (some q18)), aI g q1 6 (fun _ => 0), aI g q2 6 (fun _ => 0), aI g q3 6 (fun _ => 0), aI g q4 6 (fun _ => 0), aI g q5 24 (fun _ => 0), aI g q6 24 (fun _ => 0), aI g q7 24 (fun _ => 0), aI g q8 8 (fun _ => 0), aI g q9 8 (fun _ => 0), aI g q10 8 (fun _ => 0), aI g q11 120 (lf L_X8_0 120), aB g q12 160 (fun _ => 0), aI g q13 1190 (fun _ => 0), aI g q14 1190 (fun _ => 0), aI g q15 21 (fun _ => 0), aI g q16 170 (fun _ => 0), aI g q17 6 (fun _ => 0), aI g q18 53 (lf L_X8_1 53), aI g q19 12 (lf L_X8_2 6)] := hG
  refine lv_dup hx hb dX8_init_1108 rfl ?_
  refine lv_bipush (v := 6) hx hb dX8_init_1109 (by decide) ?_
  refine lv_bipush (v := 10) hx hb dX8_init_1111 (by decide) ?_
  refine r_ilf X hG 19 rfl (by decide) (by decide) (by decide) (by decide +kernel) dX8_init_1113 (fun H locs hG => ?_)
  have hG : GM g A s.heap H locs [oX8 g o (va_up (va_up (va_up (va_up (fun _ => 0) 15 90) 16 (-1)) 18 (-1)) 21 1) (va_up (va_up (va_up (va_up (va_up (va_up (va_up (va_up (va_up (va_up (va_up (va_up (va_up (va_up (va_up (va_up (va_up (va_up (fun _ => none) 2 (some q1)) 3 (some q2)) 4 (some q3)) 5 (some q4)) 7 (some q5)) 8 (some q6)) 9 (some q7)) 11 (some q8)) 12 (some q9)) 13 (some q10)) 14 (some q11)) 19 (some q12)) 23 (some q13)) 24 (some q14)) 25 (some q15)) 33 (some q16)) 34 (some q17)) 35 (some q18)), aI g q1 6 (fun _ => 0), aI g q2 6 (fun _ => 0), aI g q3 6 (fun _ => 0), aI g q4 6 (fun _ => 0), aI g q5 24 (fun _ => 0), aI g q6 24 (fun _ => 0), aI g q7 24 (fun _ => 0), aI g q8 8 (fun _ => 0), aI g q9 8 (fun _ => 0), aI g q10 8 (fun _ => 0), aI g q11 120 (lf L_X8_0 120), aB g q12 160 (fun _ => 0), aI g q13 1190 (fun _ => 0), aI g q14 1190 (fun _ => 0), aI g q15 21 (fun _ => 0), aI g q16 170 (fun _ => 0), aI g q17 6 (fun _ => 0), aI g q18 53 (lf L_X8_1 53), aI g q19 12 (lf L_X8_2 7)] := hG
  refine lv_dup hx hb dX8_init_1114 rfl ?_
  refine lv_bipush (v := 7) hx hb dX8_init_1115 (by decide) ?_
  refine lv_bipush (v := 11) hx hb dX8_init_1117 (by decide) ?_
  refine r_ilf X hG 19 rfl (by decide) (by decide) (by decide) (by decide +kernel) dX8_init_1119 (fun H locs hG => ?_)
  have hG : GM g A s.heap H locs [oX8 g o (va_up (va_up (va_up (va_up (fun _ => 0) 15 90) 16 (-1)) 18 (-1)) 21 1) (va_up (va_up (va_up (va_up (va_up (va_up (va_up (va_up (va_up (va_up (va_up (va_up (va_up (va_up (va_up (va_up (va_up (va_up (fun _ => none) 2 (some q1)) 3 (some q2)) 4 (some q3)) 5 (some q4)) 7 (some q5)) 8 (some q6)) 9 (some q7)) 11 (some q8)) 12 (some q9)) 13 (some q10)) 14 (some q11)) 19 (some q12)) 23 (some q13)) 24 (some q14)) 25 (some q15)) 33 (some q16)) 34 (some q17)) 35 (some q18)), aI g q1 6 (fun _ => 0), aI g q2 6 (fun _ => 0), aI g q3 6 (fun _ => 0), aI g q4 6 (fun _ => 0), aI g q5 24 (fun _ => 0), aI g q6 24 (fun _ => 0), aI g q7 24 (fun _ => 0), aI g q8 8 (fun _ => 0), aI g q9 8 (fun _ => 0), aI g q10 8 (fun _ => 0), aI g q11 120 (lf L_X8_0 120), aB g q12 160 (fun _ => 0), aI g q13 1190 (fun _ => 0), aI g q14 1190 (fun _ => 0), aI g q15 21 (fun _ => 0), aI g q16 170 (fun _ => 0), aI g q17 6 (fun _ => 0), aI g q18 53 (lf L_X8_1 53), aI g q19 12 (lf L_X8_2 8)] := hG
  refine lv_dup hx hb dX8_init_1120 rfl ?_
  refine lv_bipush (v := 8) hx hb dX8_init_1121 (by decide) ?_
  refine lv_bipush (v := 12) hx hb dX8_init_1123 (by decide) ?_
  refine r_ilf X hG 19 rfl (by decide) (by decide) (by decide) (by decide +kernel) dX8_init_1125 (fun H locs hG => ?_)
  have hG : GM g A s.heap H locs [oX8 g o (va_up (va_up (va_up (va_up (fun _ => 0) 15 90) 16 (-1)) 18 (-1)) 21 1) (va_up (va_up (va_up (va_up (va_up (va_up (va_up (va_up (va_up (va_up (va_up (va_up (va_up (va_up (va_up (va_up (va_up (va_up (fun _ => none) 2 (some q1)) 3 (some q2)) 4 (some q3)) 5 (some q4)) 7 (some q5)) 8 (some q6)) 9 (some q7)) 11 (some q8)) 12 (some q9)) 13 (some q10)) 14 (some q11)) 19 (some q12)) 23 (some q13)) 24 (some q14)) 25 (some q15)) 33 (some q16)) 34 (some q17)) 35 (some q18)), aI g q1 6 (fun _ => 0), aI g q2 6 (fun _ => 0), aI g q3 6 (fun _ => 0), aI g q4 6 (fun _ => 0), aI g q5 24 (fun _ => 0), aI g q6 24 (fun _ => 0), aI g q7 24 (fun _ => 0), aI g q8 8 (fun _ => 0), aI g q9 8 (fun _ => 0), aI g q10 8 (fun _ => 0), aI g q11 120 (lf L_X8_0 120), aB g q12 160 (fun _ => 0), aI g q13 1190 (fun _ => 0), aI g q14 1190 (fun _ => 0), aI g q15 21 (fun _ => 0), aI g q16 170 (fun _ => 0), aI g q17 6 (fun _ => 0), aI g q18 53 (lf L_X8_1 53), aI g q19 12 (lf L_X8_2 9)] := hG
  refine lv_dup hx hb dX8_init_1126 rfl ?_
  refine lv_bipush (v := 9) hx hb dX8_init_1127 (by decide) ?_
  refine lv_bipush (v := 13) hx hb dX8_init_1129 (by decide) ?_
  refine r_ilf X hG 19 rfl (by decide) (by decide) (by decide) (by decide +kernel) dX8_init_1131 (fun H locs hG => ?_)
  have hG : GM g A s.heap H locs [oX8 g o (va_up (va_up (va_up (va_up (fun _ => 0) 15 90) 16 (-1)) 18 (-1)) 21 1) (va_up (va_up (va_up (va_up (va_up (va_up (va_up (va_up (va_up (va_up (va_up (va_up (va_up (va_up (va_up (va_up (va_up (va_up (fun _ => none) 2 (some q1)) 3 (some q2)) 4 (some q3)) 5 (some q4)) 7 (some q5)) 8 (some q6)) 9 (some q7)) 11 (some q8)) 12 (some q9)) 13 (some q10)) 14 (some q11)) 19 (some q12)) 23 (some q13)) 24 (some q14)) 25 (some q15)) 33 (some q16)) 34 (some q17)) 35 (some q18)), aI g q1 6 (fun _ => 0), aI g q2 6 (fun _ => 0), aI g q3 6 (fun _ => 0), aI g q4 6 (fun _ => 0), aI g q5 24 (fun _ => 0), aI g q6 24 (fun _ => 0), aI g q7 24 (fun _ => 0), aI g q8 8 (fun _ => 0), aI g q9 8 (fun _ => 0), aI g q10 8 (fun _ => 0), aI g q11 120 (lf L_X8_0 120), aB g q12 160 (fun _ => 0), aI g q13 1190 (fun _ => 0), aI g q14 1190 (fun _ => 0), aI g q15 21 (fun _ => 0), aI g q16 170 (fun _ => 0), aI g q17 6 (fun _ => 0), aI g q18 53 (lf L_X8_1 53), aI g q19 12 (lf L_X8_2 10)] := hG
  refine lv_dup hx hb dX8_init_1132 rfl ?_
  refine lv_bipush (v := 10) hx hb dX8_init_1133 (by decide) ?_
  refine lv_bipush (v := 14) hx hb dX8_init_1135 (by decide) ?_
  refine r_ilf X hG 19 rfl (by decide) (by decide) (by decide) (by decide +kernel) dX8_init_1137 (fun H locs hG => ?_)
  have hG : GM g A s.heap H locs [oX8 g o (va_up (va_up (va_up (va_up (fun _ => 0) 15 90) 16 (-1)) 18 (-1)) 21 1) (va_up (va_up (va_up (va_up (va_up (va_up (va_up (va_up (va_up (va_up (va_up (va_up (va_up (va_up (va_up (va_up (va_up (va_up (fun _ => none) 2 (some q1)) 3 (some q2)) 4 (some q3)) 5 (some q4)) 7 (some q5)) 8 (some q6)) 9 (some q7)) 11 (some q8)) 12 (some q9)) 13 (some q10)) 14 (some q11)) 19 (some q12)) 23 (some q13)) 24 (some q14)) 25 (some q15)) 33 (some q16)) 34 (some q17)) 35 (some q18)), aI g q1 6 (fun _ => 0), aI g q2 6 (fun _ => 0), aI g q3 6 (fun _ => 0), aI g q4 6 (fun _ => 0), aI g q5 24 (fun _ => 0), aI g q6 24 (fun _ => 0), aI g q7 24 (fun _ => 0), aI g q8 8 (fun _ => 0), aI g q9 8 (fun _ => 0), aI g q10 8 (fun _ => 0), aI g q11 120 (lf L_X8_0 120), aB g q12 160 (fun _ => 0), aI g q13 1190 (fun _ => 0), aI g q14 1190 (fun _ => 0), aI g q15 21 (fun _ => 0), aI g q16 170 (fun _ => 0), aI g q17 6 (fun _ => 0), aI g q18 53 (lf L_X8_1 53), aI g q19 12 (lf L_X8_2 11)] := hG
  refine lv_dup hx hb dX8_init_1138 rfl ?_
  refine lv_bipush (v := 11) hx hb dX8_init_1139 (by decide) ?_
  refine lv_bipush (v := 15) hx hb dX8_init_1141 (by decide) ?_
  refine r_ilf X hG 19 rfl (by decide) (by decide) (by decide) (by decide +kernel) dX8_init_1143 (fun H locs hG => ?_)
  have hG : GM g A s.heap H locs [oX8 g o (va_up (va_up (va_up (va_up (fun _ => 0) 15 90) 16 (-1)) 18 (-1)) 21 1) (va_up (va_up (va_up (va_up (va_up (va_up (va_up (va_up (va_up (va_up (va_up (va_up (va_up (va_up (va_up (va_up (va_up (va_up (fun _ => none) 2 (some q1)) 3 (some q2)) 4 (some q3)) 5 (some q4)) 7 (some q5)) 8 (some q6)) 9 (some q7)) 11 (some q8)) 12 (some q9)) 13 (some q10)) 14 (some q11)) 19 (some q12)) 23 (some q13)) 24 (some q14)) 25 (some q15)) 33 (some q16)) 34 (some q17)) 35 (some q18)), aI g q1 6 (fun _ => 0), aI g q2 6 (fun _ => 0), aI g q3 6 (fun _ => 0), aI g q4 6 (fun _ => 0), aI g q5 24 (fun _ => 0), aI g q6 24 (fun _ => 0), aI g q7 24 (fun _ => 0), aI g q8 8 (fun _ => 0), aI g q9 8 (fun _ => 0), aI g q10 8 (fun _ => 0), aI g q11 120 (lf L_X8_0 120), aB g q12 160 (fun _ => 0), aI g q13 1190 (fun _ => 0), aI g q14 1190 (fun _ => 0), aI g q15 21 (fun _ => 0), aI g q16 170 (fun _ => 0), aI g q17 6 (fun _ => 0), aI g q18 53 (lf L_X8_1 53), aI g q19 12 (lf L_X8_2 12)] := hG
  refine PO_8_78 X hmn hG 0 rfl dX8_init_1144 (fun H locs hG => ?_)
  have hG : GM g A s.heap H locs [oX8 g o (va_up (va_up (va_up (va_up (fun _ => 0) 15 90) 16 (-1)) 18 (-1)) 21 1) (va_up (va_up (va_up (va_up (va_up (va_up (va_up (va_up (va_up (va_up (va_up (va_up (va_up (va_up (va_up (va_up (va_up (va_up (va_up (fun _ => none) 2 (some q1)) 3 (some q2)) 4 (some q3)) 5 (some q4)) 7 (some q5)) 8 (some q6)) 9 (some q7)) 11 (some q8)) 12 (some q9)) 13 (some q10)) 14 (some q11)) 19 (some q12)) 23 (some q13)) 24 (some q14)) 25 (some q15)) 33 (some q16)) 34 (some q17)) 35 (some q18)) 36 (some q19)), aI g q1 6 (fun _ => 0), aI g q2 6 (fun _ => 0), aI g q3 6 (fun _ => 0), aI g q4 6 (fun _ => 0), aI g q5 24 (fun _ => 0), aI g q6 24 (fun _ => 0), aI g q7 24 (fun _ => 0), aI g q8 8 (fun _ => 0), aI g q9 8 (fun _ => 0), aI g q10 8 (fun _ => 0), aI g q11 120 (lf L_X8_0 120), aB g q12 160 (fun _ => 0), aI g q13 1190 (fun _ => 0), aI g q14 1190 (fun _ => 0), aI g q15 21 (fun _ => 0), aI g q16 170 (fun _ => 0), aI g q17 6 (fun _ => 0), aI g q18 53 (lf L_X8_1 53), aI g q19 12 (lf L_X8_2 12)] := hG
  refine lv_aload_n hx hb dX8_init_1147 rfl (lv_at hl 0 rfl) ?_
  refine lv_bipush (v := 6) hx hb dX8_init_1148 (by decide) ?_
  refine r_newI (N' := 6) X hG (by decide) (by decide) (by decide) (by show (_ : Nat) ≤ _; decide) (by show (_ : Nat) ≤ _; decide) dX8_init_1150 (fun q20 H hG => ?_)
  have hG : GM g A s.heap H locs [oX8 g o (va_up (va_up (va_up (va_up (fun _ => 0) 15 90) 16 (-1)) 18 (-1)) 21 1) (va_up (va_up (va_up (va_up (va_up (va_up (va_up (va_up (va_up (va_up (va_up (va_up (va_up (va_up (va_up (va_up (va_up (va_up (va_up (fun _ => none) 2 (some q1)) 3 (some q2)) 4 (some q3)) 5 (some q4)) 7 (some q5)) 8 (some q6)) 9 (some q7)) 11 (some q8)) 12 (some q9)) 13 (some q10)) 14 (some q11)) 19 (some q12)) 23 (some q13)) 24 (some q14)) 25 (some q15)) 33 (some q16)) 34 (some q17)) 35 (some q18)) 36 (some q19)), aI g q1 6 (fun _ => 0), aI g q2 6 (fun _ => 0), aI g q3 6 (fun _ => 0), aI g q4 6 (fun _ => 0), aI g q5 24 (fun _ => 0), aI g q6 24 (fun _ => 0), aI g q7 24 (fun _ => 0), aI g q8 8 (fun _ => 0), aI g q9 8 (fun _ => 0), aI g q10 8 (fun _ => 0), aI g q11 120 (lf L_X8_0 120), aB g q12 160 (fun _ => 0), aI g q13 1190 (fun _ => 0), aI g q14 1190 (fun _ => 0), aI g q15 21 (fun _ => 0), aI g q16 170 (fun _ => 0), aI g q17 6 (fun _ => 0), aI g q18 53 (lf L_X8_1 53), aI g q19 12 (lf L_X8_2 12), aI g q20 6 (fun _ => 0)] := hG
  refine W.widen (k := 20) (n := 3048) (by omega) (by omega) ?_
  refine PO_8_81 X hmn hG 0 rfl dX8_init_1152 (fun H locs hG => ?_)
  have hG : GM g A s.heap H locs [oX8 g o (va_up (va_up (va_up (va_up (fun _ => 0) 15 90) 16 (-1)) 18 (-1)) 21 1) (va_up (va_up (va_up (va_up (va_up (va_up (va_up (va_up (va_up (va_up (va_up (va_up (va_up (va_up (va_up (va_up (va_up (va_up (va_up (va_up (fun _ => none) 2 (some q1)) 3 (some q2)) 4 (some q3)) 5 (some q4)) 7 (some q5)) 8 (some q6)) 9 (some q7)) 11 (some q8)) 12 (some q9)) 13 (some q10)) 14 (some q11)) 19 (some q12)) 23 (some q13)) 24 (some q14)) 25 (some q15)) 33 (some q16)) 34 (some q17)) 35 (some q18)) 36 (some q19)) 37 (some q20)), aI g q1 6 (fun _ => 0), aI g q2 6 (fun _ => 0), aI g q3 6 (fun _ => 0), aI g q4 6 (fun _ => 0), aI g q5 24 (fun _ => 0), aI g q6 24 (fun _ => 0), aI g q7 24 (fun _ => 0), aI g q8 8 (fun _ => 0), aI g q9 8 (fun _ => 0), aI g q10 8 (fun _ => 0), aI g q11 120 (lf L_X8_0 120), aB g q12 160 (fun _ => 0), aI g q13 1190 (fun _ => 0), aI g q14 1190 (fun _ => 0), aI g q15 21 (fun _ => 0), aI g q16 170 (fun _ => 0), aI g q17 6 (fun _ => 0), aI g q18 53 (lf L_X8_1 53), aI g q19 12 (lf L_X8_2 12), aI g q20 6 (fun _ => 0)] := hG
  refine lv_aload_n hx hb dX8_init_1155 rfl (lv_at hl 0 rfl) ?_
  refine lv_sipush (v := 960) hx hb dX8_init_1156 (by decide) ?_
  refine r_newI (N' := 960) X hG (by decide) (by decide) (by decide) (by show (_ : Nat) ≤ _; decide) (by show (_ : Nat) ≤ _; decide) dX8_init_1159 (fun q21 H hG => ?_)
  have hG : GM g A s.heap H locs [oX8 g o (va_up (va_up (va_up (va_up (fun _ => 0) 15 90) 16 (-1)) 18 (-1)) 21 1) (va_up (va_up (va_up (va_up (va_up (va_up (va_up (va_up (va_up (va_up (va_up (va_up (va_up (va_up (va_up (va_up (va_up (va_up (va_up (va_up (fun _ => none) 2 (some q1)) 3 (some q2)) 4 (some q3)) 5 (some q4)) 7 (some q5)) 8 (some q6)) 9 (some q7)) 11 (some q8)) 12 (some q9)) 13 (some q10)) 14 (some q11)) 19 (some q12)) 23 (some q13)) 24 (some q14)) 25 (some q15)) 33 (some q16)) 34 (some q17)) 35 (some q18)) 36 (some q19)) 37 (some q20)), aI g q1 6 (fun _ => 0), aI g q2 6 (fun _ => 0), aI g q3 6 (fun _ => 0), aI g q4 6 (fun _ => 0), aI g q5 24 (fun _ => 0), aI g q6 24 (fun _ => 0), aI g q7 24 (fun _ => 0), aI g q8 8 (fun _ => 0), aI g q9 8 (fun _ => 0), aI g q10 8 (fun _ => 0), aI g q11 120 (lf L_X8_0 120), aB g q12 160 (fun _ => 0), aI g q13 1190 (fun _ => 0), aI g q14 1190 (fun _ => 0), aI g q15 21 (fun _ => 0), aI g q16 170 (fun _ => 0), aI g q17 6 (fun _ => 0), aI g q18 53 (lf L_X8_1 53), aI g q19 12 (lf L_X8_2 12), aI g q20 6 (fun _ => 0), aI g q21 960 (fun _ => 0)] := hG
  refine W.widen (k := 21) (n := 4008) (by omega) (by omega) ?_
  refine PO_8_84 X hmn hG 0 rfl dX8_init_1161 (fun H locs hG => ?_)
  have hG : GM g A s.heap H locs [oX8 g o (va_up (va_up (va_up (va_up (fun _ => 0) 15 90) 16 (-1)) 18 (-1)) 21 1) (va_up (va_up (va_up (va_up (va_up (va_up (va_up (va_up (va_up (va_up (va_up (va_up (va_up (va_up (va_up (va_up (va_up (va_up (va_up (va_up (va_up (fun _ => none) 2 (some q1)) 3 (some q2)) 4 (some q3)) 5 (some q4)) 7 (some q5)) 8 (some q6)) 9 (some q7)) 11 (some q8)) 12 (some q9)) 13 (some q10)) 14 (some q11)) 19 (some q12)) 23 (some q13)) 24 (some q14)) 25 (some q15)) 33 (some q16)) 34 (some q17)) 35 (some q18)) 36 (some q19)) 37 (some q20)) 38 (some q21)), aI g q1 6 (fun _ => 0), aI g q2 6 (fun _ => 0), aI g q3 6 (fun _ => 0), aI g q4 6 (fun _ => 0), aI g q5 24 (fun _ => 0), aI g q6 24 (fun _ => 0), aI g q7 24 (fun _ => 0), aI g q8 8 (fun _ => 0), aI g q9 8 (fun _ => 0), aI g q10 8 (fun _ => 0), aI g q11 120 (lf L_X8_0 120), aB g q12 160 (fun _ => 0), aI g q13 1190 (fun _ => 0), aI g q14 1190 (fun _ => 0), aI g q15 21 (fun _ => 0), aI g q16 170 (fun _ => 0), aI g q17 6 (fun _ => 0), aI g q18 53 (lf L_X8_1 53), aI g q19 12 (lf L_X8_2 12), aI g q20 6 (fun _ => 0), aI g q21 960 (fun _ => 0)] := hG
  refine lv_aload_n hx hb dX8_init_1164 rfl (lv_at hl 0 rfl) ?_
  refine lv_sipush (v := 720) hx hb dX8_init_1165 (by decide) ?_
  refine r_newI (N' := 720) X hG (by decide) (by decide) (by decide) (by show (_ : Nat) ≤ _; decide) (by show (_ : Nat) ≤ _; decide) dX8_init_1168 (fun q22 H hG => ?_)
  have hG : GM g A s.heap H locs [oX8 g o (va_up (va_up (va_up (va_up (fun _ => 0) 15 90) 16 (-1)) 18 (-1)) 21 1) (va_up (va_up (va_up (va_up (va_up (va_up (va_up (va_up (va_up (va_up (va_up (va_up (va_up (va_up (va_up (va_up (va_up (va_up (va_up (va_up (va_up (fun _ => none) 2 (some q1)) 3 (some q2)) 4 (some q3)) 5 (some q4)) 7 (some q5)) 8 (some q6)) 9 (some q7)) 11 (some q8)) 12 (some q9)) 13 (some q10)) 14 (some q11)) 19 (some q12)) 23 (some q13)) 24 (some q14)) 25 (some q15)) 33 (some q16)) 34 (some q17)) 35 (some q18)) 36 (some q19)) 37 (some q20)) 38 (some q21)), aI g q1 6 (fun _ => 0), aI g q2 6 (fun _ => 0), aI g q3 6 (fun _ => 0), aI g q4 6 (fun _ => 0), aI g q5 24 (fun _ => 0), aI g q6 24 (fun _ => 0), aI g q7 24 (fun _ => 0), aI g q8 8 (fun _ => 0), aI g q9 8 (fun _ => 0), aI g q10 8 (fun _ => 0), aI g q11 120 (lf L_X8_0 120), aB g q12 160 (fun _ => 0), aI g q13 1190 (fun _ => 0), aI g q14 1190 (fun _ => 0), aI g q15 21 (fun _ => 0), aI g q16 170 (fun _ => 0), aI g q17 6 (fun _ => 0), aI g q18 53 (lf L_X8_1 53), aI g q19 12 (lf L_X8_2 12), aI g q20 6 (fun _ => 0), aI g q21 960 (fun _ => 0), aI g q22 720 (fun _ => 0)] := hG
  refine W.widen (k := 22) (n := 4728) (by omega) (by omega) ?_
  refine PO_8_87 X hmn hG 0 rfl dX8_init_1170 (fun H locs hG => ?_)
  have hG : GM g A s.heap H locs [oX8 g o (va_up (va_up (va_up (va_up (fun _ => 0) 15 90) 16 (-1)) 18 (-1)) 21 1) (va_up (va_up (va_up (va_up (va_up (va_up (va_up (va_up (va_up (va_up (va_up (va_up (va_up (va_up (va_up (va_up (va_up (va_up (va_up (va_up (va_up (va_up (fun _ => none) 2 (some q1)) 3 (some q2)) 4 (some q3)) 5 (some q4)) 7 (some q5)) 8 (some q6)) 9 (some q7)) 11 (some q8)) 12 (some q9)) 13 (some q10)) 14 (some q11)) 19 (some q12)) 23 (some q13)) 24 (some q14)) 25 (some q15)) 33 (some q16)) 34 (some q17)) 35 (some q18)) 36 (some q19)) 37 (some q20)) 38 (some q21)) 39 (some q22)), aI g q1 6 (fun _ => 0), aI g q2 6 (fun _ => 0), aI g q3 6 (fun _ => 0), aI g q4 6 (fun _ => 0), aI g q5 24 (fun _ => 0), aI g q6 24 (fun _ => 0), aI g q7 24 (fun _ => 0), aI g q8 8 (fun _ => 0), aI g q9 8 (fun _ => 0), aI g q10 8 (fun _ => 0), aI g q11 120 (lf L_X8_0 120), aB g q12 160 (fun _ => 0), aI g q13 1190 (fun _ => 0), aI g q14 1190 (fun _ => 0), aI g q15 21 (fun _ => 0), aI g q16 170 (fun _ => 0), aI g q17 6 (fun _ => 0), aI g q18 53 (lf L_X8_1 53), aI g q19 12 (lf L_X8_2 12), aI g q20 6 (fun _ => 0), aI g q21 960 (fun _ => 0), aI g q22 720 (fun _ => 0)] := hG
  refine lv_aload_n hx hb dX8_init_1173 rfl (lv_at hl 0 rfl) ?_
  refine lv_bipush (v := 24) hx hb dX8_init_1174 (by decide) ?_
  refine r_newI (N' := 24) X hG (by decide) (by decide) (by decide) (by show (_ : Nat) ≤ _; decide) (by show (_ : Nat) ≤ _; decide) dX8_init_1176 (fun q23 H hG => ?_)
  have hG : GM g A s.heap H locs [oX8 g o (va_up (va_up (va_up (va_up (fun _ => 0) 15 90) 16 (-1)) 18 (-1)) 21 1) (va_up (va_up (va_up (va_up (va_up (va_up (va_up (va_up (va_up (va_up (va_up (va_up (va_up (va_up (va_up (va_up (va_up (va_up (va_up (va_up (va_up (va_up (fun _ => none) 2 (some q1)) 3 (some q2)) 4 (some q3)) 5 (some q4)) 7 (some q5)) 8 (some q6)) 9 (some q7)) 11 (some q8)) 12 (some q9)) 13 (some q10)) 14 (some q11)) 19 (some q12)) 23 (some q13)) 24 (some q14)) 25 (some q15)) 33 (some q16)) 34 (some q17)) 35 (some q18)) 36 (some q19)) 37 (some q20)) 38 (some q21)) 39 (some q22)), aI g q1 6 (fun _ => 0), aI g q2 6 (fun _ => 0), aI g q3 6 (fun _ => 0), aI g q4 6 (fun _ => 0), aI g q5 24 (fun _ => 0), aI g q6 24 (fun _ => 0), aI g q7 24 (fun _ => 0), aI g q8 8 (fun _ => 0), aI g q9 8 (fun _ => 0), aI g q10 8 (fun _ => 0), aI g q11 120 (lf L_X8_0 120), aB g q12 160 (fun _ => 0), aI g q13 1190 (fun _ => 0), aI g q14 1190 (fun _ => 0), aI g q15 21 (fun _ => 0), aI g q16 170 (fun _ => 0), aI g q17 6 (fun _ => 0), aI g q18 53 (lf L_X8_1 53), aI g q19 12 (lf L_X8_2 12), aI g q20 6 (fun _ => 0), aI g q21 960 (fun _ => 0), aI g q22 720 (fun _ => 0), aI g q23 24 (fun _ => 0)] := hG
  refine W.widen (k := 23) (n := 4752) (by omega) (by omega) ?_
  refine PO_8_90 X hmn hG 0 rfl dX8_init_1178 (fun H locs hG => ?_)
  have hG : GM g A s.heap H locs [oX8 g o (va_up (va_up (va_up (va_up (fun _ => 0) 15 90) 16 (-1)) 18 (-1)) 21 1) (va_up (va_up (va_up (va_up (va_up (va_up (va_up (va_up (va_up (va_up (va_up (va_up (va_up (va_up (va_up (va_up (va_up (va_up (va_up (va_up (va_up (va_up (va_up (fun _ => none) 2 (some q1)) 3 (some q2)) 4 (some q3)) 5 (some q4)) 7 (some q5)) 8 (some q6)) 9 (some q7)) 11 (some q8)) 12 (some q9)) 13 (some q10)) 14 (some q11)) 19 (some q12)) 23 (some q13)) 24 (some q14)) 25 (some q15)) 33 (some q16)) 34 (some q17)) 35 (some q18)) 36 (some q19)) 37 (some q20)) 38 (some q21)) 39 (some q22)) 40 (some q23)), aI g q1 6 (fun _ => 0), aI g q2 6 (fun _ => 0), aI g q3 6 (fun _ => 0), aI g q4 6 (fun _ => 0), aI g q5 24 (fun _ => 0), aI g q6 24 (fun _ => 0), aI g q7 24 (fun _ => 0), aI g q8 8 (fun _ => 0), aI g q9 8 (fun _ => 0), aI g q10 8 (fun _ => 0), aI g q11 120 (lf L_X8_0 120), aB g q12 160 (fun _ => 0), aI g q13 1190 (fun _ => 0), aI g q14 1190 (fun _ => 0), aI g q15 21 (fun _ => 0), aI g q16 170 (fun _ => 0), aI g q17 6 (fun _ => 0), aI g q18 53 (lf L_X8_1 53), aI g q19 12 (lf L_X8_2 12), aI g q20 6 (fun _ => 0), aI g q21 960 (fun _ => 0), aI g q22 720 (fun _ => 0), aI g q23 24 (fun _ => 0)] := hG
  refine lv_aload_n hx hb dX8_init_1181 rfl (lv_at hl 0 rfl) ?_
  refine lv_sipush (v := 720) hx hb dX8_init_1182 (by decide) ?_
  refine r_newI (N' := 720) X hG (by decide) (by decide) (by decide) (by show (_ : Nat) ≤ _; decide) (by show (_ : Nat) ≤ _; decide) dX8_init_1185 (fun q24 H hG => ?_)
  have hG : GM g A s.heap H locs [oX8 g o (va_up (va_up (va_up (va_up (fun _ => 0) 15 90) 16 (-1)) 18 (-1)) 21 1) (va_up (va_up (va_up (va_up (va_up (va_up (va_up (va_up (va_up (va_up (va_up (va_up (va_up (va_up (va_up (va_up (va_up (va_up (va_up (va_up (va_up (va_up (va_up (fun _ => none) 2 (some q1)) 3 (some q2)) 4 (some q3)) 5 (some q4)) 7 (some q5)) 8 (some q6)) 9 (some q7)) 11 (some q8)) 12 (some q9)) 13 (some q10)) 14 (some q11)) 19 (some q12)) 23 (some q13)) 24 (some q14)) 25 (some q15)) 33 (some q16)) 34 (some q17)) 35 (some q18)) 36 (some q19)) 37 (some q20)) 38 (some q21)) 39 (some q22)) 40 (some q23)), aI g q1 6 (fun _ => 0), aI g q2 6 (fun _ => 0), aI g q3 6 (fun _ => 0), aI g q4 6 (fun _ => 0), aI g q5 24 (fun _ => 0), aI g q6 24 (fun _ => 0), aI g q7 24 (fun _ => 0), aI g q8 8 (fun _ => 0), aI g q9 8 (fun _ => 0), aI g q10 8 (fun _ => 0), aI g q11 120 (lf L_X8_0 120), aB g q12 160 (fun _ => 0), aI g q13 1190 (fun _ => 0), aI g q14 1190 (fun _ => 0), aI g q15 21 (fun _ => 0), aI g q16 170 (fun _ => 0), aI g q17 6 (fun _ => 0), aI g q18 53 (lf L_X8_1 53), aI g q19 12 (lf L_X8_2 12), aI g q20 6 (fun _ => 0), aI g q21 960 (fun _ => 0), aI g q22 720 (fun _ => 0), aI g q23 24 (fun _ => 0), aI g q24 720 (fun _ => 0)] := hG
  refine W.widen (k := 24) (n := 5472) (by omega) (by omega) ?_
  refine PO_8_93 X hmn hG 0 rfl dX8_init_1187 (fun H locs hG => ?_)
  have hG : GM g A s.heap H locs [oX8 g o (va_up (va_up (va_up (va_up (fun _ => 0) 15 90) 16 (-1)) 18 (-1)) 21 1) (va_up (va_up (va_up (va_up (va_up (va_up (va_up (va_up (va_up (va_up (va_up (va_up (va_up (va_up (va_up (va_up (va_up (va_up (va_up (va_up (va_up (va_up (va_up (va_up (fun _ => none) 2 (some q1)) 3 (some q2)) 4 (some q3)) 5 (some q4)) 7 (some q5)) 8 (some q6)) 9 (some q7)) 11 (some q8)) 12 (some q9)) 13 (some q10)) 14 (some q11)) 19 (some q12)) 23 (some q13)) 24 (some q14)) 25 (some q15)) 33 (some q16)) 34 (some q17)) 35 (some q18)) 36 (some q19)) 37 (some q20)) 38 (some q21)) 39 (some q22)) 40 (some q23)) 41 (some q24)), aI g q1 6 (fun _ => 0), aI g q2 6 (fun _ => 0), aI g q3 6 (fun _ => 0), aI g q4 6 (fun _ => 0), aI g q5 24 (fun _ => 0), aI g q6 24 (fun _ => 0), aI g q7 24 (fun _ => 0), aI g q8 8 (fun _ => 0), aI g q9 8 (fun _ => 0), aI g q10 8 (fun _ => 0), aI g q11 120 (lf L_X8_0 120), aB g q12 160 (fun _ => 0), aI g q13 1190 (fun _ => 0), aI g q14 1190 (fun _ => 0), aI g q15 21 (fun _ => 0), aI g q16 170 (fun _ => 0), aI g q17 6 (fun _ => 0), aI g q18 53 (lf L_X8_1 53), aI g q19 12 (lf L_X8_2 12), aI g q20 6 (fun _ => 0), aI g q21 960 (fun _ => 0), aI g q22 720 (fun _ => 0), aI g q23 24 (fun _ => 0), aI g q24 720 (fun _ => 0)] := hG
  refine lv_aload_n hx hb dX8_init_1190 rfl (lv_at hl 0 rfl) ?_
  refine lv_bipush (v := 6) hx hb dX8_init_1191 (by decide) ?_
  refine r_newI (N' := 6) X hG (by decide) (by decide) (by decide) (by show (_ : Nat) ≤ _; decide) (by show (_ : Nat) ≤ _; decide) dX8_init_1193 (fun q25 H hG => ?_)
  have hG : GM g A s.heap H locs [oX8 g o (va_up (va_up (va_up (va_up (fun _ => 0) 15 90) 16 (-1)) 18 (-1)) 21 1) (va_up (va_up (va_up (va_up (va_up (va_up (va_up (va_up (va_up (va_up (va_up (va_up (va_up (va_up (va_up (va_up (va_up (va_up (va_up (va_up (va_up (va_up (va_up (va_up (fun _ => none) 2 (some q1)) 3 (some q2)) 4 (some q3)) 5 (some q4)) 7 (some q5)) 8 (some q6)) 9 (some q7)) 11 (some q8)) 12 (some q9)) 13 (some q10)) 14 (some q11)) 19 (some q12)) 23 (some q13)) 24 (some q14)) 25 (some q15)) 33 (some q16)) 34 (some q17)) 35 (some q18)) 36 (some q19)) 37 (some q20)) 38 (some q21)) 39 (some q22)) 40 (some q23)) 41 (some q24)), aI g q1 6 (fun _ => 0), aI g q2 6 (fun _ => 0), aI g q3 6 (fun _ => 0), aI g q4 6 (fun _ => 0), aI g q5 24 (fun _ => 0), aI g q6 24 (fun _ => 0), aI g q7 24 (fun _ => 0), aI g q8 8 (fun _ => 0), aI g q9 8 (fun _ => 0), aI g q10 8 (fun _ => 0), aI g q11 120 (lf L_X8_0 120), aB g q12 160 (fun _ => 0), aI g q13 1190 (fun _ => 0), aI g q14 1190 (fun _ => 0), aI g q15 21 (fun _ => 0), aI g q16 170 (fun _ => 0), aI g q17 6 (fun _ => 0), aI g q18 53 (lf L_X8_1 53), aI g q19 12 (lf L_X8_2 12), aI g q20 6 (fun _ => 0), aI g q21 960 (fun _ => 0), aI g q22 720 (fun _ => 0), aI g q23 24 (fun _ => 0), aI g q24 720 (fun _ => 0), aI g q25 6 (fun _ => 0)] := hG
  refine W.widen (k := 25) (n := 5478) (by omega) (by omega) ?_
  refine PO_8_96 X hmn hG 0 rfl dX8_init_1195 (fun H locs hG => ?_)
  have hG : GM g A s.heap H locs [oX8 g o (va_up (va_up (va_up (va_up (fun _ => 0) 15 90) 16 (-1)) 18 (-1)) 21 1) (va_up (va_up (va_up (va_up (va_up (va_up (va_up (va_up (va_up (va_up (va_up (va_up (va_up (va_up (va_up (va_up (va_up (va_up (va_up (va_up (va_up (va_up (va_up (va_up (va_up (fun _ => none) 2 (some q1)) 3 (some q2)) 4 (some q3)) 5 (some q4)) 7 (some q5)) 8 (some q6)) 9 (some q7)) 11 (some q8)) 12 (some q9)) 13 (some q10)) 14 (some q11)) 19 (some q12)) 23 (some q13)) 24 (some q14)) 25 (some q15)) 33 (some q16)) 34 (some q17)) 35 (some q18)) 36 (some q19)) 37 (some q20)) 38 (some q21)) 39 (some q22)) 40 (some q23)) 41 (some q24)) 42 (some q25)), aI g q1 6 (fun _ => 0), aI g q2 6 (fun _ => 0), aI g q3 6 (fun _ => 0), aI g q4 6 (fun _ => 0), aI g q5 24 (fun _ => 0), aI g q6 24 (fun _ => 0), aI g q7 24 (fun _ => 0), aI g q8 8 (fun _ => 0), aI g q9 8 (fun _ => 0), aI g q10 8 (fun _ => 0), aI g q11 120 (lf L_X8_0 120), aB g q12 160 (fun _ => 0), aI g q13 1190 (fun _ => 0), aI g q14 1190 (fun _ => 0), aI g q15 21 (fun _ => 0), aI g q16 170 (fun _ => 0), aI g q17 6 (fun _ => 0), aI g q18 53 (lf L_X8_1 53), aI g q19 12 (lf L_X8_2 12), aI g q20 6 (fun _ => 0), aI g q21 960 (fun _ => 0), aI g q22 720 (fun _ => 0), aI g q23 24 (fun _ => 0), aI g q24 720 (fun _ => 0), aI g q25 6 (fun _ => 0)] := hG
  refine lv_aload_n hx hb dX8_init_1198 rfl (lv_at hl 0 rfl) ?_
  refine lv_bipush (v := 6) hx hb dX8_init_1199 (by decide) ?_
  refine r_newI (N' := 6) X hG (by decide) (by decide) (by decide) (by show (_ : Nat) ≤ _; decide) (by show (_ : Nat) ≤ _; decide) dX8_init_1201 (fun q26 H hG => ?_)
  have hG : GM g A s.heap H locs [oX8 g o (va_up (va_up (va_up (va_up (fun _ => 0) 15 90) 16 (-1)) 18 (-1)) 21 1) (va_up (va_up (va_up (va_up (va_up (va_up (va_up (va_up (va_up (va_up (va_up (va_up (va_up (va_up (va_up (va_up (va_up (va_up (va_up (va_up (va_up (va_up (va_up (va_up (va_up (fun _ => none) 2 (some q1)) 3 (some q2)) 4 (some q3)) 5 (some q4)) 7 (some q5)) 8 (some q6)) 9 (some q7)) 11 (some q8)) 12 (some q9)) 13 (some q10)) 14 (some q11)) 19 (some q12)) 23 (some q13)) 24 (some q14)) 25 (some q15)) 33 (some q16)) 34 (some q17)) 35 (some q18)) 36 (some q19)) 37 (some q20)) 38 (some q21)) 39 (some q22)) 40 (some q23)) 41 (some q24)) 42 (some q25)), aI g q1 6 (fun _ => 0), aI g q2 6 (fun _ => 0), aI g q3 6 (fun _ => 0), aI g q4 6 (fun _ => 0), aI g q5 24 (fun _ => 0), aI g q6 24 (fun _ => 0), aI g q7 24 (fun _ => 0), aI g q8 8 (fun _ => 0), aI g q9 8 (fun _ => 0), aI g q10 8 (fun _ => 0), aI g q11 120 (lf L_X8_0 120), aB g q12 160 (fun _ => 0), aI g q13 1190 (fun _ => 0), aI g q14 1190 (fun _ => 0), aI g q15 21 (fun _ => 0), aI g q16 170 (fun _ => 0), aI g q17 6 (fun _ => 0), aI g q18 53 (lf L_X8_1 53), aI g q19 12 (lf L_X8_2 12), aI g q20 6 (fun _ => 0), aI g q21 960 (fun _ => 0), aI g q22 720 (fun _ => 0), aI g q23 24 (fun _ => 0), aI g q24 720 (fun _ => 0), aI g q25 6 (fun _ => 0), aI g q26 6 (fun _ => 0)] := hG
  refine W.widen (k := 26) (n := 5484) (by omega) (by omega) ?_
  refine PO_8_99 X hmn hG 0 rfl dX8_init_1203 (fun H locs hG => ?_)
  have hG : GM g A s.heap H locs [oX8 g o (va_up (va_up (va_up (va_up (fun _ => 0) 15 90) 16 (-1)) 18 (-1)) 21 1) (va_up (va_up (va_up (va_up (va_up (va_up (va_up (va_up (va_up (va_up (va_up (va_up (va_up (va_up (va_up (va_up (va_up (va_up (va_up (va_up (va_up (va_up (va_up (va_up (va_up (va_up (fun _ => none) 2 (some q1)) 3 (some q2)) 4 (some q3)) 5 (some q4)) 7 (some q5)) 8 (some q6)) 9 (some q7)) 11 (some q8)) 12 (some q9)) 13 (some q10)) 14 (some q11)) 19 (some q12)) 23 (some q13)) 24 (some q14)) 25 (some q15)) 33 (some q16)) 34 (some q17)) 35 (some q18)) 36 (some q19)) 37 (some q20)) 38 (some q21)) 39 (some q22)) 40 (some q23)) 41 (some q24)) 42 (some q25)) 52 (some q26)), aI g q1 6 (fun _ => 0), aI g q2 6 (fun _ => 0), aI g q3 6 (fun _ => 0), aI g q4 6 (fun _ => 0), aI g q5 24 (fun _ => 0), aI g q6 24 (fun _ => 0), aI g q7 24 (fun _ => 0), aI g q8 8 (fun _ => 0), aI g q9 8 (fun _ => 0), aI g q10 8 (fun _ => 0), aI g q11 120 (lf L_X8_0 120), aB g q12 160 (fun _ => 0), aI g q13 1190 (fun _ => 0), aI g q14 1190 (fun _ => 0), aI g q15 21 (fun _ => 0), aI g q16 170 (fun _ => 0), aI g q17 6 (fun _ => 0), aI g q18 53 (lf L_X8_1 53), aI g q19 12 (lf L_X8_2 12), aI g q20 6 (fun _ => 0), aI g q21 960 (fun _ => 0), aI g q22 720 (fun _ => 0), aI g q23 24 (fun _ => 0), aI g q24 720 (fun _ => 0), aI g q25 6 (fun _ => 0), aI g q26 6 (fun _ => 0)] := hG
  refine lv_aload_n hx hb dX8_init_1206 rfl (lv_at hl 0 rfl) ?_
  refine lv_bipush (v := 6) hx hb dX8_init_1207 (by decide) ?_
  refine r_newI (N' := 6) X hG (by decide) (by decide) (by decide) (by show (_ : Nat) ≤ _; decide) (by show (_ : Nat) ≤ _; decide) dX8_init_1209 (fun q27 H hG => ?_)
  have hG : GM g A s.heap H locs [oX8 g o (va_up (va_up (va_up (va_up (fun _ => 0) 15 90) 16 (-1)) 18 (-1)) 21 1) (va_up (va_up (va_up (va_up (va_up (va_up (va_up (va_up (va_up (va_up (va_up (va_up (va_up (va_up (va_up (va_up (va_up (va_up (va_up (va_up (va_up (va_up (va_up (va_up (va_up (va_up (fun _ => none) 2 (some q1)) 3 (some q2)) 4 (some q3)) 5 (some q4)) 7 (some q5)) 8 (some q6)) 9 (some q7)) 11 (some q8)) 12 (some q9)) 13 (some q10)) 14 (some q11)) 19 (some q12)) 23 (some q13)) 24 (some q14)) 25 (some q15)) 33 (some q16)) 34 (some q17)) 35 (some q18)) 36 (some q19)) 37 (some q20)) 38 (some q21)) 39 (some q22)) 40 (some q23)) 41 (some q24)) 42 (some q25)) 52 (some q26)), aI g q1 6 (fun _ => 0), aI g q2 6 (fun _ => 0), aI g q3 6 (fun _ => 0), aI g q4 6 (fun _ => 0), aI g q5 24 (fun _ => 0), aI g q6 24 (fun _ => 0), aI g q7 24 (fun _ => 0), aI g q8 8 (fun _ => 0), aI g q9 8 (fun _ => 0), aI g q10 8 (fun _ => 0), aI g q11 120 (lf L_X8_0 120), aB g q12 160 (fun _ => 0), aI g q13 1190 (fun _ => 0), aI g q14 1190 (fun _ => 0), aI g q15 21 (fun _ => 0), aI g q16 170 (fun _ => 0), aI g q17 6 (fun _ => 0), aI g q18 53 (lf L_X8_1 53), aI g q19 12 (lf L_X8_2 12), aI g q20 6 (fun _ => 0), aI g q21 960 (fun _ => 0), aI g q22 720 (fun _ => 0), aI g q23 24 (fun _ => 0), aI g q24 720 (fun _ => 0), aI g q25 6 (fun _ => 0), aI g q26 6 (fun _ => 0), aI g q27 6 (fun _ => 0)] := hG
  refine W.widen (k := 27) (n := 5490) (by omega) (by omega) ?_
  refine PO_8_102 X hmn hG 0 rfl dX8_init_1211 (fun H locs hG => ?_)
  have hG : GM g A s.heap H locs [oX8 g o (va_up (va_up (va_up (va_up (fun _ => 0) 15 90) 16 (-1)) 18 (-1)) 21 1) (va_up (va_up (va_up (va_up (va_up (va_up (va_up (va_up (va_up (va_up (va_up (va_up (va_up (va_up (va_up (va_up (va_up (va_up (va_up (va_up (va_up (va_up (va_up (va_up (va_up (va_up (va_up (fun _ => none) 2 (some q1)) 3 (some q2)) 4 (some q3)) 5 (some q4)) 7 (some q5)) 8 (some q6)) 9 (some q7)) 11 (some q8)) 12 (some q9)) 13 (some q10)) 14 (some q11)) 19 (some q12)) 23 (some q13)) 24 (some q14)) 25 (some q15)) 33 (some q16)) 34 (some q17)) 35 (some q18)) 36 (some q19)) 37 (some q20)) 38 (some q21)) 39 (some q22)) 40 (some q23)) 41 (some q24)) 42 (some q25)) 52 (some q26)) 53 (some q27)), aI g q1 6 (fun _ => 0), aI g q2 6 (fun _ => 0), aI g q3 6 (fun _ => 0), aI g q4 6 (fun _ => 0), aI g q5 24 (fun _ => 0), aI g q6 24 (fun _ => 0), aI g q7 24 (fun _ => 0), aI g q8 8 (fun _ => 0), aI g q9 8 (fun _ => 0), aI g q10 8 (fun _ => 0), aI g q11 120 (lf L_X8_0 120), aB g q12 160 (fun _ => 0), aI g q13 1190 (fun _ => 0), aI g q14 1190 (fun _ => 0), aI g q15 21 (fun _ => 0), aI g q16 170 (fun _ => 0), aI g q17 6 (fun _ => 0), aI g q18 53 (lf L_X8_1 53), aI g q19 12 (lf L_X8_2 12), aI g q20 6 (fun _ => 0), aI g q21 960 (fun _ => 0), aI g q22 720 (fun _ => 0), aI g q23 24 (fun _ => 0), aI g q24 720 (fun _ => 0), aI g q25 6 (fun _ => 0), aI g q26 6 (fun _ => 0), aI g q27 6 (fun _ => 0)] := hG
  refine lv_aload_n hx hb dX8_init_1214 rfl (lv_at hl 0 rfl) ?_
  refine lv_bipush (v := 6) hx hb dX8_init_1215 (by decide) ?_
  refine r_newI (N' := 6) X hG (by decide) (by decide) (by decide) (by show (_ : Nat) ≤ _; decide) (by show (_ : Nat) ≤ _; decide) dX8_init_1217 (fun q28 H hG => ?_)
  have hG : GM g A s.heap H locs [oX8 g o (va_up (va_up (va_up (va_up (fun _ => 0) 15 90) 16 (-1)) 18 (-1)) 21 1) (va_up (va_up (va_up (va_up (va_up (va_up (va_up (va_up (va_up (va_up (va_up (va_up (va_up (va_up (va_up (va_up (va_up (va_up (va_up (va_up (va_up (va_up (va_up (va_up (va_up (va_up (va_up (fun _ => none) 2 (some q1)) 3 (some q2)) 4 (some q3)) 5 (some q4)) 7 (some q5)) 8 (some q6)) 9 (some q7)) 11 (some q8)) 12 (some q9)) 13 (some q10)) 14 (some q11)) 19 (some q12)) 23 (some q13)) 24 (some q14)) 25 (some q15)) 33 (some q16)) 34 (some q17)) 35 (some q18)) 36 (some q19)) 37 (some q20)) 38 (some q21)) 39 (some q22)) 40 (some q23)) 41 (some q24)) 42 (some q25)) 52 (some q26)) 53 (some q27)), aI g q1 6 (fun _ => 0), aI g q2 6 (fun _ => 0), aI g q3 6 (fun _ => 0), aI g q4 6 (fun _ => 0), aI g q5 24 (fun _ => 0), aI g q6 24 (fun _ => 0), aI g q7 24 (fun _ => 0), aI g q8 8 (fun _ => 0), aI g q9 8 (fun _ => 0), aI g q10 8 (fun _ => 0), aI g q11 120 (lf L_X8_0 120), aB g q12 160 (fun _ => 0), aI g q13 1190 (fun _ => 0), aI g q14 1190 (fun _ => 0), aI g q15 21 (fun _ => 0), aI g q16 170 (fun _ => 0), aI g q17 6 (fun _ => 0), aI g q18 53 (lf L_X8_1 53), aI g q19 12 (lf L_X8_2 12), aI g q20 6 (fun _ => 0), aI g q21 960 (fun _ => 0), aI g q22 720 (fun _ => 0), aI g q23 24 (fun _ => 0), aI g q24 720 (fun _ => 0), aI g q25 6 (fun _ => 0), aI g q26 6 (fun _ => 0), aI g q27 6 (fun _ => 0), aI g q28 6 (fun _ => 0)] := hG
  refine W.widen (k := 28) (n := 5496) (by omega) (by omega) ?_
  refine PO_8_105 X hmn hG 0 rfl dX8_init_1219 (fun H locs hG => ?_)
  have hG : GM g A s.heap H locs [oX8 g o (va_up (va_up (va_up (va_up (fun _ => 0) 15 90) 16 (-1)) 18 (-1)) 21 1) (va_up (va_up (va_up (va_up (va_up (va_up (va_up (va_up (va_up (va_up (va_up (va_up (va_up (va_up (va_up (va_up (va_up (va_up (va_up (va_up (va_up (va_up (va_up (va_up (va_up (va_up (va_up (va_up (fun _ => none) 2 (some q1)) 3 (some q2)) 4 (some q3)) 5 (some q4)) 7 (some q5)) 8 (some q6)) 9 (some q7)) 11 (some q8)) 12 (some q9)) 13 (some q10)) 14 (some q11)) 19 (some q12)) 23 (some q13)) 24 (some q14)) 25 (some q15)) 33 (some q16)) 34 (some q17)) 35 (some q18)) 36 (some q19)) 37 (some q20)) 38 (some q21)) 39 (some q22)) 40 (some q23)) 41 (some q24)) 42 (some q25)) 52 (some q26)) 53 (some q27)) 54 (some q28)), aI g q1 6 (fun _ => 0), aI g q2 6 (fun _ => 0), aI g q3 6 (fun _ => 0), aI g q4 6 (fun _ => 0), aI g q5 24 (fun _ => 0), aI g q6 24 (fun _ => 0), aI g q7 24 (fun _ => 0), aI g q8 8 (fun _ => 0), aI g q9 8 (fun _ => 0), aI g q10 8 (fun _ => 0), aI g q11 120 (lf L_X8_0 120), aB g q12 160 (fun _ => 0), aI g q13 1190 (fun _ => 0), aI g q14 1190 (fun _ => 0), aI g q15 21 (fun _ => 0), aI g q16 170 (fun _ => 0), aI g q17 6 (fun _ => 0), aI g q18 53 (lf L_X8_1 53), aI g q19 12 (lf L_X8_2 12), aI g q20 6 (fun _ => 0), aI g q21 960 (fun _ => 0), aI g q22 720 (fun _ => 0), aI g q23 24 (fun _ => 0), aI g q24 720 (fun _ => 0), aI g q25 6 (fun _ => 0), aI g q26 6 (fun _ => 0), aI g q27 6 (fun _ => 0), aI g q28 6 (fun _ => 0)] := hG
  refine lv_aload_n hx hb dX8_init_1222 rfl (lv_at hl 0 rfl) ?_
  refine lv_bipush (v := 6) hx hb dX8_init_1223 (by decide) ?_
  refine r_newI (N' := 6) X hG (by decide) (by decide) (by decide) (by show (_ : Nat) ≤ _; decide) (by show (_ : Nat) ≤ _; decide) dX8_init_1225 (fun q29 H hG => ?_)
  have hG : GM g A s.heap H locs [oX8 g o (va_up (va_up (va_up (va_up (fun _ => 0) 15 90) 16 (-1)) 18 (-1)) 21 1) (va_up (va_up (va_up (va_up (va_up (va_up (va_up (va_up (va_up (va_up (va_up (va_up (va_up (va_up (va_up (va_up (va_up (va_up (va_up (va_up (va_up (va_up (va_up (va_up (va_up (va_up (va_up (va_up (fun _ => none) 2 (some q1)) 3 (some q2)) 4 (some q3)) 5 (some q4)) 7 (some q5)) 8 (some q6)) 9 (some q7)) 11 (some q8)) 12 (some q9)) 13 (some q10)) 14 (some q11)) 19 (some q12)) 23 (some q13)) 24 (some q14)) 25 (some q15)) 33 (some q16)) 34 (some q17)) 35 (some q18)) 36 (some q19)) 37 (some q20)) 38 (some q21)) 39 (some q22)) 40 (some q23)) 41 (some q24)) 42 (some q25)) 52 (some q26)) 53 (some q27)) 54 (some q28)), aI g q1 6 (fun _ => 0), aI g q2 6 (fun _ => 0), aI g q3 6 (fun _ => 0), aI g q4 6 (fun _ => 0), aI g q5 24 (fun _ => 0), aI g q6 24 (fun _ => 0), aI g q7 24 (fun _ => 0), aI g q8 8 (fun _ => 0), aI g q9 8 (fun _ => 0), aI g q10 8 (fun _ => 0), aI g q11 120 (lf L_X8_0 120), aB g q12 160 (fun _ => 0), aI g q13 1190 (fun _ => 0), aI g q14 1190 (fun _ => 0), aI g q15 21 (fun _ => 0), aI g q16 170 (fun _ => 0), aI g q17 6 (fun _ => 0), aI g q18 53 (lf L_X8_1 53), aI g q19 12 (lf L_X8_2 12), aI g q20 6 (fun _ => 0), aI g q21 960 (fun _ => 0), aI g q22 720 (fun _ => 0), aI g q23 24 (fun _ => 0), aI g q24 720 (fun _ => 0), aI g q25 6 (fun _ => 0), aI g q26 6 (fun _ => 0), aI g q27 6 (fun _ => 0), aI g q28 6 (fun _ => 0), aI g q29 6 (fun _ => 0)] := hG
  refine W.widen (k := 29) (n := 5502) (by omega) (by omega) ?_
  refine PO_8_108 X hmn hG 0 rfl dX8_init_1227 (fun H locs hG => ?_)
  have hG : GM g A s.heap H locs [oX8 g o (va_up (va_up (va_up (va_up (fun _ => 0) 15 90) 16 (-1)) 18 (-1)) 21 1) (va_up (va_up (va_up (va_up (va_up (va_up (va_up (va_up (va_up (va_up (va_up (va_up (va_up (va_up (va_up (va_up (va_up (va_up (va_up (va_up (va_up (va_up (va_up (va_up (va_up (va_up (va_up (va_up (va_up (fun _ => none) 2 (some q1)) 3 (some q2)) 4 (some q3)) 5 (some q4)) 7 (some q5)) 8 (some q6)) 9 (some q7)) 11 (some q8)) 12 (some q9)) 13 (some q10)) 14 (some q11)) 19 (some q12)) 23 (some q13)) 24 (some q14)) 25 (some q15)) 33 (some q16)) 34 (some q17)) 35 (some q18)) 36 (some q19)) 37 (some q20)) 38 (some q21)) 39 (some q22)) 40 (some q23)) 41 (some q24)) 42 (some q25)) 52 (some q26)) 53 (some q27)) 54 (some q28)) 55 (some q29)), aI g q1 6 (fun _ => 0), aI g q2 6 (fun _ => 0), aI g q3 6 (fun _ => 0), aI g q4 6 (fun _ => 0), aI g q5 24 (fun _ => 0), aI g q6 24 (fun _ => 0), aI g q7 24 (fun _ => 0), aI g q8 8 (fun _ => 0), aI g q9 8 (fun _ => 0), aI g q10 8 (fun _ => 0), aI g q11 120 (lf L_X8_0 120), aB g q12 160 (fun _ => 0), aI g q13 1190 (fun _ => 0), aI g q14 1190 (fun _ => 0), aI g q15 21 (fun _ => 0), aI g q16 170 (fun _ => 0), aI g q17 6 (fun _ => 0), aI g q18 53 (lf L_X8_1 53), aI g q19 12 (lf L_X8_2 12), aI g q20 6 (fun _ => 0), aI g q21 960 (fun _ => 0), aI g q22 720 (fun _ => 0), aI g q23 24 (fun _ => 0), aI g q24 720 (fun _ => 0), aI g q25 6 (fun _ => 0), aI g q26 6 (fun _ => 0), aI g q27 6 (fun _ => 0), aI g q28 6 (fun _ => 0), aI g q29 6 (fun _ => 0)] := hG
  refine lv_aload_n hx hb dX8_init_1230 rfl (lv_at hl 0 rfl) ?_
  refine lv_bipush (v := 120) hx hb dX8_init_1231 (by decide) ?_
  refine r_newI (N' := 120) X hG (by decide) (by decide) (by decide) (by show (_ : Nat) ≤ _; decide) (by show (_ : Nat) ≤ _; decide) dX8_init_1233 (fun q30 H hG => ?_)
  have hG : GM g A s.heap H locs [oX8 g o (va_up (va_up (va_up (va_up (fun _ => 0) 15 90) 16 (-1)) 18 (-1)) 21 1) (va_up (va_up (va_up (va_up (va_up (va_up (va_up (va_up (va_up (va_up (va_up (va_up (va_up (va_up (va_up (va_up (va_up (va_up (va_up (va_up (va_up (va_up (va_up (va_up (va_up (va_up (va_up (va_up (va_up (fun _ => none) 2 (some q1)) 3 (some q2)) 4 (some q3)) 5 (some q4)) 7 (some q5)) 8 (some q6)) 9 (some q7)) 11 (some q8)) 12 (some q9)) 13 (some q10)) 14 (some q11)) 19 (some q12)) 23 (some q13)) 24 (some q14)) 25 (some q15)) 33 (some q16)) 34 (some q17)) 35 (some q18)) 36 (some q19)) 37 (some q20)) 38 (some q21)) 39 (some q22)) 40 (some q23)) 41 (some q24)) 42 (some q25)) 52 (some q26)) 53 (some q27)) 54 (some q28)) 55 (some q29)), aI g q1 6 (fun _ => 0), aI g q2 6 (fun _ => 0), aI g q3 6 (fun _ => 0), aI g q4 6 (fun _ => 0), aI g q5 24 (fun _ => 0), aI g q6 24 (fun _ => 0), aI g q7 24 (fun _ => 0), aI g q8 8 (fun _ => 0), aI g q9 8 (fun _ => 0), aI g q10 8 (fun _ => 0), aI g q11 120 (lf L_X8_0 120), aB g q12 160 (fun _ => 0), aI g q13 1190 (fun _ => 0), aI g q14 1190 (fun _ => 0), aI g q15 21 (fun _ => 0), aI g q16 170 (fun _ => 0), aI g q17 6 (fun _ => 0), aI g q18 53 (lf L_X8_1 53), aI g q19 12 (lf L_X8_2 12), aI g q20 6 (fun _ => 0), aI g q21 960 (fun _ => 0), aI g q22 720 (fun _ => 0), aI g q23 24 (fun _ => 0), aI g q24 720 (fun _ => 0), aI g q25 6 (fun _ => 0), aI g q26 6 (fun _ => 0), aI g q27 6 (fun _ => 0), aI g q28 6 (fun _ => 0), aI g q29 6 (fun _ => 0), aI g q30 120 (fun _ => 0)] := hG
  refine W.widen (k := 30) (n := 5622) (by omega) (by omega) ?_
  refine PO_8_111 X hmn hG 0 rfl dX8_init_1235 (fun H locs hG => ?_)
  have hG : GM g A s.heap H locs [oX8 g o (va_up (va_up (va_up (va_up (fun _ => 0) 15 90) 16 (-1)) 18 (-1)) 21 1) (va_up (va_up (va_up (va_up (va_up (va_up (va_up (va_up (va_up (va_up (va_up (va_up (va_up (va_up (va_up (va_up (va_up (va_up (va_up (va_up (va_up (va_up (va_up (va_up (va_up (va_up (va_up (va_up (va_up (va_up (fun _ => none) 2 (some q1)) 3 (some q2)) 4 (some q3)) 5 (some q4)) 7 (some q5)) 8 (some q6)) 9 (some q7)) 11 (some q8)) 12 (some q9)) 13 (some q10)) 14 (some q11)) 19 (some q12)) 23 (some q13)) 24 (some q14)) 25 (some q15)) 33 (some q16)) 34 (some q17)) 35 (some q18)) 36 (some q19)) 37 (some q20)) 38 (some q21)) 39 (some q22)) 40 (some q23)) 41 (some q24)) 42 (some q25)) 52 (some q26)) 53 (some q27)) 54 (some q28)) 55 (some q29)) 56 (some q30)), aI g q1 6 (fun _ => 0), aI g q2 6 (fun _ => 0), aI g q3 6 (fun _ => 0), aI g q4 6 (fun _ => 0), aI g q5 24 (fun _ => 0), aI g q6 24 (fun _ => 0), aI g q7 24 (fun _ => 0), aI g q8 8 (fun _ => 0), aI g q9 8 (fun _ => 0), aI g q10 8 (fun _ => 0), aI g q11 120 (lf L_X8_0 120), aB g q12 160 (fun _ => 0), aI g q13 1190 (fun _ => 0), aI g q14 1190 (fun _ => 0), aI g q15 21 (fun _ => 0), aI g q16 170 (fun _ => 0), aI g q17 6 (fun _ => 0), aI g q18 53 (lf L_X8_1 53), aI g q19 12 (lf L_X8_2 12), aI g q20 6 (fun _ => 0), aI g q21 960 (fun _ => 0), aI g q22 720 (fun _ => 0), aI g q23 24 (fun _ => 0), aI g q24 720 (fun _ => 0), aI g q25 6 (fun _ => 0), aI g q26 6 (fun _ => 0), aI g q27 6 (fun _ => 0), aI g q28 6 (fun _ => 0), aI g q29 6 (fun _ => 0), aI g q30 120 (fun _ => 0)] := hG
  refine lv_aload_n hx hb dX8_init_1238 rfl (lv_at hl 0 rfl) ?_
  refine lv_iconst (v := 4) hx hb dX8_init_1239 (by decide) ?_
  refine r_newI (N' := 4) X hG (by decide) (by decide) (by decide) (by show (_ : Nat) ≤ _; decide) (by show (_ : Nat) ≤ _; decide) dX8_init_1240 (fun q31 H hG => ?_)
  have hG : GM g A s.heap H locs [oX8 g o (va_up (va_up (va_up (va_up (fun _ => 0) 15 90) 16 (-1)) 18 (-1)) 21 1) (va_up (va_up (va_up (va_up (va_up (va_up (va_up (va_up (va_up (va_up (va_up (va_up (va_up (va_up (va_up (va_up (va_up (va_up (va_up (va_up (va_up (va_up (va_up (va_up (va_up (va_up (va_up (va_up (va_up (va_up (fun _ => none) 2 (some q1)) 3 (some q2)) 4 (some q3)) 5 (some q4)) 7 (some q5)) 8 (some q6)) 9 (some q7)) 11 (some q8)) 12 (some q9)) 13 (some q10)) 14 (some q11)) 19 (some q12)) 23 (some q13)) 24 (some q14)) 25 (some q15)) 33 (some q16)) 34 (some q17)) 35 (some q18)) 36 (some q19)) 37 (some q20)) 38 (some q21)) 39 (some q22)) 40 (some q23)) 41 (some q24)) 42 (some q25)) 52 (some q26)) 53 (some q27)) 54 (some q28)) 55 (some q29)) 56 (some q30)), aI g q1 6 (fun _ => 0), aI g q2 6 (fun _ => 0), aI g q3 6 (fun _ => 0), aI g q4 6 (fun _ => 0), aI g q5 24 (fun _ => 0), aI g q6 24 (fun _ => 0), aI g q7 24 (fun _ => 0), aI g q8 8 (fun _ => 0), aI g q9 8 (fun _ => 0), aI g q10 8 (fun _ => 0), aI g q11 120 (lf L_X8_0 120), aB g q12 160 (fun _ => 0), aI g q13 1190 (fun _ => 0), aI g q14 1190 (fun _ => 0), aI g q15 21 (fun _ => 0), aI g q16 170 (fun _ => 0), aI g q17 6 (fun _ => 0), aI g q18 53 (lf L_X8_1 53), aI g q19 12 (lf L_X8_2 12), aI g q20 6 (fun _ => 0), aI g q21 960 (fun _ => 0), aI g q22 720 (fun _ => 0), aI g q23 24 (fun _ => 0), aI g q24 720 (fun _ => 0), aI g q25 6 (fun _ => 0), aI g q26 6 (fun _ => 0), aI g q27 6 (fun _ => 0), aI g q28 6 (fun _ => 0), aI g q29 6 (fun _ => 0), aI g q30 120 (fun _ => 0), aI g q31 4 (fun _ => 0)] := hG
  refine W.widen (k := 31) (n := 5626) (by omega) (by omega) ?_
  have hG : GM g A s.heap H locs [oX8 g o (va_up (va_up (va_up (va_up (fun _ => 0) 15 90) 16 (-1)) 18 (-1)) 21 1) (va_up (va_up (va_up (va_up (va_up (va_up (va_up (va_up (va_up (va_up (va_up (va_up (va_up (va_up (va_up (va_up (va_up (va_up (va_up (va_up (va_up (va_up (va_up (va_up (va_up (va_up (va_up (va_up (va_up (va_up (fun _ => none) 2 (some q1)) 3 (some q2)) 4 (some q3)) 5 (some q4)) 7 (some q5)) 8 (some q6)) 9 (some q7)) 11 (some q8)) 12 (some q9)) 13 (some q10)) 14 (some q11)) 19 (some q12)) 23 (some q13)) 24 (some q14)) 25 (some q15)) 33 (some q16)) 34 (some q17)) 35 (some q18)) 36 (some q19)) 37 (some q20)) 38 (some q21)) 39 (some q22)) 40 (some q23)) 41 (some q24)) 42 (some q25)) 52 (some q26)) 53 (some q27)) 54 (some q28)) 55 (some q29)) 56 (some q30)), aI g q1 6 (fun _ => 0), aI g q2 6 (fun _ => 0), aI g q3 6 (fun _ => 0), aI g q4 6 (fun _ => 0), aI g q5 24 (fun _ => 0), aI g q6 24 (fun _ => 0), aI g q7 24 (fun _ => 0), aI g q8 8 (fun _ => 0), aI g q9 8 (fun _ => 0), aI g q10 8 (fun _ => 0), aI g q11 120 (lf L_X8_0 120), aB g q12 160 (fun _ => 0), aI g q13 1190 (fun _ => 0), aI g q14 1190 (fun _ => 0), aI g q15 21 (fun _ => 0), aI g q16 170 (fun _ => 0), aI g q17 6 (fun _ => 0), aI g q18 53 (lf L_X8_1 53), aI g q19 12 (lf L_X8_2 12), aI g q20 6 (fun _ => 0), aI g q21 960 (fun _ => 0), aI g q22 720 (fun _ => 0), aI g q23 24 (fun _ => 0), aI g q24 720 (fun _ => 0), aI g q25 6 (fun _ => 0), aI g q26 6 (fun _ => 0), aI g q27 6 (fun _ => 0), aI g q28 6 (fun _ => 0), aI g q29 6 (fun _ => 0), aI g q30 120 (fun _ => 0), aI g q31 4 (lf L_X8_3 0)] := by rw [lf_0]; exact hG
  refine lv_dup hx hb dX8_init_1242 rfl ?_
  refine lv_iconst (v := 0) hx hb dX8_init_1243 (by decide) ?_
  refine lv_iconst (v := (-1)) hx hb dX8_init_1244 (by decide) ?_
  refine r_ilf X hG 31 rfl (by decide) (by decide) (by decide) (by decide +kernel) dX8_init_1245 (fun H locs hG => ?_)
  have hG : GM g A s.heap H locs [oX8 g o (va_up (va_up (va_up (va_up (fun _ => 0) 15 90) 16 (-1)) 18 (-1)) 21 1) (va_up (va_up (va_up (va_up (va_up (va_up (va_up (va_up (va_up (va_up (va_up (va_up (va_up (va_up (va_up (va_up (va_up (va_up (va_up (va_up (va_up (va_up (va_up (va_up (va_up (va_up (va_up (va_up (va_up (va_up (fun _ => none) 2 (some q1)) 3 (some q2)) 4 (some q3)) 5 (some q4)) 7 (some q5)) 8 (some q6)) 9 (some q7)) 11 (some q8)) 12 (some q9)) 13 (some q10)) 14 (some q11)) 19 (some q12)) 23 (some q13)) 24 (some q14)) 25 (some q15)) 33 (some q16)) 34 (some q17)) 35 (some q18)) 36 (some q19)) 37 (some q20)) 38 (some q21)) 39 (some q22)) 40 (some q23)) 41 (some q24)) 42 (some q25)) 52 (some q26)) 53 (some q27)) 54 (some q28)) 55 (some q29)) 56 (some q30)), aI g q1 6 (fun _ => 0), aI g q2 6 (fun _ => 0), aI g q3 6 (fun _ => 0), aI g q4 6 (fun _ => 0), aI g q5 24 (fun _ => 0), aI g q6 24 (fun _ => 0), aI g q7 24 (fun _ => 0), aI g q8 8 (fun _ => 0), aI g q9 8 (fun _ => 0), aI g q10 8 (fun _ => 0), aI g q11 120 (lf L_X8_0 120), aB g q12 160 (fun _ => 0), aI g q13 1190 (fun _ => 0), aI g q14 1190 (fun _ => 0), aI g q15 21 (fun _ => 0), aI g q16 170 (fun _ => 0), aI g q17 6 (fun _ => 0), aI g q18 53 (lf L_X8_1 53), aI g q19 12 (lf L_X8_2 12), aI g q20 6 (fun _ => 0), aI g q21 960 (fun _ => 0), aI g q22 720 (fun _ => 0), aI g q23 24 (fun _ => 0), aI g q24 720 (fun _ => 0), aI g q25 6 (fun _ => 0), aI g q26 6 (fun _ => 0), aI g q27 6 (fun _ => 0), aI g q28 6 (fun _ => 0), aI g q29 6 (fun _ => 0), aI g q30 120 (fun _ => 0), aI g q31 4 (lf L_X8_3 1)] := hG
  refine lv_dup hx hb dX8_init_1246 rfl ?_
  refine lv_iconst (v := 1) hx hb dX8_init_1247 (by decide) ?_
  refine lv_iconst (v := (-1)) hx hb dX8_init_1248 (by decide) ?_
  refine r_ilf X hG 31 rfl (by decide) (by decide) (by decide) (by decide +kernel) dX8_init_1249 (fun H locs hG => ?_)
  have hG : GM g A s.heap H locs [oX8 g o (va_up (va_up (va_up (va_up (fun _ => 0) 15 90) 16 (-1)) 18 (-1)) 21 1) (va_up (va_up (va_up (va_up (va_up (va_up (va_up (va_up (va_up (va_up (va_up (va_up (va_up (va_up (va_up (va_up (va_up (va_up (va_up (va_up (va_up (va_up (va_up (va_up (va_up (va_up (va_up (va_up (va_up (va_up (fun _ => none) 2 (some q1)) 3 (some q2)) 4 (some q3)) 5 (some q4)) 7 (some q5)) 8 (some q6)) 9 (some q7)) 11 (some q8)) 12 (some q9)) 13 (some q10)) 14 (some q11)) 19 (some q12)) 23 (some q13)) 24 (some q14)) 25 (some q15)) 33 (some q16)) 34 (some q17)) 35 (some q18)) 36 (some q19)) 37 (some q20)) 38 (some q21)) 39 (some q22)) 40 (some q23)) 41 (some q24)) 42 (some q25)) 52 (some q26)) 53 (some q27)) 54 (some q28)) 55 (some q29)) 56 (some q30)), aI g q1 6 (fun _ => 0), aI g q2 6 (fun _ => 0), aI g q3 6 (fun _ => 0), aI g q4 6 (fun _ => 0), aI g q5 24 (fun _ => 0), aI g q6 24 (fun _ => 0), aI g q7 24 (fun _ => 0), aI g q8 8 (fun _ => 0), aI g q9 8 (fun _ => 0), aI g q10 8 (fun _ => 0), aI g q11 120 (lf L_X8_0 120), aB g q12 160 (fun _ => 0), aI g q13 1190 (fun _ => 0), aI g q14 1190 (fun _ => 0), aI g q15 21 (fun _ => 0), aI g q16 170 (fun _ => 0), aI g q17 6 (fun _ => 0), aI g q18 53 (lf L_X8_1 53), aI g q19 12 (lf L_X8_2 12), aI g q20 6 (fun _ => 0), aI g q21 960 (fun _ => 0), aI g q22 720 (fun _ => 0), aI g q23 24 (fun _ => 0), aI g q24 720 (fun _ => 0), aI g q25 6 (fun _ => 0), aI g q26 6 (fun _ => 0), aI g q27 6 (fun _ => 0), aI g q28 6 (fun _ => 0), aI g q29 6 (fun _ => 0), aI g q30 120 (fun _ => 0), aI g q31 4 (lf L_X8_3 2)] := hG
  refine lv_dup hx hb dX8_init_1250 rfl ?_
  refine lv_iconst (v := 2) hx hb dX8_init_1251 (by decide) ?_
  refine lv_iconst (v := (-1)) hx hb dX8_init_1252 (by decide) ?_
  refine r_ilf X hG 31 rfl (by decide) (by decide) (by decide) (by decide +kernel) dX8_init_1253 (fun H locs hG => ?_)
  have hG : GM g A s.heap H locs [oX8 g o (va_up (va_up (va_up (va_up (fun _ => 0) 15 90) 16 (-1)) 18 (-1)) 21 1) (va_up (va_up (va_up (va_up (va_up (va_up (va_up (va_up (va_up (va_up (va_up (va_up (va_up (va_up (va_up (va_up (va_up (va_up (va_up (va_up (va_up (va_up (va_up (va_up (va_up (va_up (va_up (va_up (va_up (va_up (fun _ => none) 2 (some q1)) 3 (some q2)) 4 (some q3)) 5 (some q4)) 7 (some q5)) 8 (some q6)) 9 (some q7)) 11 (some q8)) 12 (some q9)) 13 (some q10)) 14 (some q11)) 19 (some q12)) 23 (some q13)) 24 (some q14)) 25 (some q15)) 33 (some q16)) 34 (some q17)) 35 (some q18)) 36 (some q19)) 37 (some q20)) 38 (some q21)) 39 (some q22)) 40 (some q23)) 41 (some q24)) 42 (some q25)) 52 (some q26)) 53 (some q27)) 54 (some q28)) 55 (some q29)) 56 (some q30)), aI g q1 6 (fun _ => 0), aI g q2 6 (fun _ => 0), aI g q3 6 (fun _ => 0), aI g q4 6 (fun _ => 0), aI g q5 24 (fun _ => 0), aI g q6 24 (fun _ => 0), aI g q7 24 (fun _ => 0), aI g q8 8 (fun _ => 0), aI g q9 8 (fun _ => 0), aI g q10 8 (fun _ => 0), aI g q11 120 (lf L_X8_0 120), aB g q12 160 (fun _ => 0), aI g q13 1190 (fun _ => 0), aI g q14 1190 (fun _ => 0), aI g q15 21 (fun _ => 0), aI g q16 170 (fun _ => 0), aI g q17 6 (fun _ => 0), aI g q18 53 (lf L_X8_1 53), aI g q19 12 (lf L_X8_2 12), aI g q20 6 (fun _ => 0), aI g q21 960 (fun _ => 0), aI g q22 720 (fun _ => 0), aI g q23 24 (fun _ => 0), aI g q24 720 (fun _ => 0), aI g q25 6 (fun _ => 0), aI g q26 6 (fun _ => 0), aI g q27 6 (fun _ => 0), aI g q28 6 (fun _ => 0), aI g q29 6 (fun _ => 0), aI g q30 120 (fun _ => 0), aI g q31 4 (lf L_X8_3 3)] := hG
  refine lv_dup hx hb dX8_init_1254 rfl ?_
  refine lv_iconst (v := 3) hx hb dX8_init_1255 (by decide) ?_
  refine lv_iconst (v := (-1)) hx hb dX8_init_1256 (by decide) ?_
  refine r_ilf X hG 31 rfl (by decide) (by decide) (by decide) (by decide +kernel) dX8_init_1257 (fun H locs hG => ?_)
  have hG : GM g A s.heap H locs [oX8 g o (va_up (va_up (va_up (va_up (fun _ => 0) 15 90) 16 (-1)) 18 (-1)) 21 1) (va_up (va_up (va_up (va_up (va_up (va_up (va_up (va_up (va_up (va_up (va_up (va_up (va_up (va_up (va_up (va_up (va_up (va_up (va_up (va_up (va_up (va_up (va_up (va_up (va_up (va_up (va_up (va_up (va_up (va_up (fun _ => none) 2 (some q1)) 3 (some q2)) 4 (some q3)) 5 (some q4)) 7 (some q5)) 8 (some q6)) 9 (some q7)) 11 (some q8)) 12 (some q9)) 13 (some q10)) 14 (some q11)) 19 (some q12)) 23 (some q13)) 24 (some q14)) 25 (some q15)) 33 (some q16)) 34 (some q17)) 35 (some q18)) 36 (some q19)) 37 (some q20)) 38 (some q21)) 39 (some q22)) 40 (some q23)) 41 (some q24)) 42 (some q25)) 52 (some q26)) 53 (some q27)) 54 (some q28)) 55 (some q29)) 56 (some q30)), aI g q1 6 (fun _ => 0), aI g q2 6 (fun _ => 0), aI g q3 6 (fun _ => 0), aI g q4 6 (fun _ => 0), aI g q5 24 (fun _ => 0), aI g q6 24 (fun _ => 0), aI g q7 24 (fun _ => 0), aI g q8 8 (fun _ => 0), aI g q9 8 (fun _ => 0), aI g q10 8 (fun _ => 0), aI g q11 120 (lf L_X8_0 120), aB g q12 160 (fun _ => 0), aI g q13 1190 (fun _ => 0), aI g q14 1190 (fun _ => 0), aI g q15 21 (fun _ => 0), aI g q16 170 (fun _ => 0), aI g q17 6 (fun _ => 0), aI g q18 53 (lf L_X8_1 53), aI g q19 12 (lf L_X8_2 12), aI g q20 6 (fun _ => 0), aI g q21 960 (fun _ => 0), aI g q22 720 (fun _ => 0), aI g q23 24 (fun _ => 0), aI g q24 720 (fun _ => 0), aI g q25 6 (fun _ => 0), aI g q26 6 (fun _ => 0), aI g q27 6 (fun _ => 0), aI g q28 6 (fun _ => 0), aI g q29 6 (fun _ => 0), aI g q30 120 (fun _ => 0), aI g q31 4 (lf L_X8_3 4)] := hG
  refine PO_8_114 X hmn hG 0 rfl dX8_init_1258 (fun H locs hG => ?_)
  have hG : GM g A s.heap H locs [oX8 g o (va_up (va_up (va_up (va_up (fun _ => 0) 15 90) 16 (-1)) 18 (-1)) 21 1) (va_up (va_up (va_up (va_up (va_up (va_up (va_up (va_up (va_up (va_up (va_up (va_up (va_up (va_up (va_up (va_up (va_up (va_up (va_up (va_up (va_up (va_up (va_up (va_up (va_up (va_up (va_up (va_up (va_up (va_up (va_up (fun _ => none) 2 (some q1)) 3 (some q2)) 4 (some q3)) 5 (some q4)) 7 (some q5)) 8 (some q6)) 9 (some q7)) 11 (some q8)) 12 (some q9)) 13 (some q10)) 14 (some q11)) 19 (some q12)) 23 (some q13)) 24 (some q14)) 25 (some q15)) 33 (some q16)) 34 (some q17)) 35 (some q18)) 36 (some q19)) 37 (some q20)) 38 (some q21)) 39 (some q22)) 40 (some q23)) 41 (some q24)) 42 (some q25)) 52 (some q26)) 53 (some q27)) 54 (some q28)) 55 (some q29)) 56 (some q30)) 57 (some q31)), aI g q1 6 (fun _ => 0), aI g q2 6 (fun _ => 0), aI g q3 6 (fun _ => 0), aI g q4 6 (fun _ => 0), aI g q5 24 (fun _ => 0), aI g q6 24 (fun _ => 0), aI g q7 24 (fun _ => 0), aI g q8 8 (fun _ => 0), aI g q9 8 (fun _ => 0), aI g q10 8 (fun _ => 0), aI g q11 120 (lf L_X8_0 120), aB g q12 160 (fun _ => 0), aI g q13 1190 (fun _ => 0), aI g q14 1190 (fun _ => 0), aI g q15 21 (fun _ => 0), aI g q16 170 (fun _ => 0), aI g q17 6 (fun _ => 0), aI g q18 53 (lf L_X8_1 53), aI g q19 12 (lf L_X8_2 12), aI g q20 6 (fun _ => 0), aI g q21 960 (fun _ => 0), aI g q22 720 (fun _ => 0), aI g q23 24 (fun _ => 0), aI g q24 720 (fun _ => 0), aI g q25 6 (fun _ => 0), aI g q26 6 (fun _ => 0), aI g q27 6 (fun _ => 0), aI g q28 6 (fun _ => 0), aI g q29 6 (fun _ => 0), aI g q30 120 (fun _ => 0), aI g q31 4 (lf L_X8_3 4)] := hG
  refine lv_aload_n hx hb dX8_init_1261 rfl (lv_at hl 0 rfl) ?_
  refine lv_iconst (v := 4) hx hb dX8_init_1262 (by decide) ?_
  refine r_newI (N' := 4) X hG (by decide) (by decide) (by decide) (by show (_ : Nat) ≤ _; decide) (by show (_ : Nat) ≤ _; decide) dX8_init_1263 (fun q32 H hG => ?_)
  have hG : GM g A s.heap H locs [oX8 g o (va_up (va_up (va_up (va_up (fun _ => 0) 15 90) 16 (-1)) 18 (-1)) 21 1) (va_up (va_up (va_up (va_up (va_up (va_up (va_up (va_up (va_up (va_up (va_up (va_up (va_up (va_up (va_up (va_up (va_up (va_up (va_up (va_up (va_up (va_up (va_up (va_up (va_up (va_up (va_up (va_up (va_up (va_up (va_up (fun _ => none) 2 (some q1)) 3 (some q2)) 4 (some q3)) 5 (some q4)) 7 (some q5)) 8 (some q6)) 9 (some q7)) 11 (some q8)) 12 (some q9)) 13 (some q10)) 14 (some q11)) 19 (some q12)) 23 (some q13)) 24 (some q14)) 25 (some q15)) 33 (some q16)) 34 (some q17)) 35 (some q18)) 36 (some q19)) 37 (some q20)) 38 (some q21)) 39 (some q22)) 40 (some q23)) 41 (some q24)) 42 (some q25)) 52 (some q26)) 53 (some q27)) 54 (some q28)) 55 (some q29)) 56 (some q30)) 57 (some q31)), aI g q1 6 (fun _ => 0), aI g q2 6 (fun _ => 0), aI g q3 6 (fun _ => 0), aI g q4 6 (fun _ => 0), aI g q5 24 (fun _ => 0), aI g q6 24 (fun _ => 0), aI g q7 24 (fun _ => 0), aI g q8 8 (fun _ => 0), aI g q9 8 (fun _ => 0), aI g q10 8 (fun _ => 0), aI g q11 120 (lf L_X8_0 120), aB g q12 160 (fun _ => 0), aI g q13 1190 (fun _ => 0), aI g q14 1190 (fun _ => 0), aI g q15 21 (fun _ => 0), aI g q16 170 (fun _ => 0), aI g q17 6 (fun _ => 0), aI g q18 53 (lf L_X8_1 53), aI g q19 12 (lf L_X8_2 12), aI g q20 6 (fun _ => 0), aI g q21 960 (fun _ => 0), aI g q22 720 (fun _ => 0), aI g q23 24 (fun _ => 0), aI g q24 720 (fun _ => 0), aI g q25 6 (fun _ => 0), aI g q26 6 (fun _ => 0), aI g q27 6 (fun _ => 0), aI g q28 6 (fun _ => 0), aI g q29 6 (fun _ => 0), aI g q30 120 (fun _ => 0), aI g q31 4 (lf L_X8_3 4), aI g q32 4 (fun _ => 0)] := hG
  refine W.widen (k := 32) (n := 5630) (by omega) (by omega) ?_
  refine PO_8_117 X hmn hG 0 rfl dX8_init_1265 (fun H locs hG => ?_)
  have hG : GM g A s.heap H locs [oX8 g o (va_up (va_up (va_up (va_up (fun _ => 0) 15 90) 16 (-1)) 18 (-1)) 21 1) (va_up (va_up (va_up (va_up (va_up (va_up (va_up (va_up (va_up (va_up (va_up (va_up (va_up (va_up (va_up (va_up (va_up (va_up (va_up (va_up (va_up (va_up (va_up (va_up (va_up (va_up (va_up (va_up (va_up (va_up (va_up (va_up (fun _ => none) 2 (some q1)) 3 (some q2)) 4 (some q3)) 5 (some q4)) 7 (some q5)) 8 (some q6)) 9 (some q7)) 11 (some q8)) 12 (some q9)) 13 (some q10)) 14 (some q11)) 19 (some q12)) 23 (some q13)) 24 (some q14)) 25 (some q15)) 33 (some q16)) 34 (some q17)) 35 (some q18)) 36 (some q19)) 37 (some q20)) 38 (some q21)) 39 (some q22)) 40 (some q23)) 41 (some q24)) 42 (some q25)) 52 (some q26)) 53 (some q27)) 54 (some q28)) 55 (some q29)) 56 (some q30)) 57 (some q31)) 58 (some q32)), aI g q1 6 (fun _ => 0), aI g q2 6 (fun _ => 0), aI g q3 6 (fun _ => 0), aI g q4 6 (fun _ => 0), aI g q5 24 (fun _ => 0), aI g q6 24 (fun _ => 0), aI g q7 24 (fun _ => 0), aI g q8 8 (fun _ => 0), aI g q9 8 (fun _ => 0), aI g q10 8 (fun _ => 0), aI g q11 120 (lf L_X8_0 120), aB g q12 160 (fun _ => 0), aI g q13 1190 (fun _ => 0), aI g q14 1190 (fun _ => 0), aI g q15 21 (fun _ => 0), aI g q16 170 (fun _ => 0), aI g q17 6 (fun _ => 0), aI g q18 53 (lf L_X8_1 53), aI g q19 12 (lf L_X8_2 12), aI g q20 6 (fun _ => 0), aI g q21 960 (fun _ => 0), aI g q22 720 (fun _ => 0), aI g q23 24 (fun _ => 0), aI g q24 720 (fun _ => 0), aI g q25 6 (fun _ => 0), aI g q26 6 (fun _ => 0), aI g q27 6 (fun _ => 0), aI g q28 6 (fun _ => 0), aI g q29 6 (fun _ => 0), aI g q30 120 (fun _ => 0), aI g q31 4 (lf L_X8_3 4), aI g q32 4 (fun _ => 0)] := hG
  refine lv_aload_n hx hb dX8_init_1268 rfl (lv_at hl 0 rfl) ?_
  refine lv_sipush (v := 160) hx hb dX8_init_1269 (by decide) ?_
  refine r_newI (N' := 160) X hG (by decide) (by decide) (by decide) (by show (_ : Nat) ≤ _; decide) (by show (_ : Nat) ≤ _; decide) dX8_init_1272 (fun q33 H hG => ?_)
  have hG : GM g A s.heap H locs [oX8 g o (va_up (va_up (va_up (va_up (fun _ => 0) 15 90) 16 (-1)) 18 (-1)) 21 1) (va_up (va_up (va_up (va_up (va_up (va_up (va_up (va_up (va_up (va_up (va_up (va_up (va_up (va_up (va_up (va_up (va_up (va_up (va_up (va_up (va_up (va_up (va_up (va_up (va_up (va_up (va_up (va_up (va_up (va_up (va_up (va_up (fun _ => none) 2 (some q1)) 3 (some q2)) 4 (some q3)) 5 (some q4)) 7 (some q5)) 8 (some q6)) 9 (some q7)) 11 (some q8)) 12 (some q9)) 13 (some q10)) 14 (some q11)) 19 (some q12)) 23 (some q13)) 24 (some q14)) 25 (some q15)) 33 (some q16)) 34 (some q17)) 35 (some q18)) 36 (some q19)) 37 (some q20)) 38 (some q21)) 39 (some q22)) 40 (some q23)) 41 (some q24)) 42 (some q25)) 52 (some q26)) 53 (some q27)) 54 (some q28)) 55 (some q29)) 56 (some q30)) 57 (some q31)) 58 (some q32)), aI g q1 6 (fun _ => 0), aI g q2 6 (fun _ => 0), aI g q3 6 (fun _ => 0), aI g q4 6 (fun _ => 0), aI g q5 24 (fun _ => 0), aI g q6 24 (fun _ => 0), aI g q7 24 (fun _ => 0), aI g q8 8 (fun _ => 0), aI g q9 8 (fun _ => 0), aI g q10 8 (fun _ => 0), aI g q11 120 (lf L_X8_0 120), aB g q12 160 (fun _ => 0), aI g q13 1190 (fun _ => 0), aI g q14 1190 (fun _ => 0), aI g q15 21 (fun _ => 0), aI g q16 170 (fun _ => 0), aI g q17 6 (fun _ => 0), aI g q18 53 (lf L_X8_1 53), aI g q19 12 (lf L_X8_2 12), aI g q20 6 (fun _ => 0), aI g q21 960 (fun _ => 0), aI g q22 720 (fun _ => 0), aI g q23 24 (fun _ => 0), aI g q24 720 (fun _ => 0), aI g q25 6 (fun _ => 0), aI g q26 6 (fun _ => 0), aI g q27 6 (fun _ => 0), aI g q28 6 (fun _ => 0), aI g q29 6 (fun _ => 0), aI g q30 120 (fun _ => 0), aI g q31 4 (lf L_X8_3 4), aI g q32 4 (fun _ => 0), aI g q33 160 (fun _ => 0)] := hG
  refine W.widen (k := 33) (n := 5790) (by omega) (by omega) ?_
  refine PO_8_120 X hmn hG 0 rfl dX8_init_1274 (fun H locs hG => ?_)
  have hG : GM g A s.heap H locs [oX8 g o (va_up (va_up (va_up (va_up (fun _ => 0) 15 90) 16 (-1)) 18 (-1)) 21 1) (va_up (va_up (va_up (va_up (va_up (va_up (va_up (va_up (va_up (va_up (va_up (va_up (va_up (va_up (va_up (va_up (va_up (va_up (va_up (va_up (va_up (va_up (va_up (va_up (va_up (va_up (va_up (va_up (va_up (va_up (va_up (va_up (va_up (fun _ => none) 2 (some q1)) 3 (some q2)) 4 (some q3)) 5 (some q4)) 7 (some q5)) 8 (some q6)) 9 (some q7)) 11 (some q8)) 12 (some q9)) 13 (some q10)) 14 (some q11)) 19 (some q12)) 23 (some q13)) 24 (some q14)) 25 (some q15)) 33 (some q16)) 34 (some q17)) 35 (some q18)) 36 (some q19)) 37 (some q20)) 38 (some q21)) 39 (some q22)) 40 (some q23)) 41 (some q24)) 42 (some q25)) 52 (some q26)) 53 (some q27)) 54 (some q28)) 55 (some q29)) 56 (some q30)) 57 (some q31)) 58 (some q32)) 59 (some q33)), aI g q1 6 (fun _ => 0), aI g q2 6 (fun _ => 0), aI g q3 6 (fun _ => 0), aI g q4 6 (fun _ => 0), aI g q5 24 (fun _ => 0), aI g q6 24 (fun _ => 0), aI g q7 24 (fun _ => 0), aI g q8 8 (fun _ => 0), aI g q9 8 (fun _ => 0), aI g q10 8 (fun _ => 0), aI g q11 120 (lf L_X8_0 120), aB g q12 160 (fun _ => 0), aI g q13 1190 (fun _ => 0), aI g q14 1190 (fun _ => 0), aI g q15 21 (fun _ => 0), aI g q16 170 (fun _ => 0), aI g q17 6 (fun _ => 0), aI g q18 53 (lf L_X8_1 53), aI g q19 12 (lf L_X8_2 12), aI g q20 6 (fun _ => 0), aI g q21 960 (fun _ => 0), aI g q22 720 (fun _ => 0), aI g q23 24 (fun _ => 0), aI g q24 720 (fun _ => 0), aI g q25 6 (fun _ => 0), aI g q26 6 (fun _ => 0), aI g q27 6 (fun _ => 0), aI g q28 6 (fun _ => 0), aI g q29 6 (fun _ => 0), aI g q30 120 (fun _ => 0), aI g q31 4 (lf L_X8_3 4), aI g q32 4 (fun _ => 0), aI g q33 160 (fun _ => 0)] := hG
  refine lv_aload_n hx hb dX8_init_1277 rfl (lv_at hl 0 rfl) ?_
  refine lv_bipush (v := 40) hx hb dX8_init_1278 (by decide) ?_
  refine r_newI (N' := 40) X hG (by decide) (by decide) (by decide) (by show (_ : Nat) ≤ _; decide) (by show (_ : Nat) ≤ _; decide) dX8_init_1280 (fun q34 H hG => ?_)
  have hG : GM g A s.heap H locs [oX8 g o (va_up (va_up (va_up (va_up (fun _ => 0) 15 90) 16 (-1)) 18 (-1)) 21 1) (va_up (va_up (va_up (va_up (va_up (va_up (va_up (va_up (va_up (va_up (va_up (va_up (va_up (va_up (va_up (va_up (va_up (va_up (va_up (va_up (va_up (va_up (va_up (va_up (va_up (va_up (va_up (va_up (va_up (va_up (va_up (va_up (va_up (fun _ => none) 2 (some q1)) 3 (some q2)) 4 (some q3)) 5 (some q4)) 7 (some q5)) 8 (some q6)) 9 (some q7)) 11 (some q8)) 12 (some q9)) 13 (some q10)) 14 (some q11)) 19 (some q12)) 23 (some q13)) 24 (some q14)) 25 (some q15)) 33 (some q16)) 34 (some q17)) 35 (some q18)) 36 (some q19)) 37 (some q20)) 38 (some q21)) 39 (some q22)) 40 (some q23)) 41 (some q24)) 42 (some q25)) 52 (some q26)) 53 (some q27)) 54 (some q28)) 55 (some q29)) 56 (some q30)) 57 (some q31)) 58 (some q32)) 59 (some q33)), aI g q1 6 (fun _ => 0), aI g q2 6 (fun _ => 0), aI g q3 6 (fun _ => 0), aI g q4 6 (fun _ => 0), aI g q5 24 (fun _ => 0), aI g q6 24 (fun _ => 0), aI g q7 24 (fun _ => 0), aI g q8 8 (fun _ => 0), aI g q9 8 (fun _ => 0), aI g q10 8 (fun _ => 0), aI g q11 120 (lf L_X8_0 120), aB g q12 160 (fun _ => 0), aI g q13 1190 (fun _ => 0), aI g q14 1190 (fun _ => 0), aI g q15 21 (fun _ => 0), aI g q16 170 (fun _ => 0), aI g q17 6 (fun _ => 0), aI g q18 53 (lf L_X8_1 53), aI g q19 12 (lf L_X8_2 12), aI g q20 6 (fun _ => 0), aI g q21 960 (fun _ => 0), aI g q22 720 (fun _ => 0), aI g q23 24 (fun _ => 0), aI g q24 720 (fun _ => 0), aI g q25 6 (fun _ => 0), aI g q26 6 (fun _ => 0), aI g q27 6 (fun _ => 0), aI g q28 6 (fun _ => 0), aI g q29 6 (fun _ => 0), aI g q30 120 (fun _ => 0), aI g q31 4 (lf L_X8_3 4), aI g q32 4 (fun _ => 0), aI g q33 160 (fun _ => 0), aI g q34 40 (fun _ => 0)] := hG
  refine W.widen (k := 34) (n := 5830) (by omega) (by omega) ?_
  refine PO_8_123 X hmn hG 0 rfl dX8_init_1282 (fun H locs hG => ?_)
  have hG : GM g A s.heap H locs [oX8 g o (va_up (va_up (va_up (va_up (fun _ => 0) 15 90) 16 (-1)) 18 (-1)) 21 1) (va_up (va_up (va_up (va_up (va_up (va_up (va_up (va_up (va_up (va_up (va_up (va_up (va_up (va_up (va_up (va_up (va_up (va_up (va_up (va_up (va_up (va_up (va_up (va_up (va_up (va_up (va_up (va_up (va_up (va_up (va_up (va_up (va_up (va_up (fun _ => none) 2 (some q1)) 3 (some q2)) 4 (some q3)) 5 (some q4)) 7 (some q5)) 8 (some q6)) 9 (some q7)) 11 (some q8)) 12 (some q9)) 13 (some q10)) 14 (some q11)) 19 (some q12)) 23 (some q13)) 24 (some q14)) 25 (some q15)) 33 (some q16)) 34 (some q17)) 35 (some q18)) 36 (some q19)) 37 (some q20)) 38 (some q21)) 39 (some q22)) 40 (some q23)) 41 (some q24)) 42 (some q25)) 52 (some q26)) 53 (some q27)) 54 (some q28)) 55 (some q29)) 56 (some q30)) 57 (some q31)) 58 (some q32)) 59 (some q33)) 60 (some q34)), aI g q1 6 (fun _ => 0), aI g q2 6 (fun _ => 0), aI g q3 6 (fun _ => 0), aI g q4 6 (fun _ => 0), aI g q5 24 (fun _ => 0), aI g q6 24 (fun _ => 0), aI g q7 24 (fun _ => 0), aI g q8 8 (fun _ => 0), aI g q9 8 (fun _ => 0), aI g q10 8 (fun _ => 0), aI g q11 120 (lf L_X8_0 120), aB g q12 160 (fun _ => 0), aI g q13 1190 (fun _ => 0), aI g q14 1190 (fun _ => 0), aI g q15 21 (fun _ => 0), aI g q16 170 (fun _ => 0), aI g q17 6 (fun _ => 0), aI g q18 53 (lf L_X8_1 53), aI g q19 12 (lf L_X8_2 12), aI g q20 6 (fun _ => 0), aI g q21 960 (fun _ => 0), aI g q22 720 (fun _ => 0), aI g q23 24 (fun _ => 0), aI g q24 720 (fun _ => 0), aI g q25 6 (fun _ => 0), aI g q26 6 (fun _ => 0), aI g q27 6 (fun _ => 0), aI g q28 6 (fun _ => 0), aI g q29 6 (fun _ => 0), aI g q30 120 (fun _ => 0), aI g q31 4 (lf L_X8_3 4), aI g q32 4 (fun _ => 0), aI g q33 160 (fun _ => 0), aI g q34 40 (fun _ => 0)] := hG
  subst hQ
  exact r_nret ((fun k => ((va_up (va_up (va_up (va_up (va_up (va_up (va_up (va_up (va_up (va_up (va_up (va_up (va_up (va_up (va_up (va_up (va_up (va_up (va_up (va_up (va_up (va_up (va_up (va_up (va_up (va_up (va_up (va_up (va_up (va_up (va_up (va_up (va_up (va_up (fun _ => none) 2 (some q1)) 3 (some q2)) 4 (some q3)) 5 (some q4)) 7 (some q5)) 8 (some q6)) 9 (some q7)) 11 (some q8)) 12 (some q9)) 13 (some q10)) 14 (some q11)) 19 (some q12)) 23 (some q13)) 24 (some q14)) 25 (some q15)) 33 (some q16)) 34 (some q17)) 35 (some q18)) 36 (some q19)) 37 (some q20)) 38 (some q21)) 39 (some q22)) 40 (some q23)) 41 (some q24)) 42 (some q25)) 52 (some q26)) 53 (some q27)) 54 (some q28)) 55 (some q29)) 56 (some q30)) 57 (some q31)) 58 (some q32)) 59 (some q33)) 60 (some q34)) k).getD 0)) X (show GM g A s.heap H locs [wX8 g o (fun k => ((va_up (va_up (va_up (va_up (va_up (va_up (va_up (va_up (va_up (va_up (va_up (va_up (va_up (va_up (va_up (va_up (va_up (va_up (va_up (va_up (va_up (va_up (va_up (va_up (va_up (va_up (va_up (va_up (va_up (va_up (va_up (va_up (va_up (va_up (fun _ => none) 2 (some q1)) 3 (some q2)) 4 (some q3)) 5 (some q4)) 7 (some q5)) 8 (some q6)) 9 (some q7)) 11 (some q8)) 12 (some q9)) 13 (some q10)) 14 (some q11)) 19 (some q12)) 23 (some q13)) 24 (some q14)) 25 (some q15)) 33 (some q16)) 34 (some q17)) 35 (some q18)) 36 (some q19)) 37 (some q20)) 38 (some q21)) 39 (some q22)) 40 (some q23)) 41 (some q24)) 42 (some q25)) 52 (some q26)) 53 (some q27)) 54 (some q28)) 55 (some q29)) 56 (some q30)) 57 (some q31)) 58 (some q32)) 59 (some q33)) 60 (some q34)) k).getD 0) st0_X8] from hG) dX8_init_1285
def st0_X1 : MS := ((va_up (va_up (va_up (fun _ => 0) 9 0) 11 0) 12 0), (fun _ _ => 0))
def rmn_X1 : Room := { frames := 1, cells := 22, slots := 1746, locals := 30 }
set_option maxHeartbeats 4000000 in
set_option maxRecDepth 100000 in
theorem n_X1 (g : GT) (l : Launch) (o : Nat) : CN g l yX1_init cX1_init 1 rmn_X1 [.ref o] [oX1 g o (fun _ => 0) (fun _ => none)] (fun (u : Nat → Nat) => [wX1 g o u st0_X1, wF g (u 3) 6 st0_N]) 22 1746 := by
  refine CN_intro RX1 rfl rfl (by decide +kernel) (Nat.le_of_ble_eq_true rfl) ?_
  intro p e s m args below meth c9 A ls Q hQ X hl hmn hG
  have hl : lv_has ls 1 [(0, .ref o)] := hl
  have hG : GM g A s.heap s.heap [] [oX1 g o (fun _ => 0) (fun _ => none)] := hG
  have hx := X.1
  have hb := X.2.1
  have hown := X.2.2.2.1
  obtain ⟨H, hH⟩ : ∃ H, H = s.heap := ⟨_, rfl⟩
  obtain ⟨locs, hlocs⟩ : ∃ L : List Loc, L = [] := ⟨_, rfl⟩
  rw [← hlocs] at hG ⊢
  have hG : GM g A s.heap H locs [oX1 g o (fun _ => 0) (fun _ => none)] := by rw [hH]; exact hG
  show W p l e rmn_X1 s m args below meth c9 s.heap locs 0 0 Q (F0 m 0 ls [])
  rw [show W p l e rmn_X1 s m args below meth c9 s.heap locs 0 0 Q (F0 m 0 ls []) = W p l e rmn_X1 s m args below meth c9 H locs 0 0 Q (F0 m 0 ls []) by rw [hH]]
  refine lv_aload_n hx hb dX1_init_0 rfl (lv_at hl 0 rfl) ?_
  refine r_objInit X hl.1 (TW_at 212 (by decide +kernel) (by decide +kernel)) (TW_at 81 (by decide +kernel) (by decide +kernel)) (TW_at 82 (by decide +kernel) (by decide +kernel)) (Nat.le_of_ble_eq_true rfl) (Nat.le_of_ble_eq_true rfl) dX1_init_1 ?_
  refine lv_aload_n hx hb dX1_init_4 rfl (lv_at hl 0 rfl) ?_
  refine lv_bipush (v := 120) hx hb dX1_init_5 (by decide) ?_
  refine r_newI (N' := 120) X hG (by decide) (by decide) (by decide) (by show (_ : Nat) ≤ _; decide) (by show (_ : Nat) ≤ _; decide) dX1_init_7 (fun q1 H hG => ?_)
  have hG : GM g A s.heap H locs [oX1 g o (fun _ => 0) (fun _ => none), aI g q1 120 (fun _ => 0)] := hG
  refine W.widen (k := 1) (n := 120) (by omega) (by omega) ?_
  refine PO_1_9 X hmn hG 0 rfl dX1_init_9 (fun H locs hG => ?_)
  have hG : GM g A s.heap H locs [oX1 g o (fun _ => 0) (va_up (fun _ => none) 0 (some q1)), aI g q1 120 (fun _ => 0)] := hG
  refine lv_aload_n hx hb dX1_init_12 rfl (lv_at hl 0 rfl) ?_
  refine lv_bipush (v := 120) hx hb dX1_init_13 (by decide) ?_
  refine r_newI (N' := 120) X hG (by decide) (by decide) (by decide) (by show (_ : Nat) ≤ _; decide) (by show (_ : Nat) ≤ _; decide) dX1_init_15 (fun q2 H hG => ?_)
  have hG : GM g A s.heap H locs [oX1 g o (fun _ => 0) (va_up (fun _ => none) 0 (some q1)), aI g q1 120 (fun _ => 0), aI g q2 120 (fun _ => 0)] := hG
  refine W.widen (k := 2) (n := 240) (by omega) (by omega) ?_
  refine PO_1_15 X hmn hG 0 rfl dX1_init_17 (fun H locs hG => ?_)
  have hG : GM g A s.heap H locs [oX1 g o (fun _ => 0) (va_up (va_up (fun _ => none) 0 (some q1)) 1 (some q2)), aI g q1 120 (fun _ => 0), aI g q2 120 (fun _ => 0)] := hG
  refine lv_aload_n hx hb dX1_init_20 rfl (lv_at hl 0 rfl) ?_
  refine lv_bipush (v := 6) hx hb dX1_init_21 (by decide) ?_
  refine r_newI (N' := 6) X hG (by decide) (by decide) (by decide) (by show (_ : Nat) ≤ _; decide) (by show (_ : Nat) ≤ _; decide) dX1_init_23 (fun q3 H hG => ?_)
  have hG : GM g A s.heap H locs [oX1 g o (fun _ => 0) (va_up (va_up (fun _ => none) 0 (some q1)) 1 (some q2)), aI g q1 120 (fun _ => 0), aI g q2 120 (fun _ => 0), aI g q3 6 (fun _ => 0)] := hG
  refine W.widen (k := 3) (n := 246) (by omega) (by omega) ?_
  refine PO_1_18 X hmn hG 0 rfl dX1_init_25 (fun H locs hG => ?_)
  have hG : GM g A s.heap H locs [oX1 g o (fun _ => 0) (va_up (va_up (va_up (fun _ => none) 0 (some q1)) 1 (some q2)) 2 (some q3)), aI g q1 120 (fun _ => 0), aI g q2 120 (fun _ => 0), aI g q3 6 (fun _ => 0)] := hG
  refine lv_aload_n hx hb dX1_init_28 rfl (lv_at hl 0 rfl) ?_
  refine lv_bipush (v := 6) hx hb dX1_init_29 (by decide) ?_
  refine r_newI (N' := 6) X hG (by decide) (by decide) (by decide) (by show (_ : Nat) ≤ _; decide) (by show (_ : Nat) ≤ _; decide) dX1_init_31 (fun q4 H hG => ?_)
  have hG : GM g A s.heap H locs [oX1 g o (fun _ => 0) (va_up (va_up (va_up (fun _ => none) 0 (some q1)) 1 (some q2)) 2 (some q3)), aI g q1 120 (fun _ => 0), aI g q2 120 (fun _ => 0), aI g q3 6 (fun _ => 0), aI g q4 6 (fun _ => 0)] := hG
  refine W.widen (k := 4) (n := 252) (by omega) (by omega) ?_
  refine PO_1_21 X hmn hG 0 rfl dX1_init_33 (fun H locs hG => ?_)
  have hG : GM g A s.heap H locs [oX1 g o (fun _ => 0) (va_up (va_up (va_up (va_up (fun _ => none) 0 (some q1)) 1 (some q2)) 2 (some q3)) 3 (some q4)), aI g q1 120 (fun _ => 0), aI g q2 120 (fun _ => 0), aI g q3 6 (fun _ => 0), aI g q4 6 (fun _ => 0)] := hG
  refine lv_aload_n hx hb dX1_init_36 rfl (lv_at hl 0 rfl) ?_
  refine lv_bipush (v := 6) hx hb dX1_init_37 (by decide) ?_
  refine r_newI (N' := 6) X hG (by decide) (by decide) (by decide) (by show (_ : Nat) ≤ _; decide) (by show (_ : Nat) ≤ _; decide) dX1_init_39 (fun q5 H hG => ?_)
  have hG : GM g A s.heap H locs [oX1 g o (fun _ => 0) (va_up (va_up (va_up (va_up (fun _ => none) 0 (some q1)) 1 (some q2)) 2 (some q3)) 3 (some q4)), aI g q1 120 (fun _ => 0), aI g q2 120 (fun _ => 0), aI g q3 6 (fun _ => 0), aI g q4 6 (fun _ => 0), aI g q5 6 (fun _ => 0)] := hG
  refine W.widen (k := 5) (n := 258) (by omega) (by omega) ?_
  refine PO_1_24 X hmn hG 0 rfl dX1_init_41 (fun H locs hG => ?_)
  have hG : GM g A s.heap H locs [oX1 g o (fun _ => 0) (va_up (va_up (va_up (va_up (va_up (fun _ => none) 0 (some q1)) 1 (some q2)) 2 (some q3)) 3 (some q4)) 4 (some q5)), aI g q1 120 (fun _ => 0), aI g q2 120 (fun _ => 0), aI g q3 6 (fun _ => 0), aI g q4 6 (fun _ => 0), aI g q5 6 (fun _ => 0)] := hG
  refine lv_aload_n hx hb dX1_init_44 rfl (lv_at hl 0 rfl) ?_
  refine lv_bipush (v := 6) hx hb dX1_init_45 (by decide) ?_
  refine lv_bipush (v := 120) hx hb dX1_init_47 (by decide) ?_
  refine r_new2 X hG (TW_at 213 (by decide +kernel) (by decide +kernel)) (by show (_ : Nat) ≤ _; decide) (by show (_ : Nat) ≤ _; decide) dX1_init_49 (fun q6 r7 H hG => ?_)
  have hG : GM g A s.heap H locs [oX1 g o (fun _ => 0) (va_up (va_up (va_up (va_up (va_up (fun _ => none) 0 (some q1)) 1 (some q2)) 2 (some q3)) 3 (some q4)) 4 (some q5)), aI g q1 120 (fun _ => 0), aI g q2 120 (fun _ => 0), aI g q3 6 (fun _ => 0), aI g q4 6 (fun _ => 0), aI g q5 6 (fun _ => 0), a2 g q6 r7 120] := hG
  refine W.widen (k := 12) (n := 984) (by omega) (by omega) ?_
  refine PO_1_29 X hmn hG 0 rfl dX1_init_53 (fun H locs hG => ?_)
  have hG : GM g A s.heap H locs [oX1 g o (fun _ => 0) (va_up (va_up (va_up (va_up (va_up (va_up (fun _ => none) 0 (some q1)) 1 (some q2)) 2 (some q3)) 3 (some q4)) 4 (some q5)) 5 (some q6)), aI g q1 120 (fun _ => 0), aI g q2 120 (fun _ => 0), aI g q3 6 (fun _ => 0), aI g q4 6 (fun _ => 0), aI g q5 6 (fun _ => 0), a2 g q6 r7 120] := hG
  refine lv_aload_n hx hb dX1_init_56 rfl (lv_at hl 0 rfl) ?_
  refine lv_bipush (v := 6) hx hb dX1_init_57 (by decide) ?_
  refine r_newI (N' := 6) X hG (by decide) (by decide) (by decide) (by show (_ : Nat) ≤ _; decide) (by show (_ : Nat) ≤ _; decide) dX1_init_59 (fun q8 H hG => ?_)
  have hG : GM g A s.heap H locs [oX1 g o (fun _ => 0) (va_up (va_up (va_up (va_up (va_up (va_up (fun _ => none) 0 (some q1)) 1 (some q2)) 2 (some q3)) 3 (some q4)) 4 (some q5)) 5 (some q6)), aI g q1 120 (fun _ => 0), aI g q2 120 (fun _ => 0), aI g q3 6 (fun _ => 0), aI g q4 6 (fun _ => 0), aI g q5 6 (fun _ => 0), a2 g q6 r7 120, aI g q8 6 (fun _ => 0)] := hG
  refine W.widen (k := 13) (n := 990) (by omega) (by omega) ?_
  refine PO_1_32 X hmn hG 0 rfl dX1_init_61 (fun H locs hG => ?_)
  have hG : GM g A s.heap H locs [oX1 g o (fun _ => 0) (va_up (va_up (va_up (va_up (va_up (va_up (va_up (fun _ => none) 0 (some q1)) 1 (some q2)) 2 (some q3)) 3 (some q4)) 4 (some q5)) 5 (some q6)) 6 (some q8)), aI g q1 120 (fun _ => 0), aI g q2 120 (fun _ => 0), aI g q3 6 (fun _ => 0), aI g q4 6 (fun _ => 0), aI g q5 6 (fun _ => 0), a2 g q6 r7 120, aI g q8 6 (fun _ => 0)] := hG
  refine lv_aload_n hx hb dX1_init_64 rfl (lv_at hl 0 rfl) ?_
  refine lv_bipush (v := 6) hx hb dX1_init_65 (by decide) ?_
  refine r_newI (N' := 6) X hG (by decide) (by decide) (by decide) (by show (_ : Nat) ≤ _; decide) (by show (_ : Nat) ≤ _; decide) dX1_init_67 (fun q9 H hG => ?_)
  have hG : GM g A s.heap H locs [oX1 g o (fun _ => 0) (va_up (va_up (va_up (va_up (va_up (va_up (va_up (fun _ => none) 0 (some q1)) 1 (some q2)) 2 (some q3)) 3 (some q4)) 4 (some q5)) 5 (some q6)) 6 (some q8)), aI g q1 120 (fun _ => 0), aI g q2 120 (fun _ => 0), aI g q3 6 (fun _ => 0), aI g q4 6 (fun _ => 0), aI g q5 6 (fun _ => 0), a2 g q6 r7 120, aI g q8 6 (fun _ => 0), aI g q9 6 (fun _ => 0)] := hG
  refine W.widen (k := 14) (n := 996) (by omega) (by omega) ?_
  refine PO_1_35 X hmn hG 0 rfl dX1_init_69 (fun H locs hG => ?_)
  have hG : GM g A s.heap H locs [oX1 g o (fun _ => 0) (va_up (va_up (va_up (va_up (va_up (va_up (va_up (va_up (fun _ => none) 0 (some q1)) 1 (some q2)) 2 (some q3)) 3 (some q4)) 4 (some q5)) 5 (some q6)) 6 (some q8)) 7 (some q9)), aI g q1 120 (fun _ => 0), aI g q2 120 (fun _ => 0), aI g q3 6 (fun _ => 0), aI g q4 6 (fun _ => 0), aI g q5 6 (fun _ => 0), a2 g q6 r7 120, aI g q8 6 (fun _ => 0), aI g q9 6 (fun _ => 0)] := hG
  refine lv_aload_n hx hb dX1_init_72 rfl (lv_at hl 0 rfl) ?_
  refine lv_bipush (v := 6) hx hb dX1_init_73 (by decide) ?_
  refine lv_bipush (v := 120) hx hb dX1_init_75 (by decide) ?_
  refine r_new2 X hG (TW_at 213 (by decide +kernel) (by decide +kernel)) (by show (_ : Nat) ≤ _; decide) (by show (_ : Nat) ≤ _; decide) dX1_init_77 (fun q10 r11 H hG => ?_)
  have hG : GM g A s.heap H locs [oX1 g o (fun _ => 0) (va_up (va_up (va_up (va_up (va_up (va_up (va_up (va_up (fun _ => none) 0 (some q1)) 1 (some q2)) 2 (some q3)) 3 (some q4)) 4 (some q5)) 5 (some q6)) 6 (some q8)) 7 (some q9)), aI g q1 120 (fun _ => 0), aI g q2 120 (fun _ => 0), aI g q3 6 (fun _ => 0), aI g q4 6 (fun _ => 0), aI g q5 6 (fun _ => 0), a2 g q6 r7 120, aI g q8 6 (fun _ => 0), aI g q9 6 (fun _ => 0), a2 g q10 r11 120] := hG
  refine W.widen (k := 21) (n := 1722) (by omega) (by omega) ?_
  refine PO_1_38 X hmn hG 0 rfl dX1_init_81 (fun H locs hG => ?_)
  have hG : GM g A s.heap H locs [oX1 g o (fun _ => 0) (va_up (va_up (va_up (va_up (va_up (va_up (va_up (va_up (va_up (fun _ => none) 0 (some q1)) 1 (some q2)) 2 (some q3)) 3 (some q4)) 4 (some q5)) 5 (some q6)) 6 (some q8)) 7 (some q9)) 8 (some q10)), aI g q1 120 (fun _ => 0), aI g q2 120 (fun _ => 0), aI g q3 6 (fun _ => 0), aI g q4 6 (fun _ => 0), aI g q5 6 (fun _ => 0), a2 g q6 r7 120, aI g q8 6 (fun _ => 0), aI g q9 6 (fun _ => 0), a2 g q10 r11 120] := hG
  refine lv_aload_n hx hb dX1_init_84 rfl (lv_at hl 0 rfl) ?_
  refine lv_iconst (v := 0) hx hb dX1_init_85 (by decide) ?_
  refine PO_1_41 X hG 0 rfl dX1_init_86 (fun H locs hG => ?_)
  have hG : GM g A s.heap H locs [oX1 g o (va_up (fun _ => 0) 9 0) (va_up (va_up (va_up (va_up (va_up (va_up (va_up (va_up (va_up (fun _ => none) 0 (some q1)) 1 (some q2)) 2 (some q3)) 3 (some q4)) 4 (some q5)) 5 (some q6)) 6 (some q8)) 7 (some q9)) 8 (some q10)), aI g q1 120 (fun _ => 0), aI g q2 120 (fun _ => 0), aI g q3 6 (fun _ => 0), aI g q4 6 (fun _ => 0), aI g q5 6 (fun _ => 0), a2 g q6 r7 120, aI g q8 6 (fun _ => 0), aI g q9 6 (fun _ => 0), a2 g q10 r11 120] := hG
  refine lv_aload_n hx hb dX1_init_89 rfl (lv_at hl 0 rfl) ?_
  refine lv_bipush (v := 24) hx hb dX1_init_90 (by decide) ?_
  refine r_newI (N' := 24) X hG (by decide) (by decide) (by decide) (by show (_ : Nat) ≤ _; decide) (by show (_ : Nat) ≤ _; decide) dX1_init_92 (fun q12 H hG => ?_)
  have hG : GM g A s.heap H locs [oX1 g o (va_up (fun _ => 0) 9 0) (va_up (va_up (va_up (va_up (va_up (va_up (va_up (va_up (va_up (fun _ => none) 0 (some q1)) 1 (some q2)) 2 (some q3)) 3 (some q4)) 4 (some q5)) 5 (some q6)) 6 (some q8)) 7 (some q9)) 8 (some q10)), aI g q1 120 (fun _ => 0), aI g q2 120 (fun _ => 0), aI g q3 6 (fun _ => 0), aI g q4 6 (fun _ => 0), aI g q5 6 (fun _ => 0), a2 g q6 r7 120, aI g q8 6 (fun _ => 0), aI g q9 6 (fun _ => 0), a2 g q10 r11 120, aI g q12 24 (fun _ => 0)] := hG
  refine W.widen (k := 22) (n := 1746) (by omega) (by omega) ?_
  refine PO_1_45 X hmn hG 0 rfl dX1_init_94 (fun H locs hG => ?_)
  have hG : GM g A s.heap H locs [oX1 g o (va_up (fun _ => 0) 9 0) (va_up (va_up (va_up (va_up (va_up (va_up (va_up (va_up (va_up (va_up (fun _ => none) 0 (some q1)) 1 (some q2)) 2 (some q3)) 3 (some q4)) 4 (some q5)) 5 (some q6)) 6 (some q8)) 7 (some q9)) 8 (some q10)) 10 (some q12)), aI g q1 120 (fun _ => 0), aI g q2 120 (fun _ => 0), aI g q3 6 (fun _ => 0), aI g q4 6 (fun _ => 0), aI g q5 6 (fun _ => 0), a2 g q6 r7 120, aI g q8 6 (fun _ => 0), aI g q9 6 (fun _ => 0), a2 g q10 r11 120, aI g q12 24 (fun _ => 0)] := hG
  refine lv_aload_n hx hb dX1_init_97 rfl (lv_at hl 0 rfl) ?_
  refine lv_iconst (v := 0) hx hb dX1_init_98 (by decide) ?_
  refine PO_1_48 X hG 0 rfl dX1_init_99 (fun H locs hG => ?_)
  have hG : GM g A s.heap H locs [oX1 g o (va_up (va_up (fun _ => 0) 9 0) 11 0) (va_up (va_up (va_up (va_up (va_up (va_up (va_up (va_up (va_up (va_up (fun _ => none) 0 (some q1)) 1 (some q2)) 2 (some q3)) 3 (some q4)) 4 (some q5)) 5 (some q6)) 6 (some q8)) 7 (some q9)) 8 (some q10)) 10 (some q12)), aI g q1 120 (fun _ => 0), aI g q2 120 (fun _ => 0), aI g q3 6 (fun _ => 0), aI g q4 6 (fun _ => 0), aI g q5 6 (fun _ => 0), a2 g q6 r7 120, aI g q8 6 (fun _ => 0), aI g q9 6 (fun _ => 0), a2 g q10 r11 120, aI g q12 24 (fun _ => 0)] := hG
  refine lv_aload_n hx hb dX1_init_102 rfl (lv_at hl 0 rfl) ?_
  refine lv_iconst (v := 0) hx hb dX1_init_103 (by decide) ?_
  refine PO_1_51 X hG 0 rfl dX1_init_104 (fun H locs hG => ?_)
  have hG : GM g A s.heap H locs [oX1 g o (va_up (va_up (va_up (fun _ => 0) 9 0) 11 0) 12 0) (va_up (va_up (va_up (va_up (va_up (va_up (va_up (va_up (va_up (va_up (fun _ => none) 0 (some q1)) 1 (some q2)) 2 (some q3)) 3 (some q4)) 4 (some q5)) 5 (some q6)) 6 (some q8)) 7 (some q9)) 8 (some q10)) 10 (some q12)), aI g q1 120 (fun _ => 0), aI g q2 120 (fun _ => 0), aI g q3 6 (fun _ => 0), aI g q4 6 (fun _ => 0), aI g q5 6 (fun _ => 0), a2 g q6 r7 120, aI g q8 6 (fun _ => 0), aI g q9 6 (fun _ => 0), a2 g q10 r11 120, aI g q12 24 (fun _ => 0)] := hG
  replace hG := hG.perm ((blk_perm2 (l2 := [oX1 g o (va_up (va_up (va_up (fun _ => 0) 9 0) 11 0) 12 0) (va_up (va_up (va_up (va_up (va_up (va_up (va_up (va_up (va_up (va_up (fun _ => none) 0 (some q1)) 1 (some q2)) 2 (some q3)) 3 (some q4)) 4 (some q5)) 5 (some q6)) 6 (some q8)) 7 (some q9)) 8 (some q10)) 10 (some q12)), aI g q1 120 (fun _ => 0), aI g q2 120 (fun _ => 0), aI g q3 6 (fun _ => 0), aI g q5 6 (fun _ => 0), aI g q8 6 (fun _ => 0), aI g q9 6 (fun _ => 0), aI g q12 24 (fun _ => 0), a2 g q6 r7 120, a2 g q10 r11 120, aI g q4 6 (fun _ => 0)]) [0, 1, 2, 3, 5, 7, 8, 10, 6, 9, 4] 11 rfl rfl (by decide)).flatten)
  replace hG := GM_congr (b := a2 g q6 r7 120) (b' := a2b g q6 r7 (fun k => if 20 ≤ k ∧ k < 26 then r7 (k - 20) else if 30 ≤ k ∧ k < 36 then r11 (k - 30) else ((va_up (va_up (va_up (va_up (va_up (va_up (va_up (va_up (va_up (va_up (fun _ => none) 0 (some q1)) 1 (some q2)) 2 (some q3)) 3 (some q4)) 4 (some q5)) 5 (some q6)) 6 (some q8)) 7 (some q9)) 8 (some q10)) 10 (some q12)) k).getD 0) 20 120) 8 rfl (a2_congr (by intro i hi; rcases i with _ | _ | _ | _ | _ | _ | i <;> first | rfl | omega)) rfl hG
  replace hG := GM_congr (b := a2 g q10 r11 120) (b' := a2b g q10 r11 (fun k => if 20 ≤ k ∧ k < 26 then r7 (k - 20) else if 30 ≤ k ∧ k < 36 then r11 (k - 30) else ((va_up (va_up (va_up (va_up (va_up (va_up (va_up (va_up (va_up (va_up (fun _ => none) 0 (some q1)) 1 (some q2)) 2 (some q3)) 3 (some q4)) 4 (some q5)) 5 (some q6)) 6 (some q8)) 7 (some q9)) 8 (some q10)) 10 (some q12)) k).getD 0) 30 120) 9 rfl (a2_congr (by intro i hi; rcases i with _ | _ | _ | _ | _ | _ | i <;> first | rfl | omega)) rfl hG
  subst hQ
  exact r_nret ((fun k => if 20 ≤ k ∧ k < 26 then r7 (k - 20) else if 30 ≤ k ∧ k < 36 then r11 (k - 30) else ((va_up (va_up (va_up (va_up (va_up (va_up (va_up (va_up (va_up (va_up (fun _ => none) 0 (some q1)) 1 (some q2)) 2 (some q3)) 3 (some q4)) 4 (some q5)) 5 (some q6)) 6 (some q8)) 7 (some q9)) 8 (some q10)) 10 (some q12)) k).getD 0)) X (show GM g A s.heap H locs [wX1 g o (fun k => if 20 ≤ k ∧ k < 26 then r7 (k - 20) else if 30 ≤ k ∧ k < 36 then r11 (k - 30) else ((va_up (va_up (va_up (va_up (va_up (va_up (va_up (va_up (va_up (va_up (fun _ => none) 0 (some q1)) 1 (some q2)) 2 (some q3)) 3 (some q4)) 4 (some q5)) 5 (some q6)) 6 (some q8)) 7 (some q9)) 8 (some q10)) 10 (some q12)) k).getD 0) st0_X1, wF g ((fun k => if 20 ≤ k ∧ k < 26 then r7 (k - 20) else if 30 ≤ k ∧ k < 36 then r11 (k - 30) else ((va_up (va_up (va_up (va_up (va_up (va_up (va_up (va_up (va_up (va_up (fun _ => none) 0 (some q1)) 1 (some q2)) 2 (some q3)) 3 (some q4)) 4 (some q5)) 5 (some q6)) 6 (some q8)) 7 (some q9)) 8 (some q10)) 10 (some q12)) k).getD 0) 3) 6 st0_N] from hG) dX1_init_107
