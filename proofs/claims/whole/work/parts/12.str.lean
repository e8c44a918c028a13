-- TEXTS: the constants of the class, their length and signs (the JDK's own methods)
def slen (i : Nat) : Int32 := nI (K_len.getD i 0)
def schr (i k : Nat) : Int32 := (K_byt.getD i []).getD k 0
theorem lk_J0_length_8abf5 : LKC yJ0_length_8abf5 cJ0_length_8abf5 1 (some .int) 0 := ⟨TW_at 283 (by decide +kernel) (by decide +kernel), TW_at 67 (by decide +kernel) (by decide +kernel), by decide +kernel, by decide +kernel, by decide +kernel⟩
theorem lv_J0_length_8abf5 : LKV yJ0_length_8abf5 RJ0 := ⟨TW_at 281 (by decide +kernel) (by decide +kernel), TW_at 282 (by decide +kernel) (by decide +kernel)⟩
theorem lk_J0_charAt_5068e : LKC yJ0_charAt_5068e cJ0_charAt_5068e 2 (some .char) 1 := ⟨TW_at 293 (by decide +kernel) (by decide +kernel), TW_at 67 (by decide +kernel) (by decide +kernel), by decide +kernel, by decide +kernel, by decide +kernel⟩
theorem lv_J0_charAt_5068e : LKV yJ0_charAt_5068e RJ0 := ⟨TW_at 291 (by decide +kernel) (by decide +kernel), TW_at 292 (by decide +kernel) (by decide +kernel)⟩
theorem lk_J0_coder_7d493 : LKC yJ0_coder_7d493 cJ0_coder_7d493 1 (some .byte) 0 := ⟨TW_at 287 (by decide +kernel) (by decide +kernel), TW_at 67 (by decide +kernel) (by decide +kernel), by decide +kernel, by decide +kernel, by decide +kernel⟩
theorem lv_J0_coder_7d493 : LKV yJ0_coder_7d493 RJ0 := ⟨TW_at 285 (by decide +kernel) (by decide +kernel), TW_at 286 (by decide +kernel) (by decide +kernel)⟩
theorem lk_J0_isLatin1_aae02 : LKC yJ0_isLatin1_aae02 cJ0_isLatin1_aae02 1 (some .boolean) 0 := ⟨TW_at 297 (by decide +kernel) (by decide +kernel), TW_at 67 (by decide +kernel) (by decide +kernel), by decide +kernel, by decide +kernel, by decide +kernel⟩
theorem lv_J0_isLatin1_aae02 : LKV yJ0_isLatin1_aae02 RJ0 := ⟨TW_at 295 (by decide +kernel) (by decide +kernel), TW_at 296 (by decide +kernel) (by decide +kernel)⟩
theorem lk_J0_checkIndex_df160 : LKC yJ0_checkIndex_df160 cJ0_checkIndex_df160 2 none 2 := ⟨TW_at 303 (by decide +kernel) (by decide +kernel), TW_at 67 (by decide +kernel) (by decide +kernel), by decide +kernel, by decide +kernel, by decide +kernel⟩
theorem ls_J0_checkIndex_df160 : Cond.static yJ0_checkIndex_df160 ∈ TW := TW_at 302 (by decide +kernel) (by decide +kernel)
theorem lk_J1_charAt_3b067 : LKC yJ1_charAt_3b067 cJ1_charAt_3b067 2 (some .char) 2 := ⟨TW_at 300 (by decide +kernel) (by decide +kernel), TW_at 68 (by decide +kernel) (by decide +kernel), by decide +kernel, by decide +kernel, by decide +kernel⟩
theorem ls_J1_charAt_3b067 : Cond.static yJ1_charAt_3b067 ∈ TW := TW_at 299 (by decide +kernel) (by decide +kernel)
theorem lk_J3_checkIndex_8e157 : LKC yJ3_checkIndex_8e157 cJ3_checkIndex_8e157 3 (some .int) 3 := ⟨TW_at 308 (by decide +kernel) (by decide +kernel), TW_at 69 (by decide +kernel) (by decide +kernel), by decide +kernel, by decide +kernel, by decide +kernel⟩
theorem ls_J3_checkIndex_8e157 : Cond.static yJ3_checkIndex_8e157 ∈ TW := TW_at 307 (by decide +kernel) (by decide +kernel)
theorem ml_J_335 : Cond.methodLink "java/lang/String" 335 yJ0_coder_7d493 ∈ TW := TW_at 284 (by decide +kernel) (by decide +kernel)
theorem ml_J_492 : Cond.methodLink "java/lang/String" 492 yJ0_isLatin1_aae02 ∈ TW := TW_at 294 (by decide +kernel) (by decide +kernel)
theorem ml_J_495 : Cond.methodLink "java/lang/String" 495 yJ1_charAt_3b067 ∈ TW := TW_at 298 (by decide +kernel) (by decide +kernel)
theorem ml_J_9 : Cond.methodLink "java/lang/StringLatin1" 9 yJ0_checkIndex_df160 ∈ TW := TW_at 301 (by decide +kernel) (by decide +kernel)
theorem ml_J_1059 : Cond.methodLink "java/lang/String" 1059 yJ3_checkIndex_8e157 ∈ TW := TW_at 306 (by decide +kernel) (by decide +kernel)
theorem fl_J_38 : Cond.fieldLink "java/lang/String" 38 "java/lang/String" "COMPACT_STRINGS" "Z" ∈ TW := TW_at 288 (by decide +kernel) (by decide +kernel)
theorem fl_J_1053 : Cond.fieldLink "java/lang/String" 1053 "jdk/internal/util/Preconditions" "SIOOBE_FORMATTER" "Ljava/util/function/BiFunction;" ∈ TW := TW_at 304 (by decide +kernel) (by decide +kernel)
theorem fl_J_9 : Cond.fieldLink "java/lang/String" 9 "java/lang/String" "value" "[B" ∈ TW := TW_at 1273 (by decide +kernel) (by decide +kernel)
theorem fl_J_15 : Cond.fieldLink "java/lang/String" 15 "java/lang/String" "coder" "B" ∈ TW := TW_at 1274 (by decide +kernel) (by decide +kernel)

section RW5
variable {p : Program} {l : Launch} {e : Env} {R : Room} {s : State} {m : MethodId} {args : Array Value} {below : List Frame} {meth : Method} {c : Code} {H : Heap} {locs : List Loc} {cells slots : Nat} {Q : State → Prop}
variable {g : GT} {cc : ByteArray} {nL pc : Nat} {own : String} {ret : Option FieldType} {A : Nat → Prop} {ls : Array Slot} {rest : List Value} {bs bs' : List va_W}
theorem r_xret {rv : Int32} {ty : FieldType} (X : FX g p s m args meth c cc nL own (some ty) A) (hG : GM g A s.heap H locs bs') (hn : narrow ty (.int rv) = .int rv) (hdg : decode cc pc = .ok (.ireturn, 1)) : W p l e R s m args below meth c H locs cells slots (MQ below (QI g A bs' rv) args s cells slots A) (F0 m pc ls [.int rv]) :=
  W.zret (hlocks := X.2.2.2.2.2.2.2.2) X.1 X.2.1 X.2.2.2.2.2.2.2.1 hn (fun t ht hW => ⟨⟨rv, (), rfl, rfl, by rw [ht]; exact hG.1, hG.2.1⟩, hG.2.2.F ht⟩) hG.2.2.2.2 hdg
/-- a call whose receiver is known otherwise -/
theorem r_callRi {y : MethodName} {b2 : ByteArray} {nL2 n idx : Nat} {ret2 : Option FieldType} {rm : Room} {C : String} {o : Nat} {As : List Value} {bc bc' br : List va_W} {rv : Int32} {st : List Value} (X : FX g p s m args meth c cc nL own ret A) (hG : GM g A s.heap H locs bs) (hsz : ls.size = nL) (hM : CI g l y b2 nL2 ret2 rm (.ref o :: As) bc rv bc') (hp : bs.flatten.Perm (bc ++ br).flatten) (hp' : (bc' ++ br).flatten.Perm bs'.flatten) (hk : LKC y b2 nL2 ret2 n) (hv : LKV y C) (hl : Cond.methodLink own idx y ∈ TW) (hrec : ∃ cell : Cell, H[o]? = some cell ∧ cell.vm.isStatics = false ∧ s.vm.findClass C = some cell.cls) (hrc : rm.cells = 0) (hrs : rm.slots = 0) (hR : rm.frames + 1 ≤ R.frames ∧ 8 + (nL2 + 11) + rm.locals ≤ R.locals) (hn : As.length = n) (hst : st = As.reverse ++ .ref o :: rest) (hcat : (rest.map fun v => v.category).sum ≤ 8) (hcs : cells ≤ R.cells ∧ slots ≤ R.slots) (hdg : decode cc pc = .ok (.invokevirtual idx, 3))
    (kk : ∀ (H1 : Heap) (locs1 : List Loc), GM g A s.heap H1 locs1 bs' → W p l e R s m args below meth c H1 locs1 cells slots Q (F0 m (pc + 3) ls (.int rv :: rest))) : W p l e R s m args below meth c H locs cells slots Q (F0 m pc ls st) := by
  have hF := call_free X.2.2.2.2.2.2.1 hG hp
  refine va_calli (va_runV (C := C) (As := As) (rest := rest) ⟨X.1, X.2.1, X.2.2.1, X.2.2.2.1, X.2.2.2.2.1⟩ (hM H.size) ⟨callB_mk X hk hl hrc hrs hR, X.2.2.2.2.1 _ hv.1, X.2.2.2.2.1 _ hv.2⟩ ⟨PC_blind, hrec, call_pre X hG hp⟩ rfl hn hsz hst (lv_room hcat) hdg hcs) hG.2.2 (fun q _ h => hF q h) hF (fun r u t H1 locs1 ht hvm hw hB hz hk1 hS => ?_)
  subst hw
  exact kk H1 locs1 (call_post X hG hp hp' hk1 (by rw [← ht]; exact hB.1) hB.2 hS)
theorem str_recv {i : Nat} (X : FX g p s m args meth c cc nL own ret A) (hG : GM g A s.heap H locs bs) (hi : i < 13) : ∃ cell : Cell, H[g.2.2.2.1 i]? = some cell ∧ cell.vm.isStatics = false ∧ s.vm.findClass RJ0 = some cell.cls :=
  vk_recv X.2.2.2.2.2.1.2.2.2.2.2.2.1 hi hG.2.2
end RW5
def rmS0 : Room := { frames := 0, cells := 0, slots := 0, locals := 0 }
def rmS1 : Room := { frames := 1, cells := 0, slots := 0, locals := 30 }
def rmS2 : Room := { frames := 2, cells := 0, slots := 0, locals := 60 }
def rmS3 : Room := { frames := 3, cells := 0, slots := 0, locals := 90 }
def rmS4 : Room := { frames := 4, cells := 0, slots := 0, locals := 120 }
set_option maxRecDepth 100000 in
theorem c_coder (g : GT) (l : Launch) (i : Nat) (hi : i < 13) : CI g l yJ0_coder_7d493 cJ0_coder_7d493 1 (some .byte) rmS0 [.ref (g.2.2.2.1 i)] [] 0 [] := by
  refine CI_intro RJ0 rfl (by decide +kernel) (Nat.le_of_ble_eq_true rfl) ?_
  intro p e s m args below meth c A ls Q hQ X hl hG
  have hl : lv_has ls 1 [(0, .ref (g.2.2.2.1 i))] := hl
  have hx := X.1
  have hb := X.2.1
  refine r_gets X hG X.2.2.2.2.2.1.2.2.2.2.2.2.2.1 fl_J_38 dJ0_coder_7d493_0 ?_
  refine lv_if_eq (tgt := 13) hx hb dJ0_coder_7d493_3 (by decide) (fun hc => absurd hc (by decide)) (fun hc => ?_)
  refine lv_aload_n hx hb dJ0_coder_7d493_6 rfl (lv_at hl 0 rfl) ?_
  refine vk_getf hx hb (X.2.2.2.2.2.1.2.2.2.2.2.2.1.1 i hi).2.1 hG.2.2 X.2.2.2.1 (X.2.2.2.2.1 _ fl_J_15) (fun _ h => h) dJ0_coder_7d493_7 ?_
  refine lv_goto (tgt := 14) hx hb dJ0_coder_7d493_10 (by decide) ?_
  subst hQ
  exact r_xret X hG rfl dJ0_coder_7d493_14
set_option maxRecDepth 100000 in
theorem c_isLatin1 (g : GT) (l : Launch) (i : Nat) (hi : i < 13) : CI g l yJ0_isLatin1_aae02 cJ0_isLatin1_aae02 1 (some .boolean) rmS0 [.ref (g.2.2.2.1 i)] [] 1 [] := by
  refine CI_intro RJ0 rfl (by decide +kernel) (Nat.le_of_ble_eq_true rfl) ?_
  intro p e s m args below meth c A ls Q hQ X hl hG
  have hl : lv_has ls 1 [(0, .ref (g.2.2.2.1 i))] := hl
  have hx := X.1
  have hb := X.2.1
  refine r_gets X hG X.2.2.2.2.2.1.2.2.2.2.2.2.2.1 fl_J_38 dJ0_isLatin1_aae02_0 ?_
  refine lv_if_eq (tgt := 17) hx hb dJ0_isLatin1_aae02_3 (by decide) (fun hc => absurd hc (by decide)) (fun hc => ?_)
  refine lv_aload_n hx hb dJ0_isLatin1_aae02_6 rfl (lv_at hl 0 rfl) ?_
  refine vk_getf hx hb (X.2.2.2.2.2.1.2.2.2.2.2.2.1.1 i hi).2.1 hG.2.2 X.2.2.2.1 (X.2.2.2.2.1 _ fl_J_15) (fun _ h => h) dJ0_isLatin1_aae02_7 ?_
  refine lv_if_ne (tgt := 17) hx hb dJ0_isLatin1_aae02_10 (by decide) (fun hc => absurd rfl hc) (fun hc => ?_)
  refine lv_iconst (v := 1) hx hb dJ0_isLatin1_aae02_13 (by decide) ?_
  refine lv_goto (tgt := 18) hx hb dJ0_isLatin1_aae02_14 (by decide) ?_
  subst hQ
  exact r_xret X hG (by decide) dJ0_isLatin1_aae02_18
set_option maxRecDepth 100000 in
theorem c_slen (g : GT) (l : Launch) (i : Nat) (hi : i < 13) : CI g l yJ0_length_8abf5 cJ0_length_8abf5 1 (some .int) rmS1 [.ref (g.2.2.2.1 i)] [] (slen i) [] := by
  refine CI_intro RJ0 rfl (by decide +kernel) (Nat.le_of_ble_eq_true rfl) ?_
  intro p e s m args below meth c A ls Q hQ X hl hG
  have hl : lv_has ls 1 [(0, .ref (g.2.2.2.1 i))] := hl
  have hx := X.1
  have hb := X.2.1
  refine lv_aload_n hx hb dJ0_length_8abf5_0 rfl (lv_at hl 0 rfl) ?_
  refine vk_getf hx hb (X.2.2.2.2.2.1.2.2.2.2.2.2.1.1 i hi).2.2.1 hG.2.2 X.2.2.2.1 (X.2.2.2.2.1 _ fl_J_9) (fun _ h => h) dJ0_length_8abf5_1 ?_
  refine va_tlen (v := slen i) hx hb (X.2.2.2.2.2.1.2.2.2.2.2.2.1.1 i hi).2.2.2 hG.2.2 rfl dJ0_length_8abf5_4 ?_
  refine lv_aload_n hx hb dJ0_length_8abf5_5 rfl (lv_at hl 0 rfl) ?_
  refine r_callRi (bc := []) (br := []) (bs' := []) (As := []) (rest := [.int (slen i)]) X hG hl.1 (c_coder g l i hi) (List.Perm.refl _) (List.Perm.refl _) lk_J0_coder_7d493 lv_J0_coder_7d493 ml_J_335 (str_recv X hG hi) rfl rfl ⟨Nat.le_of_ble_eq_true rfl, Nat.le_of_ble_eq_true rfl⟩ rfl rfl (Nat.le_of_ble_eq_true rfl) ⟨Nat.zero_le _, Nat.zero_le _⟩ dJ0_length_8abf5_6 (fun H locs hG => ?_)
  refine lv_ishr hx hb dJ0_length_8abf5_9 ?_
  rw [show slen i >>> ((0 : Int32) &&& 31) = slen i by rw [show ((0 : Int32) &&& 31) = 0 by decide]; exact Int32.shiftRight_zero]
  subst hQ
  exact r_iret X hG dJ0_length_8abf5_10
set_option maxRecDepth 100000 in
theorem c_pcheck (g : GT) (l : Launch) (k n : Nat) (z : Option Nat) (h : k < n) (hn : n < 2 ^ 31) : CI g l yJ3_checkIndex_8e157 cJ3_checkIndex_8e157 3 (some .int) rmS0 [.int (nI k), .int (nI n), va_rf z] [] (nI k) [] := by
  have hlen : (lg_sl [.int (nI k), .int (nI n), va_rf z]).length ≤ 3 := by cases z <;> exact Nat.le_of_ble_eq_true rfl
  refine CI_intro RJ3 rfl (by decide +kernel) hlen ?_
  intro p e s m args below meth c A ls Q hQ X hl hG
  have hl : lv_has ls 3 [(0, .int (nI k)), (1, .int (nI n)), (2, va_rf z)] := by cases z <;> exact hl
  have hx := X.1
  have hb := X.2.1
  refine lv_iload_n hx hb dJ3_checkIndex_8e157_0 rfl (lv_at hl 0 rfl) ?_
  refine lv_if_lt (tgt := 9) hx hb dJ3_checkIndex_8e157_1 (by decide) (fun hc => absurd hc (nI_pos (by omega))) (fun hc => ?_)
  refine lv_iload_n hx hb dJ3_checkIndex_8e157_4 rfl (lv_at hl 0 rfl) ?_
  refine lv_iload_n hx hb dJ3_checkIndex_8e157_5 rfl (lv_at hl 1 rfl) ?_
  refine lv_icmp_lt (tgt := 16) hx hb dJ3_checkIndex_8e157_6 (by decide) (fun hc => ?_) (fun hc => absurd (nI_lt h hn) hc)
  refine lv_iload_n hx hb dJ3_checkIndex_8e157_16 rfl (lv_at hl 0 rfl) ?_
  subst hQ
  exact r_iret X hG dJ3_checkIndex_8e157_17
set_option maxRecDepth 100000 in
theorem c_scheck (g : GT) (l : Launch) (k n : Nat) (h : k < n) (hn : n < 2 ^ 31) : CV g l yJ0_checkIndex_df160 cJ0_checkIndex_df160 2 none rmS1 [.int (nI k), .int (nI n)] [] [] := by
  refine CV_intro RJ0 rfl (by decide +kernel) (Nat.le_of_ble_eq_true rfl) ?_
  intro p e s m args below meth c A ls Q hQ X hl hG
  have hl : lv_has ls 2 [(0, .int (nI k)), (1, .int (nI n))] := hl
  have hx := X.1
  have hb := X.2.1
  refine lv_iload_n hx hb dJ0_checkIndex_df160_0 rfl (lv_at hl 0 rfl) ?_
  refine lv_iload_n hx hb dJ0_checkIndex_df160_1 rfl (lv_at hl 1 rfl) ?_
  obtain ⟨z, hZ⟩ : ∃ z : Option Nat, va_Z "jdk/internal/util/Preconditions" "SIOOBE_FORMATTER" "Ljava/util/function/BiFunction;" (va_rf z) A s s.heap := by
    rcases X.2.2.2.2.2.1.2.2.2.2.2.2.2.2.1 with h | ⟨t, h⟩
    · exact ⟨none, h⟩
    · exact ⟨some t, h⟩
  refine r_gets X hG hZ fl_J_1053 dJ0_checkIndex_df160_2 ?_
  refine r_callSi (bc := []) (br := []) (bs' := []) (As := [.int (nI k), .int (nI n), va_rf z]) (rest := []) X hG hl.1 (c_pcheck g l k n z h hn) (List.Perm.refl _) (List.Perm.refl _) lk_J3_checkIndex_8e157 ls_J3_checkIndex_8e157 ml_J_1059 rfl rfl ⟨Nat.le_of_ble_eq_true rfl, Nat.le_of_ble_eq_true rfl⟩ rfl rfl (Nat.le_of_ble_eq_true rfl) ⟨Nat.zero_le _, Nat.zero_le _⟩ dJ0_checkIndex_df160_5 (fun H locs hG => ?_)
  refine lv_pop hx hb dJ0_checkIndex_df160_8 rfl ?_
  subst hQ
  exact r_vret X hG dJ0_checkIndex_df160_9
theorem K_len_small (i : Nat) (hi : i < 13) : K_len.getD i 0 < 2 ^ 31 := by
  have h : ∀ i, i < 13 → K_len.getD i 0 < 100 := by decide +kernel
  have := h i hi
  omega
theorem K_chr_ok (i k : Nat) (hi : i < 13) (hk : k < K_len.getD i 0) : ((schr i k &&& 255).toUInt32 % 65536).toInt32 = schr i k ∧ narrow .char (.int (schr i k)) = .int (schr i k) := by
  have h : ∀ i, i < 13 → ∀ k, k < K_len.getD i 0 → ((schr i k &&& 255).toUInt32 % 65536).toInt32 = schr i k ∧ 0 ≤ schr i k ∧ schr i k < 128 := by decide +kernel
  have h2 : ∀ i, i < 13 → ∀ k, k < K_len.getD i 0 → narrow .char (.int (schr i k)) = .int (schr i k) := by decide +kernel
  exact ⟨(h i hi k hk).1, h2 i hi k hk⟩
set_option maxRecDepth 100000 in
theorem c_lchar (g : GT) (l : Launch) (i k : Nat) (hi : i < 13) (hk : k < K_len.getD i 0) : CI g l yJ1_charAt_3b067 cJ1_charAt_3b067 2 (some .char) rmS2 [.ref (g.2.2.2.2 i), .int (nI k)] [] (schr i k) [] := by
  have hn := K_len_small i hi
  refine CI_intro RJ1 rfl (by decide +kernel) (Nat.le_of_ble_eq_true rfl) ?_
  intro p e s m args below meth c A ls Q hQ X hl hG
  have hl : lv_has ls 2 [(0, .ref (g.2.2.2.2 i)), (1, .int (nI k))] := hl
  have hx := X.1
  have hb := X.2.1
  refine lv_iload_n hx hb dJ1_charAt_3b067_0 rfl (lv_at hl 1 rfl) ?_
  refine lv_aload_n hx hb dJ1_charAt_3b067_1 rfl (lv_at hl 0 rfl) ?_
  refine va_tlen (v := nI (K_len.getD i 0)) hx hb (X.2.2.2.2.2.1.2.2.2.2.2.2.1.1 i hi).2.2.2 hG.2.2 rfl dJ1_charAt_3b067_2 ?_
  refine r_callSv (bc := []) (br := []) (bs' := []) (As := [.int (nI k), .int (nI (K_len.getD i 0))]) (rest := []) X hG hl.1 (c_scheck g l k _ hk hn) (List.Perm.refl _) (List.Perm.refl _) lk_J0_checkIndex_df160 ls_J0_checkIndex_df160 ml_J_9 rfl rfl ⟨Nat.le_of_ble_eq_true rfl, Nat.le_of_ble_eq_true rfl⟩ rfl rfl (Nat.le_of_ble_eq_true rfl) ⟨Nat.zero_le _, Nat.zero_le _⟩ dJ1_charAt_3b067_3 (fun H locs hG => ?_)
  refine lv_aload_n hx hb dJ1_charAt_3b067_6 rfl (lv_at hl 0 rfl) ?_
  refine lv_iload_n hx hb dJ1_charAt_3b067_7 rfl (lv_at hl 1 rfl) ?_
  refine va_tb (v := .int (schr i k)) hx hb (X.2.2.2.2.2.1.2.2.2.2.2.2.1.1 i hi).2.2.2 hG.2.2 (vp_in_nI hk hn) (by rw [nI_clamp (by omega)]; rfl) dJ1_charAt_3b067_8 ?_
  refine lv_sipush (v := 255) hx hb dJ1_charAt_3b067_9 (by decide) ?_
  refine lv_iand hx hb dJ1_charAt_3b067_12 ?_
  refine lv_i2c hx hb dJ1_charAt_3b067_13 (K_chr_ok i k hi hk).1 ?_
  subst hQ
  exact r_xret X hG (K_chr_ok i k hi hk).2 dJ1_charAt_3b067_14
set_option maxRecDepth 100000 in
theorem c_schr (g : GT) (l : Launch) (i k : Nat) (hi : i < 13) (hk : k < K_len.getD i 0) : CI g l yJ0_charAt_5068e cJ0_charAt_5068e 2 (some .char) rmS3 [.ref (g.2.2.2.1 i), .int (nI k)] [] (schr i k) [] := by
  refine CI_intro RJ0 rfl (by decide +kernel) (Nat.le_of_ble_eq_true rfl) ?_
  intro p e s m args below meth c A ls Q hQ X hl hG
  have hl : lv_has ls 2 [(0, .ref (g.2.2.2.1 i)), (1, .int (nI k))] := hl
  have hx := X.1
  have hb := X.2.1
  refine lv_aload_n hx hb dJ0_charAt_5068e_0 rfl (lv_at hl 0 rfl) ?_
  refine r_callRi (bc := []) (br := []) (bs' := []) (As := []) (rest := []) X hG hl.1 (c_isLatin1 g l i hi) (List.Perm.refl _) (List.Perm.refl _) lk_J0_isLatin1_aae02 lv_J0_isLatin1_aae02 ml_J_492 (str_recv X hG hi) rfl rfl ⟨Nat.le_of_ble_eq_true rfl, Nat.le_of_ble_eq_true rfl⟩ rfl rfl (Nat.le_of_ble_eq_true rfl) ⟨Nat.zero_le _, Nat.zero_le _⟩ dJ0_charAt_5068e_1 (fun H locs hG => ?_)
  refine lv_if_eq (tgt := 16) hx hb dJ0_charAt_5068e_4 (by decide) (fun hc => absurd hc (by decide)) (fun hc => ?_)
  refine lv_aload_n hx hb dJ0_charAt_5068e_7 rfl (lv_at hl 0 rfl) ?_
  refine vk_getf hx hb (X.2.2.2.2.2.1.2.2.2.2.2.2.1.1 i hi).2.2.1 hG.2.2 X.2.2.2.1 (X.2.2.2.2.1 _ fl_J_9) (fun _ h => h) dJ0_charAt_5068e_8 ?_
  refine lv_iload_n hx hb dJ0_charAt_5068e_11 rfl (lv_at hl 1 rfl) ?_
  refine r_callSi (bc := []) (br := []) (bs' := []) (As := [.ref (g.2.2.2.2 i), .int (nI k)]) (rest := []) X hG hl.1 (c_lchar g l i k hi hk) (List.Perm.refl _) (List.Perm.refl _) lk_J1_charAt_3b067 ls_J1_charAt_3b067 ml_J_495 rfl rfl ⟨Nat.le_of_ble_eq_true rfl, Nat.le_of_ble_eq_true rfl⟩ rfl rfl (Nat.le_of_ble_eq_true rfl) ⟨Nat.zero_le _, Nat.zero_le _⟩ dJ0_charAt_5068e_12 (fun H locs hG => ?_)
  subst hQ
  exact r_xret X hG (K_chr_ok i k hi hk).2 dJ0_charAt_5068e_15
theorem ib_nI {i : Int32} {n : Nat} (h : ib i n = true) : nI i.toNatClampNeg = i := by
  have h1 := of_decide_eq_true h
  have h0 : 0 ≤ i := by
    rcases Int32.le_total 0 i with q | q
    · exact q
    · rcases Int32.lt_or_eq_of_le q with q | q
      · exact absurd (Or.inl q) h1
      · rw [q]; exact Int32.le_refl _
  have h2 := Int32.le_iff_toInt_le.mp h0
  have h3 : i.toInt = (i.toNatClampNeg : Int) := by
    rw [← Int32.toNat_toInt]
    have : (0 : Int32).toInt = 0 := by decide
    omega
  have h4 : i.toInt < 2 ^ 31 := Int32.toInt_lt i
  apply Int32.toInt_inj.mp
  rw [nI_toInt (by omega), h3]
theorem ib_lt {i : Int32} {n : Nat} (h : ib i n = true) : i.toNatClampNeg < n := by
  have h1 := of_decide_eq_true h
  exact Nat.not_le.mp fun q => h1 (Or.inr q)
theorem c_schr2 (g : GT) (l : Launch) (i : Nat) (k : Int32) (hi : i < 13) (hk : ib k (K_len.getD i 0) = true) : CI g l yJ0_charAt_5068e cJ0_charAt_5068e 2 (some .char) rmS3 [.ref (g.2.2.2.1 i), .int k] [] (schr i k.toNatClampNeg) [] := by
  have h := c_schr g l i k.toNatClampNeg hi (ib_lt hk)
  rwa [ib_nI hk] at h
def QQ (g : GT) (A : Nat → Prop) (bs : List va_W) (rv : Option Nat) : Array Value → State → Outcome → State → Prop := va_Qq (fun (r : Option Nat) (_ : Unit) => r = rv) (BW g A bs) A
def CQ (g : GT) (l : Launch) (y : MethodName) (b : ByteArray) (nL : Nat) (ret : Option FieldType) (rm : Room) (av : List Value) (bs : List va_W) (rv : Option Nat) (bs' : List va_W) : Prop := ∀ sz : Nat, Met l y (WY y b nL ret) rm (PC g sz av bs) (QQ g (va_A bs.flatten sz) bs' rv) 0 0 (va_A bs.flatten sz)
theorem CQ_intro {g : GT} {l : Launch} {y : MethodName} {b : ByteArray} {nL : Nat} {ret : Option FieldType} {rm : Room} {av : List Value} {bs bs' : List va_W} {rv : Option Nat} (own : String) (how : y.cls = own) (hy : plainName y.cls = true) (hav : (lg_sl av).length ≤ nL)
    (h : ∀ (p : Program) (e : Env) (s : State) (m : MethodId) (args : Array Value) (below : List Frame) (meth : Method) (c : Code) (A : Nat → Prop) (ls : Array Slot) (Q : State → Prop), Q = MQ below (QQ g A bs' rv) args s 0 0 A → FX g p s m args meth c b nL own ret A → lv_has ls nL (lv_args 0 av) → GM g A s.heap s.heap [] bs → W p l e rm s m args below meth c s.heap [] 0 0 Q (F0 m 0 ls [])) : CQ g l y b nL ret rm av bs rv bs' :=
  fun sz => M_intro (Qc := fun A => QQ g A bs' rv) hy hav 0 0 (fun p e s m below meth c A ls X hl _ hG => h p e s m _ below meth c A ls _ rfl (how ▸ X) hl hG) sz
section RW6
variable {p : Program} {l : Launch} {e : Env} {R : Room} {s : State} {m : MethodId} {args : Array Value} {below : List Frame} {meth : Method} {c : Code} {H : Heap} {locs : List Loc} {cells slots : Nat} {Q : State → Prop}
variable {g : GT} {cc : ByteArray} {nL pc : Nat} {own : String} {ret : Option FieldType} {A : Nat → Prop} {ls : Array Slot} {rest : List Value} {bs bs' : List va_W}
theorem r_qret {rv : Option Nat} {rt : FieldType} (X : FX g p s m args meth c cc nL own (some rt) A) (hG : GM g A s.heap H locs bs') (hrt : (∃ n, rt = .object n) ∨ ∃ t, rt = .array t) (hdg : decode cc pc = .ok (.areturn, 1)) : W p l e R s m args below meth c H locs cells slots (MQ below (QQ g A bs' rv) args s cells slots A) (F0 m pc ls [va_rf rv]) :=
  W.aret (hlocks := X.2.2.2.2.2.2.2.2) X.1 X.2.1 X.2.2.2.2.2.2.2.1 hrt (by cases rv <;> first | exact Or.inl rfl | exact Or.inr ⟨_, rfl⟩) (fun t ht hW => ⟨⟨rv, (), rfl, rfl, by rw [ht]; exact hG.1, hG.2.1⟩, hG.2.2.F ht⟩) hG.2.2.2.2 hdg
theorem r_callVq {y : MethodName} {b2 : ByteArray} {nL2 n idx : Nat} {ret2 : Option FieldType} {rm : Room} {C : String} {T : u_T} {N o ci j k : Nat} {fs As : List Value} {b : va_W} {bc bc' br : List va_W} {rv : Option Nat} {st : List Value} (X : FX g p s m args meth c cc nL own ret A) (hG : GM g A s.heap H locs bs) (hsz : ls.size = nL) (hM : CQ g l y b2 nL2 ret2 rm (.ref o :: As) bc rv bc') (hp : bs.flatten.Perm (bc ++ br).flatten) (hp' : (bc' ++ br).flatten.Perm bs'.flatten) (hk : LKC y b2 nL2 ret2 n) (hv : LKV y C) (hl : Cond.methodLink own idx y ∈ TW) (hj : bs[j]? = some b) (hkk : b[k]? = some (o, .inr (ci, fs))) (hc : vwCl[ci]? = some (C, T, N)) (hrc : rm.cells = 0) (hrs : rm.slots = 0) (hR : rm.frames + 1 ≤ R.frames ∧ 8 + (nL2 + 11) + rm.locals ≤ R.locals) (hn : As.length = n) (hst : st = As.reverse ++ .ref o :: rest) (hcat : (rest.map fun v => v.category).sum ≤ 8) (hcs : cells ≤ R.cells ∧ slots ≤ R.slots) (hdg : decode cc pc = .ok (.invokevirtual idx, 3))
    (kk : ∀ (H1 : Heap) (locs1 : List Loc), GM g A s.heap H1 locs1 bs' → W p l e R s m args below meth c H1 locs1 cells slots Q (F0 m (pc + 3) ls (va_rf rv :: rest))) : W p l e R s m args below meth c H locs cells slots Q (F0 m pc ls st) := by
  have hF := call_free X.2.2.2.2.2.2.1 hG hp
  refine va_callq (va_runV (C := C) (As := As) (rest := rest) ⟨X.1, X.2.1, X.2.2.1, X.2.2.2.1, X.2.2.2.2.1⟩ (hM H.size) ⟨callB_mk X hk hl hrc hrs hR, X.2.2.2.2.1 _ hv.1, X.2.2.2.2.1 _ hv.2⟩ ⟨PC_blind, call_recv X hG hj hkk hc, call_pre X hG hp⟩ rfl hn hsz hst (lv_room hcat) hdg hcs) hG.2.2 (fun q _ h => hF q h) hF (fun r u t H1 locs1 ht hvm hw hB hz hk1 hS => ?_)
  subst hw
  exact kk H1 locs1 (call_post X hG hp hp' hk1 (by rw [← ht]; exact hB.1) hB.2 hS)
end RW6
theorem blk_perm2 {α : Type} {l1 l2 : List α} (is : List Nat) (k : Nat) (hk : l1.length = k) (h : is.map (fun i => l1[i]?) = l2.map some) (hn : is.isPerm (List.range k) = true) : l1.Perm l2 := blk_perm is h (by rw [hk]; exact hn)
theorem FX_str {g : GT} {p : Program} {s : State} {m : MethodId} {args : Array Value} {meth : Method} {c : Code} {cc : ByteArray} {nL : Nat} {own : String} {ret : Option FieldType} {A : Nat → Prop} (X : FX g p s m args meth c cc nL own ret A) (i : Nat) (q : String × Nat × String) (h : K_own[i]? = some q) : vk_R q.1 q.2.1 q.2.2 (g.2.2.2.1 i) s := X.2.2.2.2.2.1.2.2.2.2.2.1 i q h
theorem FX_s0 {g : GT} {p : Program} {s : State} {m : MethodId} {args : Array Value} {meth : Method} {c : Code} {cc : ByteArray} {nL : Nat} {own : String} {ret : Option FieldType} {A : Nat → Prop} (X : FX g p s m args meth c cc nL own ret A) : vk_R RX7 82 "go heard * 3 - sun ; rush 0 ; harm 1 ;" (g.2.2.2.1 0) s := FX_str X 0 (RX7, 82, "go heard * 3 - sun ; rush 0 ; harm 1 ;") rfl
theorem FX_s1 {g : GT} {p : Program} {s : State} {m : MethodId} {args : Array Value} {meth : Method} {c : Code} {cc : ByteArray} {nL : Nat} {own : String} {ret : Option FieldType} {A : Nat → Prop} (X : FX g p s m args meth c cc nL own ret A) : vk_R RX4 99 "up" (g.2.2.2.1 1) s := FX_str X 1 (RX4, 99, "up") rfl
theorem FX_s2 {g : GT} {p : Program} {s : State} {m : MethodId} {args : Array Value} {meth : Method} {c : Code} {cc : ByteArray} {nL : Nat} {own : String} {ret : Option FieldType} {A : Nat → Prop} (X : FX g p s m args meth c cc nL own ret A) : vk_R RX4 105 "wait" (g.2.2.2.1 2) s := FX_str X 2 (RX4, 105, "wait") rfl
theorem FX_s3 {g : GT} {p : Program} {s : State} {m : MethodId} {args : Array Value} {meth : Method} {c : Code} {cc : ByteArray} {nL : Nat} {own : String} {ret : Option FieldType} {A : Nat → Prop} (X : FX g p s m args meth c cc nL own ret A) : vk_R RX4 107 "left" (g.2.2.2.1 3) s := FX_str X 3 (RX4, 107, "left") rfl
theorem FX_s4 {g : GT} {p : Program} {s : State} {m : MethodId} {args : Array Value} {meth : Method} {c : Code} {cc : ByteArray} {nL : Nat} {own : String} {ret : Option FieldType} {A : Nat → Prop} (X : FX g p s m args meth c cc nL own ret A) : vk_R RX4 109 "price" (g.2.2.2.1 4) s := FX_str X 4 (RX4, 109, "price") rfl
theorem FX_s5 {g : GT} {p : Program} {s : State} {m : MethodId} {args : Array Value} {meth : Method} {c : Code} {cc : ByteArray} {nL : Nat} {own : String} {ret : Option FieldType} {A : Nat → Prop} (X : FX g p s m args meth c cc nL own ret A) : vk_R RX4 111 "heard" (g.2.2.2.1 5) s := FX_str X 5 (RX4, 111, "heard") rfl
theorem FX_s6 {g : GT} {p : Program} {s : State} {m : MethodId} {args : Array Value} {meth : Method} {c : Code} {cc : ByteArray} {nL : Nat} {own : String} {ret : Option FieldType} {A : Nat → Prop} (X : FX g p s m args meth c cc nL own ret A) : vk_R RX4 113 "sun" (g.2.2.2.1 6) s := FX_str X 6 (RX4, 113, "sun") rfl
theorem FX_s7 {g : GT} {p : Program} {s : State} {m : MethodId} {args : Array Value} {meth : Method} {c : Code} {cc : ByteArray} {nL : Nat} {own : String} {ret : Option FieldType} {A : Nat → Prop} (X : FX g p s m args meth c cc nL own ret A) : vk_R RX4 115 "go" (g.2.2.2.1 7) s := FX_str X 7 (RX4, 115, "go") rfl
theorem FX_s8 {g : GT} {p : Program} {s : State} {m : MethodId} {args : Array Value} {meth : Method} {c : Code} {cc : ByteArray} {nL : Nat} {own : String} {ret : Option FieldType} {A : Nat → Prop} (X : FX g p s m args meth c cc nL own ret A) : vk_R RX4 117 "rush" (g.2.2.2.1 8) s := FX_str X 8 (RX4, 117, "rush") rfl
theorem FX_s9 {g : GT} {p : Program} {s : State} {m : MethodId} {args : Array Value} {meth : Method} {c : Code} {cc : ByteArray} {nL : Nat} {own : String} {ret : Option FieldType} {A : Nat → Prop} (X : FX g p s m args meth c cc nL own ret A) : vk_R RX4 119 "harm" (g.2.2.2.1 9) s := FX_str X 9 (RX4, 119, "harm") rfl
theorem FX_s10 {g : GT} {p : Program} {s : State} {m : MethodId} {args : Array Value} {meth : Method} {c : Code} {cc : ByteArray} {nL : Nat} {own : String} {ret : Option FieldType} {A : Nat → Prop} (X : FX g p s m args meth c cc nL own ret A) : vk_R RX4 121 "or" (g.2.2.2.1 10) s := FX_str X 10 (RX4, 121, "or") rfl
theorem FX_s11 {g : GT} {p : Program} {s : State} {m : MethodId} {args : Array Value} {meth : Method} {c : Code} {cc : ByteArray} {nL : Nat} {own : String} {ret : Option FieldType} {A : Nat → Prop} (X : FX g p s m args meth c cc nL own ret A) : vk_R RX4 123 "and" (g.2.2.2.1 11) s := FX_str X 11 (RX4, 123, "and") rfl
theorem FX_s12 {g : GT} {p : Program} {s : State} {m : MethodId} {args : Array Value} {meth : Method} {c : Code} {cc : ByteArray} {nL : Nat} {own : String} {ret : Option FieldType} {A : Nat → Prop} (X : FX g p s m args meth c cc nL own ret A) : vk_R RX4 125 "not" (g.2.2.2.1 12) s := FX_str X 12 (RX4, 125, "not") rfl
