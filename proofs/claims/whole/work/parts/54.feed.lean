-- OPS: feed
theorem shf8 : ∀ k, k < 8 → (Int64.ofNat (8 * k)).toBitVec.smod 64 = BitVec.ofNat 64 (8 * k) ∧ (UInt64.ofNat (8 * k)).toBitVec % 64 = BitVec.ofNat 64 (8 * k) ∧ (BitVec.ofNat 64 (8 * k)).toNat = 8 * k := by decide +kernel
theorem sx_trunc (y : BitVec 64) (i : Nat) (hi : i < 8) : ((y.signExtend 32).signExtend 8).getLsbD i = y.getLsbD i := by
  rw [BitVec.getLsbD_signExtend, BitVec.getLsbD_signExtend, if_pos (by omega), if_pos (by omega), decide_eq_true hi, decide_eq_true (show i < 32 by omega), Bool.true_and, Bool.true_and]
theorem low8 (x : Int64) (k : Nat) (hk : k < 8) : (Int64.toInt32 (x >>> Int64.ofNat (8 * k))).toInt8 = (Int64.toInt32 (UInt64.toInt64 (x.toUInt64 >>> UInt64.ofNat (8 * k)))).toInt8 := by
  obtain ⟨a1, a2, a3⟩ := shf8 k hk
  apply Int8.toBitVec_inj.mp
  apply BitVec.eq_of_getLsbD_eq
  intro i hi
  show (((x.toBitVec.sshiftRight' ((Int64.ofNat (8 * k)).toBitVec.smod 64)).signExtend 32).signExtend 8).getLsbD i = (((x.toBitVec >>> ((UInt64.ofNat (8 * k)).toBitVec % 64)).signExtend 32).signExtend 8).getLsbD i
  rw [sx_trunc _ i hi, sx_trunc _ i hi, a1, a2, BitVec.getLsbD_sshiftRight', BitVec.ushiftRight_eq', BitVec.getLsbD_ushiftRight, a3, if_pos (by omega), decide_eq_false (by omega), Bool.not_false, Bool.true_and]
theorem sb_all : ∀ n, n < 256 → sb ((Int8.ofNat n).toInt32 &&& 255) = (Int8.ofNat n).toInt32 ∧ 0 ≤ ((Int8.ofNat n).toInt32 &&& 255).toInt ∧ ((Int8.ofNat n).toInt32 &&& 255).toInt ≤ 255 := by decide +kernel
theorem i8_of (y : Int8) : ∃ n, n < 256 ∧ y = Int8.ofNat n := ⟨y.toBitVec.toNat, y.toBitVec.isLt, by apply Int8.toBitVec_inj.mp; simp⟩
theorem and255 (x : Int32) : x.toInt8.toInt32 &&& 255 = x &&& 255 := by
  apply Int32.toBitVec_inj.mp
  apply BitVec.eq_of_getLsbD_eq
  intro i hi
  have h255 : (255 : Int32).toBitVec = 255#32 := by decide
  have hb : (255#32).getLsbD i = decide (i < 8) := by
    revert i; decide
  simp only [Int32.toBitVec_and, BitVec.getLsbD_and, h255, hb, Int8.toBitVec_toInt32, Int32.toBitVec_toInt8]
  by_cases h : i < 8
  · rw [BitVec.getLsbD_signExtend, BitVec.getLsbD_signExtend, if_pos h, if_pos hi, decide_eq_true hi, decide_eq_true h, Bool.true_and, Bool.true_and]
  · rw [decide_eq_false h, Bool.and_false, Bool.and_false]
theorem byte_both (w v : Int32) (h : w.toInt8 = v.toInt8) : sb (w &&& 255) = vp_nar .byte (v.toInt8.toInt32) ∧ IR (w &&& 255) 0 255 := by
  obtain ⟨n, hn, e⟩ := i8_of w.toInt8
  obtain ⟨a1, a2, a3⟩ := sb_all n hn
  rw [← and255 w, vp_nar_byte, ← h, e]
  refine ⟨?_, a2, a3⟩
  rw [a1]
  simp
theorem RTape_push {P s : MS} {b : Int32} (hr : RTape P s) (hb : IR b 0 255) (hs : (s.1 20).toInt < 160) : RTape (sp (ap P 0 (s.1 20).toNatClampNeg b) 1 (s.1 20 + 1)) (sp (ap s 19 (s.1 20).toNatClampNeg (sb b)) 20 (s.1 20 + 1)) := by
  obtain ⟨e, i0, h⟩ := hr
  have hi := inc_i (s.1 20) i0.1 (by omega)
  have hn := nn_eq i0.1
  refine ⟨by rw [sp1, if_pos rfl, sp1, if_pos rfl], ⟨by rw [sp1, if_pos rfl, hi]; have := i0.1; omega, by rw [sp1, if_pos rfl, hi]; omega⟩, fun i hlt => ?_⟩
  rw [sp1, if_pos rfl, hi] at hlt
  rw [sp2, sp2, ap2, if_pos rfl, ap2, if_pos rfl]
  by_cases q : i = (s.1 20).toNatClampNeg
  · rw [if_pos q, if_pos q]; exact ⟨hb, rfl⟩
  · rw [if_neg q, if_neg q]; exact h i (by omega)
theorem R_tape {t0 : MS} {nw : Nat} {c : CS} {s s' P' : MS} (hr : R t0 nw c s) (hT : RTape P' s') (g : ∀ ks as, 20 ∉ ks → 19 ∉ as → AG ks as s s') : R t0 nw (c.1, c.2.1, c.2.2.1, c.2.2.2.1, c.2.2.2.2.1, c.2.2.2.2.2.1, P', c.2.2.2.2.2.2.2) s' := by
  obtain ⟨rH, rK, rC, rW, rP, rT, rX, rS, rM⟩ := hr
  exact ⟨RHill_ag rH (g _ _ (by decide) (by decide)), RKept_ag rK (g _ _ (by decide) (by decide)), RCars_ag rC (g _ _ (by decide) (by decide)) trivial, RWays_ag rW (g _ _ (by decide) (by decide)), rP, hT, RTexts_ag rX (g _ _ (by decide) (by decide)), RSheets_ag rS (g _ _ (by decide) (by decide)), RMisc_ag rM (g _ _ (by decide) (by decide))⟩
theorem shl8 : ∀ k, k < 8 → (Int32.toInt64 (8 * nI k) &&& 63) = Int64.ofNat (8 * k) ∧ (Int64.toUInt64 (Int32.toInt64 (8 * nI k)) &&& Int64.toUInt64 63) = UInt64.ofNat (8 * k) := by decide +kernel
theorem op_feed (t0 : MS) (nw n : Nat) (hn : 9 ≤ n) (a : Int32) (b : Int64) (c : CS) (s : MS) (hr : R t0 nw c s) : SIM t0 nw (f_X7_feed n nw a b c) (f_X8_feed n a b s) := by
  have hr0 := hr
  obtain ⟨rH, rK, rC, rW, rP, rT, rX, rS, rM⟩ := hr
  have z1 : (1 : Int32).toInt = 1 := by decide
  have z8 : (8 : Int32).toInt = 8 := by decide
  have z160 : (160 : Int32).toInt = 160 := by decide
  have e1 := rT.1
  have i0 := rT.2.1
  unfold f_X7_feed f_X8_feed
  rw [btw, m_in, cl_some, cl_some]
  simp only [bo_0]
  by_cases h1 : 1 ≤ a ∧ a ≤ 8
  case neg => rw [ite_not_f h1, ite_not_f h1]; exact ⟨_, _, _, rfl, rfl, hr0⟩
  rw [ite_not_t h1, ite_not_t h1, e1]
  rw [le_i, le_i, z1, z8] at h1
  have hs : (s.1 20 + a).toInt = (s.1 20).toInt + a.toInt := add_i _ _ (by have := i0.1; have := i0.2; omega)
  by_cases h2 : s.1 20 + a ≤ 160
  case neg => rw [if_neg h2, if_neg h2]; exact ⟨_, _, _, rfl, rfl, hr0⟩
  rw [if_pos h2, if_pos h2]
  rw [le_i, hs, z160] at h2
  obtain ⟨a1, a2, a3⟩ := IR_nat (x := a) (hi := 8) ⟨by omega, by omega⟩ (by omega)
  refine sim_lp (fun x y => ∃ j, j ≤ a.toNatClampNeg ∧ x.1 = nI j ∧ y.1 = nI j ∧ R t0 nw x.2 y.2 ∧ (y.2.1 20).toInt = (s.1 20).toInt + (j : Int)) (fun x => 8 - x.1.toNatClampNeg) ?_ n n _ _ ⟨0, Nat.zero_le _, rfl, rfl, hr0, by show (s.1 20).toInt = _; omega⟩ (by show 8 - (0 : Int32).toNatClampNeg < n; omega) (by show 8 - (0 : Int32).toNatClampNeg < n; omega)
  rintro ⟨t, c'⟩ ⟨u, s'⟩ ⟨j, hj, ht, hu, hr', hsz⟩
  have ht : t = nI j := ht
  have hu : u = nI j := hu
  subst ht
  subst hu
  have hr' : R t0 nw c' s' := hr'
  have hsz : (s'.1 20).toInt = (s.1 20).toInt + (j : Int) := hsz
  have rT' := hr'.2.2.2.2.2.1
  have e1' := rT'.1
  have jT : (nI j).toInt = (j : Int) := nI_toInt (by omega)
  by_cases hl : j = a.toNatClampNeg
  · have hle : a ≤ nI j := by rw [le_i, jT]; omega
    refine Or.inr ⟨(s'.1 20, c'), (s'.1 20, s'), ⟨rfl, hr'⟩, fun self => ?_, fun self => ?_⟩
    · show (if a ≤ nI j then some (c'.2.2.2.2.2.2.1.1 1, c') else _) = _
      rw [if_pos hle, e1']
    · show (if a ≤ nI j then _ else _) = _
      rw [if_pos hle]
  · have hle : ¬ a ≤ nI j := by rw [le_i, jT]; omega
    obtain ⟨s1, s2⟩ := shl8 j (by omega)
    obtain ⟨b1, b2⟩ := byte_both (Int64.toInt32 (UInt64.toInt64 (b.toUInt64 >>> UInt64.ofNat (8 * j)))) (Int64.toInt32 (b >>> Int64.ofNat (8 * j))) (low8 b j (by omega)).symm
    have i0' := rT'.2.1
    have hlt : (s'.1 20).toInt < 160 := by omega
    have hin : ib (s'.1 20) 160 = true := ib_of i0'.1 hlt
    refine Or.inl ⟨(nI (j + 1), (c'.1, c'.2.1, c'.2.2.1, c'.2.2.2.1, c'.2.2.2.2.1, c'.2.2.2.2.2.1, (sp (ap c'.2.2.2.2.2.2.1 0 (s'.1 20).toNatClampNeg (Int64.toInt32 (UInt64.toInt64 (b.toUInt64 >>> UInt64.ofNat (8 * j))) &&& 255)) 1 (s'.1 20 + 1)), c'.2.2.2.2.2.2.2)), (nI (j + 1), sp (ap s' 19 (s'.1 20).toNatClampNeg (sb (Int64.toInt32 (UInt64.toInt64 (b.toUInt64 >>> UInt64.ofNat (8 * j))) &&& 255))) 20 (s'.1 20 + 1)), ⟨j + 1, by omega, rfl, rfl, R_tape hr' (RTape_push rT' b2 hlt) (fun ks as h1 h2 => AG_tr (AG_ap h2) (AG_sp h1)), ?_⟩, ?_, fun self => ?_, fun self => ?_⟩
    · show ((sp _ 20 (s'.1 20 + 1)).1 20).toInt = _
      rw [sp1, if_pos rfl, inc_i _ i0'.1 (by omega)]
      omega
    · show 8 - (nI (j + 1)).toNatClampNeg < 8 - (nI j).toNatClampNeg
      rw [nI_clamp (by omega), nI_clamp (by omega)]
      omega
    · show (if a ≤ nI j then _ else cl (f_X4_append n ((Int64.toInt32 (UInt64.toInt64 (Int64.toUInt64 b >>> (Int64.toUInt64 (Int32.toInt64 (8 * nI j)) &&& Int64.toUInt64 63)))) &&& 255) c'.2.2.2.2.2.2.1) fun q7 => self (nI j + 1, c'.1, c'.2.1, c'.2.2.1, c'.2.2.2.1, c'.2.2.2.2.1, c'.2.2.2.2.2.1, q7, c'.2.2.2.2.2.2.2)) = _
      unfold f_X4_append
      rw [if_neg hle, s2, e1', if_pos (by rw [lt_i, z160]; exact hlt), hin, ck_t, bn_def, bn_def, cl_some, nI_succ, ap1, e1']
    · show (if a ≤ nI j then _ else ck (ib (s'.1 20) 160) (bn (ap s' 19 (s'.1 20).toNatClampNeg (vp_nar .byte (Int8.toInt32 (Int32.toInt8 (Int64.toInt32 (b >>> (Int32.toInt64 (8 * nI j) &&& 63))))))) fun z7 => bn (sp z7 20 ((z7.1 20) + 1)) fun z8 => self ((nI j + 1), z8))) = _
      rw [if_neg hle, hin, ck_t, bn_def, bn_def, s1, ← b1, nI_succ, ap1]
