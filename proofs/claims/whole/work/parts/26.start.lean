-- THE START: what the Statement gives of it, as the walk wants it
def K_tm (i : Nat) : Term := match K_own[i]? with
  | some q => Term.string q.1 q.2.1
  | none => Term.string "" 0
theorem rc_of {args : Array Value} {s : State} {t : FieldType} (h : (Cond.arrayClass t).before args s = true) (ho : ∀ C, t ≠ .object C) : ∃ c : ClassId, ArrOfT s c t ∧ va_RA s c t := by
  obtain ⟨c, k, comp, h1, h2, h3⟩ := Cond.arrayClass_spec h
  refine ⟨c, fun N z => ⟨(fun q hq => by cases hq), k, h2, comp, h3⟩, ?_⟩
  cases t <;> first | exact h1 | exact absurd rfl (ho _)
theorem rc_obj {s : State} {C : String} (h : va_AO C s) : ∃ c : ClassId, ArrOfT s c (.object C) ∧ va_RA s c (.object C) := by
  obtain ⟨comp, c, k, h1, h2, h3, h4, h5⟩ := Cond.arrayOver_spec h
  exact ⟨c, fun N z => ⟨(fun q hq => by cases hq), k, h3, comp, h4⟩, k, comp, h3, h4, h1, h5⟩
theorem rc_two {s : State} (h : ao2 s) : ∃ c : ClassId, ArrOfT s c (.array .int) ∧ va_RA s c (.array .int) := by
  obtain ⟨comp, c, k, h1, h2, h3, h4, h5⟩ := ao2_spec h
  exact ⟨c, fun N z => ⟨(fun q hq => by cases hq), k, h3, comp, h4⟩, h5⟩
def nflat : List Cond := flatC (Jvm.Cond.and given_1 narrow_1)
theorem st_tab {s : State} {args : Array Value} (nm : String) (f : Nat → Value) (A : Nat → Prop) (hA : ∀ a : Nat, a < s.heap.size → ¬ A a) (hts : ∀ w ∈ lw_tbl, w.before args s = true) (hs : ∀ w ∈ nflat, w.before args s = true)
    (h1 : Cond.laysStatic "LastCar" nm "[I" ∈ lw_tbl) (h2 : Cond.initialized "LastCar" ∈ lw_tbl) (h3 : Cond.arrayOf (.static "LastCar" nm "[I") .int ∈ nflat) (h4 : Cond.eq (.length (.static "LastCar" nm "[I")) (.int 6) ∈ nflat) (z : Nat → Int32) (hz : ∀ j, f j = .int (z j)) (h5 : ∀ j, j < 6 → Cond.eq (.elem (.static "LastCar" nm "[I") (.int (Int32.ofNat j))) (.int (z j)) ∈ nflat) : ∃ t : Nat, va_Z "LastCar" nm "[I" (.ref t) A s s.heap ∧ va_T .int t 6 f A s s.heap := by
  obtain ⟨t, ht, hT⟩ := va_Tof (tm := .static "LastCar" nm "[I") (ty := .int) (N := 6) (f := f) (A := A) (by decide) (hs _ h3) (va_eqt (hs _ h4)) (fun j hj => by rw [hz]; exact va_eqt (hs _ (h5 j hj))) hA
  exact ⟨t, va_Zref (hts _ h1) (hts _ h2) ht hA, hT⟩
def K_prs : List (Nat × Nat) := [(0, 1), (0, 2), (1, 2), (0, 3), (1, 3), (2, 3), (0, 4), (1, 4), (2, 4), (3, 4), (0, 5), (1, 5), (2, 5), (3, 5), (4, 5), (0, 6), (1, 6), (2, 6), (3, 6), (4, 6), (5, 6), (0, 7), (1, 7), (2, 7), (3, 7), (4, 7), (5, 7), (6, 7), (0, 8), (1, 8), (2, 8), (3, 8), (4, 8), (5, 8), (6, 8), (7, 8), (0, 9), (1, 9), (2, 9), (3, 9), (4, 9), (5, 9), (6, 9), (7, 9), (8, 9), (0, 10), (1, 10), (2, 10), (3, 10), (4, 10), (5, 10), (6, 10), (7, 10), (8, 10), (9, 10), (0, 11), (1, 11), (2, 11), (3, 11), (4, 11), (5, 11), (6, 11), (7, 11), (8, 11), (9, 11), (10, 11), (0, 12), (1, 12), (2, 12), (3, 12), (4, 12), (5, 12), (6, 12), (7, 12), (8, 12), (9, 12), (10, 12), (11, 12)]
def isNS (w : Cond) : Bool := match w with
  | .not (.eq (.string _ _) (.string _ _)) => true
  | _ => false
theorem K_prs_eq : K_prs.map (fun p => Cond.not (Cond.eq (K_tm p.1) (K_tm p.2))) = nflat.filter isNS := by decide +kernel
theorem K_prs_all : ∀ i, i < 13 → ∀ j, j < 13 → i = j ∨ (K_prs.contains (i, j) || K_prs.contains (j, i)) = true := by decide +kernel
theorem K_apart : ∀ i j, i < 13 → j < 13 → i ≠ j → Cond.not (Cond.eq (K_tm i) (K_tm j)) ∈ nflat ∨ Cond.not (Cond.eq (K_tm j) (K_tm i)) ∈ nflat := by
  have key : ∀ q : Nat × Nat, q ∈ K_prs → Cond.not (Cond.eq (K_tm q.1) (K_tm q.2)) ∈ nflat := fun q hq => by
    have h : Cond.not (Cond.eq (K_tm q.1) (K_tm q.2)) ∈ nflat.filter isNS := by rw [← K_prs_eq]; exact List.mem_map.mpr ⟨q, hq, rfl⟩
    exact (List.mem_filter.mp h).1
  intro i j hi hj hne
  have h := (K_prs_all i hi j hj).resolve_left hne
  rw [Bool.or_eq_true] at h
  exact h.imp (fun h => key (i, j) (List.contains_iff_mem.mp h)) (fun h => key (j, i) (List.contains_iff_mem.mp h))
set_option maxHeartbeats 4000000 in
set_option maxRecDepth 100000 in
theorem start_KS {p : Program} {s : State} {m : MethodId} {meth : Method} {c : Code} {b L : Nat} {xs : Nat → Int32} (C0 : lw_At p s m meth c b L xs) : ∃ g : GT, KS g (fun q => s.heap.size ≤ q) s s.heap := by
  obtain ⟨hx, hb, hr, hml, hown, hts, hX, hbl, hlocks, hgv⟩ := C0
  have hTW : ∀ w ∈ TW, w.before #[Value.ref b] s = true := fun w h => hts w (List.mem_filter.mp h).1
  have hs : ∀ w ∈ nflat, w.before #[Value.ref b] s = true := flat_of_before _ hgv
  have hA : ∀ a : Nat, a < s.heap.size → ¬ (fun q => s.heap.size ≤ q) a := fun a h => Nat.not_le.mpr h
  obtain ⟨c0, i0, k0⟩ := u_known (C := RX0) (T := TX0) (N := 4) (n := 4) hTW inX0 (hTW _ (TW_at 138 (by decide +kernel) (by decide +kernel)))
  obtain ⟨c1, i1, k1⟩ := u_known (C := RX1) (T := TX1) (N := 13) (n := 13) hTW inX1 (hTW _ (TW_at 208 (by decide +kernel) (by decide +kernel)))
  obtain ⟨c2, i2, k2⟩ := u_known (C := RX2) (T := TX2) (N := 10) (n := 10) hTW inX2 (hTW _ (TW_at 84 (by decide +kernel) (by decide +kernel)))
  obtain ⟨c3, i3, k3⟩ := u_known (C := RX3) (T := TX3) (N := 3) (n := 3) hTW inX3 (hTW _ (TW_at 430 (by decide +kernel) (by decide +kernel)))
  obtain ⟨c4, i4, k4⟩ := u_known (C := RX4) (T := TX4) (N := 6) (n := 6) hTW inX4 (hTW _ (TW_at 178 (by decide +kernel) (by decide +kernel)))
  obtain ⟨c5, i5, k5⟩ := u_known (C := RX5) (T := TX5) (N := 4) (n := 4) hTW inX5 (hTW _ (TW_at 261 (by decide +kernel) (by decide +kernel)))
  obtain ⟨c6, i6, k6⟩ := u_known (C := RX6) (T := TX6) (N := 3) (n := 3) hTW inX6 (hTW _ (TW_at 159 (by decide +kernel) (by decide +kernel)))
  obtain ⟨c7, i7, k7⟩ := u_known (C := RX7) (T := TX7) (N := 12) (n := 12) hTW inX7 (hTW _ (TW_at 76 (by decide +kernel) (by decide +kernel)))
  obtain ⟨c8, i8, k8⟩ := u_known (C := RX8) (T := TX8) (N := 61) (n := 61) hTW inX8 (hTW _ (TW_at 814 (by decide +kernel) (by decide +kernel)))
  obtain ⟨dC, dI, hKc⟩ : ∃ (dC : Nat → ClassId) (dI : Nat → Nat → Nat), ∀ (k : Nat) (q : vw_C), vwCl[k]? = some q → u_Kn s q.1 q.2.1 q.2.2 (dC k) (dI k) := by
    refine ⟨fun k => if k = 0 then c0 else if k = 1 then c1 else if k = 2 then c2 else if k = 3 then c3 else if k = 4 then c4 else if k = 5 then c5 else if k = 6 then c6 else if k = 7 then c7 else c8, fun k => if k = 0 then i0 else if k = 1 then i1 else if k = 2 then i2 else if k = 3 then i3 else if k = 4 then i4 else if k = 5 then i5 else if k = 6 then i6 else if k = 7 then i7 else i8, ?_⟩
    intro k q hq
    match k, hq with
    | 0, hq => cases hq; exact k0
    | 1, hq => cases hq; exact k1
    | 2, hq => cases hq; exact k2
    | 3, hq => cases hq; exact k3
    | 4, hq => cases hq; exact k4
    | 5, hq => cases hq; exact k5
    | 6, hq => cases hq; exact k6
    | 7, hq => cases hq; exact k7
    | 8, hq => cases hq; exact k8
    | k + 9, hq => simp [vwCl] at hq
  have ao3 : va_AO "LastCar$Text" s := va_AO.of (hts _ (show Cond.arrayOver (.object "LastCar$Text") ∈ lw_tbl by decide +kernel))
  have ao4 : va_AO "LastCar$Sheet" s := va_AO.of (hts _ (show Cond.arrayOver (.object "LastCar$Sheet") ∈ lw_tbl by decide +kernel))
  have ao5 : va_AO "LastCar$Way" s := va_AO.of (hts _ (show Cond.arrayOver (.object "LastCar$Way") ∈ lw_tbl by decide +kernel))
  have ao6 : ao2 s := hts _ (show Cond.arrayOver (.array .int) ∈ lw_tbl by decide +kernel)
  obtain ⟨y0, hy0⟩ := rc_of (hts _ (show Cond.arrayClass .int ∈ lw_tbl by decide +kernel)) (fun C h => by cases h)
  obtain ⟨y1, hy1⟩ := rc_of (hts _ (show Cond.arrayClass .byte ∈ lw_tbl by decide +kernel)) (fun C h => by cases h)
  obtain ⟨y2, hy2⟩ := rc_two ao6
  obtain ⟨y3, hy3⟩ := rc_obj ao3
  obtain ⟨y4, hy4⟩ := rc_obj ao4
  obtain ⟨y5, hy5⟩ := rc_obj ao5
  obtain ⟨t0, hz0⟩ := st_tab "LEAST" st_least _ hA hts hs (by decide +kernel) (by decide +kernel) (by decide +kernel) (by decide +kernel) ct_least st_least_eq (by decide +kernel)
  obtain ⟨t1, hz1⟩ := st_tab "MOST" st_most _ hA hts hs (by decide +kernel) (by decide +kernel) (by decide +kernel) (by decide +kernel) ct_most st_most_eq (by decide +kernel)
  obtain ⟨t2, hz2⟩ := st_tab "UNDER" st_under _ hA hts hs (by decide +kernel) (by decide +kernel) (by decide +kernel) (by decide +kernel) ct_under st_under_eq (by decide +kernel)
  have e1 : ∀ i, i < 13 → Cond.exactly (K_tm i) "java/lang/String" ∈ nflat := by decide +kernel
  have e2 : ∀ i, i < 13 → Cond.eq (.field (K_tm i) "java/lang/String" "coder" "B") (.int 0) ∈ nflat := by decide +kernel
  have e3 : ∀ i, i < 13 → Cond.arrayOf (.field (K_tm i) "java/lang/String" "value" "[B") .byte ∈ nflat := by decide +kernel
  have e4 : ∀ i, i < 13 → Cond.eq (.length (.field (K_tm i) "java/lang/String" "value" "[B")) (.int (Int32.ofNat (K_len.getD i 0))) ∈ nflat := by decide +kernel
  have e5 : ∀ i, i < 13 → ∀ j, j < K_len.getD i 0 → Cond.eq (.elem (.field (K_tm i) "java/lang/String" "value" "[B") (.int (Int32.ofNat j))) (.int ((K_byt.getD i []).getD j 0)) ∈ nflat := by decide +kernel
  have e6 : ∀ i j, i < 13 → j < 13 → i ≠ j → Cond.not (Cond.eq (K_tm i) (K_tm j)) ∈ nflat ∨ Cond.not (Cond.eq (K_tm j) (K_tm i)) ∈ nflat := K_apart
  have e7 : ∀ i, i < 13 → ∀ q ∈ K_own[i]?, Cond.stringRef q.1 q.2.1 q.2.2 ∈ lw_tbl := by decide +kernel
  obtain ⟨adK, adV, hS1, hS2⟩ := vk_Sof (N := 13) (tm := K_tm) (len := K_len) (byt := K_byt) K_len_small (fun i hi => hs _ (e1 i hi)) (fun i hi => hs _ (e2 i hi)) (fun i hi => hs _ (e3 i hi)) (fun i hi => hs _ (e4 i hi)) (fun i hi j hj => hs _ (e5 i hi j hj)) (fun i j hi hj hne => (e6 i j hi hj hne).imp (hs _) (hs _)) hA
  refine ⟨((dC, dI), (fun k => if k = 0 then y0 else if k = 1 then y1 else if k = 2 then y2 else if k = 3 then y3 else if k = 4 then y4 else y5), (fun k => if k = 0 then t0 else if k = 1 then t1 else t2), adK, adV), ⟨hKc, ?_⟩, ?_, hz0, hz1, hz2, ?_, hS1, ?_, ?_, ao3, ao4, ao5, ao6⟩
  · intro k q hq
    match k, hq with
    | 0, hq => cases hq; exact hy0
    | 1, hq => cases hq; exact hy1
    | 2, hq => cases hq; exact hy2
    | 3, hq => cases hq; exact hy3
    | 4, hq => cases hq; exact hy4
    | 5, hq => cases hq; exact hy5
    | k + 6, hq => simp [tysG] at hq
  · intro w hw
    have h1 := hts w (List.mem_filter.mp hw).1
    have h2 := (List.mem_filter.mp hw).2
    cases w <;> first | (exact va_Nw.of rfl h1) | (exact absurd h2 (by simp))
  · intro i q hi
    have hlt : i < 13 := by
      have := (List.getElem?_eq_some_iff.mp hi).1
      exact this
    have h1 := hts _ (e7 i hlt q hi)
    have h2 := hS2 i hlt
    have h3 : K_tm i = Term.string q.1 q.2.1 := by unfold K_tm; rw [hi]
    rw [h3] at h2
    exact vk_R.of h1 h2
  · exact va_Zof (hts _ (by decide +kernel)) (hts _ (by decide +kernel)) (va_eqi (hs _ (by decide +kernel))) hA
  · exact va_Zqof (hts _ (by decide +kernel)) (hts _ (by decide +kernel)) (hs _ (by decide +kernel)) hA
