-- THE ROWS: one for each kind of instruction that touches the heap, calls or ends
section RW
variable {p : Program} {l : Launch} {e : Env} {R : Room} {s : State} {m : MethodId} {args : Array Value} {below : List Frame} {meth : Method} {c : Code} {H : Heap} {locs : List Loc} {cells slots : Nat} {Q : State → Prop}
variable {g : GT} {cc : ByteArray} {nL pc : Nat} {own : String} {ret : Option FieldType} {A : Nat → Prop} {ls : Array Slot} {rest : List Value} {bs bs' : List va_W}
theorem r_iret {rv : Int32} (X : FX g p s m args meth c cc nL own (some .int) A) (hG : GM g A s.heap H locs bs') (hdg : decode cc pc = .ok (.ireturn, 1)) : W p l e R s m args below meth c H locs cells slots (MQ below (QI g A bs' rv) args s cells slots A) (F0 m pc ls [.int rv]) :=
  W.iret (hlocks := X.2.2.2.2.2.2.2.2) X.1 X.2.1 X.2.2.2.2.2.2.2.1 (fun t ht hW => ⟨⟨rv, (), rfl, rfl, by rw [ht]; exact hG.1, hG.2.1⟩, hG.2.2.F ht⟩) hG.2.2.2.2 hdg
theorem r_zret {rv : Int32} (X : FX g p s m args meth c cc nL own (some .boolean) A) (hG : GM g A s.heap H locs bs') (hz : rv = 0 ∨ rv = 1) (hdg : decode cc pc = .ok (.ireturn, 1)) : W p l e R s m args below meth c H locs cells slots (MQ below (QI g A bs' rv) args s cells slots A) (F0 m pc ls [.int rv]) :=
  W.zret (hlocks := X.2.2.2.2.2.2.2.2) X.1 X.2.1 X.2.2.2.2.2.2.2.1 (by rcases hz with rfl | rfl <;> decide) (fun t ht hW => ⟨⟨rv, (), rfl, rfl, by rw [ht]; exact hG.1, hG.2.1⟩, hG.2.2.F ht⟩) hG.2.2.2.2 hdg
theorem r_lret {rv : Int64} (X : FX g p s m args meth c cc nL own (some .long) A) (hG : GM g A s.heap H locs bs') (hdg : decode cc pc = .ok (.lreturn, 1)) : W p l e R s m args below meth c H locs cells slots (MQ below (QL g A bs' rv) args s cells slots A) (F0 m pc ls [.long rv]) :=
  W.lret (hlocks := X.2.2.2.2.2.2.2.2) X.1 X.2.1 X.2.2.2.2.2.2.2.1 (fun t ht hW => ⟨⟨rv, (), rfl, rfl, by rw [ht]; exact hG.1, hG.2.1⟩, hG.2.2.F ht⟩) hG.2.2.2.2 hdg
theorem r_vret (X : FX g p s m args meth c cc nL own none A) (hG : GM g A s.heap H locs bs') (hdg : decode cc pc = .ok (.return_, 1)) : W p l e R s m args below meth c H locs cells slots (MQ below (QV g A bs') args s cells slots A) (F0 m pc ls []) :=
  W.vret (hlocks := X.2.2.2.2.2.2.2.2) X.1 X.2.1 X.2.2.2.2.2.2.2.1 (fun t ht hW => ⟨⟨(), rfl, trivial, by rw [ht]; exact hG.1, hG.2.1⟩, hG.2.2.F ht⟩) hG.2.2.2.2 hdg
/-- reading a field -/
theorem r_get (X : FX g p s m args meth c cc nL own ret A) {H0 : Heap} (hG : GM g A H0 H locs bs) (j k : Nat) {b : va_W} (hj : bs[j]? = some b) {a ci : Nat} {fs : List Value} (hk : b[k]? = some (a, .inr (ci, fs))) {C : String} {T : u_T} {N : Nat} (hc : vwCl[ci]? = some (C, T, N)) (f : Nat) (hf : f < N) (hin : ∀ w ∈ u_ws C T N, w ∈ TW) {index : Nat} (hlink : Cond.fieldLink own index (T f).1 (T f).2.1 (T f).2.2.1 ∈ TW) {v : Value} (hv : fs[f]? = some v) (hdg : decode cc pc = .ok (.getfield index, 3))
    (kk : W p l e R s m args below meth c H locs cells slots Q (F0 m (pc + 3) ls (v :: rest))) : W p l e R s m args below meth c H locs cells slots Q (F0 m pc ls (.ref a :: rest)) := by
  obtain ⟨i, hi, -⟩ := blk_set hj hk
  exact va_get (D := g.1) (v := v) X.1 X.2.1 X.2.2.2.2.1 hin X.2.2.2.1 X.2.2.2.2.2.1.1 hG.1 i hi hc f hf (X.2.2.2.2.1 _ hlink) (fun _ h => h) hv hdg kk
/-- writing a field that isn't final -/
theorem r_put (X : FX g p s m args meth c cc nL own ret A) {H0 : Heap} (hG : GM g A H0 H locs bs) (j k : Nat) {b : va_W} (hj : bs[j]? = some b) {a ci : Nat} {fs : List Value} (hk : b[k]? = some (a, .inr (ci, fs))) {C : String} {T : u_T} {N : Nat} (hc : vwCl[ci]? = some (C, T, N)) (f : Nat) (hf : f < N) (hin : ∀ w ∈ u_ws C T N, w ∈ TW) (ty0 : Nat → FieldType) (hty : ∀ k, k < N → parseFieldDescriptor (T k).2.2.1 = some (ty0 k)) (hnm : ∀ a, a < N → ∀ b, b < N → a ≠ b → (T a).2.1 ≠ (T b).2.1) {index : Nat} (hlink : Cond.fieldLink own index (T f).1 (T f).2.1 (T f).2.2.1 ∈ TW) (hfin : (T f).2.2.2 = false) {ty : FieldType} {v : Value} (hd : parseFieldDescriptor (T f).2.2.1 = some ty) (hn : narrow ty v = v) (hfit : fits ty v = true) (hl : f < fs.length) (hdg : decode cc pc = .ok (.putfield index, 3))
    (kk : ∀ (H1 : Heap) (locs1 : List Loc), GM g A H0 H1 locs1 (bs.set j (b.set k (a, .inr (ci, fs.set f v)))) → W p l e R s m args below meth c H1 locs1 cells slots Q (F0 m (pc + 3) ls rest)) : W p l e R s m args below meth c H locs cells slots Q (F0 m pc ls (v :: .ref a :: rest)) := by
  obtain ⟨i, hi, hs⟩ := blk_set hj hk
  exact va_put (D := g.1) (v := v) (ty := ty) X.1 X.2.1 X.2.2.2.2.1 hin ty0 hty hnm X.2.2.2.1 X.2.2.2.2.2.1.1 hG.1 hG.2.1 hG.2.2 i hi hc f hf (X.2.2.2.2.1 _ hlink) (fun _ h => h) hfin hd hn hfit hl hdg (fun H1 locs1 h1 h2 h3 => kk H1 locs1 ⟨by rw [← hs]; exact h1, by rw [← hs]; exact h2, h3⟩)
/-- reading an int out of a row -/
theorem r_iald {ρ : Type} {r : ρ} (X : FX g p s m args meth c cc nL own ret A) {H0 : Heap} (hG : GM g A H0 H locs bs) (j k : Nat) {b : va_W} (hj : bs[j]? = some b) {a n : Nat} {f : Nat → Int32} (hk : b[k]? = some (a, .inl (g.2.1 0, n, .inl f))) {i : Int32} {K : Int32 → Option ρ} (hf : ck (ib i n) (bn (f i.toNatClampNeg) K) = some r) (hdg : decode cc pc = .ok (.iaload, 1))
    (kk : ∀ x : Int32, K x = some r → W p l e R s m args below meth c H locs cells slots Q (F0 m (pc + 1) ls (.int x :: rest))) : W p l e R s m args below meth c H locs cells slots Q (F0 m pc ls (.int i :: .ref a :: rest)) := by
  obtain ⟨q, hi, -⟩ := blk_set hj hk
  obtain ⟨h1, h2⟩ := ck_inv hf
  exact va_iald (D := g.1) X.1 X.2.1 X.2.2.2.2.2.1.1 hG.1 q 0 hi rfl (ib_in h1) hdg (kk _ h2)
theorem r_bald {ρ : Type} {r : ρ} (X : FX g p s m args meth c cc nL own ret A) {H0 : Heap} (hG : GM g A H0 H locs bs) (j k : Nat) {b : va_W} (hj : bs[j]? = some b) {a n : Nat} {f : Nat → Int32} (hk : b[k]? = some (a, .inl (g.2.1 1, n, .inl f))) {i : Int32} {K : Int32 → Option ρ} (hf : ck (ib i n) (bn (f i.toNatClampNeg) K) = some r) (hdg : decode cc pc = .ok (.baload, 1))
    (kk : ∀ x : Int32, K x = some r → W p l e R s m args below meth c H locs cells slots Q (F0 m (pc + 1) ls (.int x :: rest))) : W p l e R s m args below meth c H locs cells slots Q (F0 m pc ls (.int i :: .ref a :: rest)) := by
  obtain ⟨q, hi, -⟩ := blk_set hj hk
  obtain ⟨h1, h2⟩ := ck_inv hf
  exact va_bald (D := g.1) X.1 X.2.1 X.2.2.2.2.2.1.1 hG.1 q 1 hi rfl (ib_in h1) hdg (kk _ h2)
/-- writing an int into a row: S is what the block is made of -/
theorem r_iast {S ρ : Type} {r : ρ} (X : FX g p s m args meth c cc nL own ret A) {H0 : Heap} (hG : GM g A H0 H locs bs) (j k : Nat) {b : va_W} (hj : bs[j]? = some b) {a n : Nat} {f : Nat → Int32} (hk : b[k]? = some (a, .inl (g.2.1 0, n, .inl f))) {i x : Int32} {K : S → Option ρ} {st1 : S} (hf : ck (ib i n) (bn st1 K) = some r) (w : S → List va_W) (hw : w st1 = bs.set j (b.set k (a, .inl (g.2.1 0, n, .inl (upd f i.toNatClampNeg x))))) (hdg : decode cc pc = .ok (.iastore, 1))
    (kk : ∀ (st : S) (H1 : Heap) (locs1 : List Loc), K st = some r → GM g A H0 H1 locs1 (w st) → W p l e R s m args below meth c H1 locs1 cells slots Q (F0 m (pc + 1) ls rest)) : W p l e R s m args below meth c H locs cells slots Q (F0 m pc ls (.int x :: .int i :: .ref a :: rest)) := by
  obtain ⟨q, hi, hs⟩ := blk_set hj hk
  obtain ⟨h1, h2⟩ := ck_inv hf
  exact va_iast (D := g.1) X.1 X.2.1 X.2.2.2.2.2.1.1 hG.1 hG.2.1 hG.2.2 q 0 hi rfl (ib_in h1) hdg (fun H1 locs1 g1 g2 g3 => kk st1 H1 locs1 h2 ⟨by rw [hw, ← hs]; exact g1, by rw [hw, ← hs]; exact g2, g3⟩)
theorem r_bast {S ρ : Type} {r : ρ} (X : FX g p s m args meth c cc nL own ret A) {H0 : Heap} (hG : GM g A H0 H locs bs) (j k : Nat) {b : va_W} (hj : bs[j]? = some b) {a n : Nat} {f : Nat → Int32} (hk : b[k]? = some (a, .inl (g.2.1 1, n, .inl f))) {i x : Int32} {K : S → Option ρ} {st1 : S} (hf : ck (ib i n) (bn st1 K) = some r) (w : S → List va_W) (hw : w st1 = bs.set j (b.set k (a, .inl (g.2.1 1, n, .inl (upd f i.toNatClampNeg (vp_nar .byte x)))))) (hdg : decode cc pc = .ok (.bastore, 1))
    (kk : ∀ (st : S) (H1 : Heap) (locs1 : List Loc), K st = some r → GM g A H0 H1 locs1 (w st) → W p l e R s m args below meth c H1 locs1 cells slots Q (F0 m (pc + 1) ls rest)) : W p l e R s m args below meth c H locs cells slots Q (F0 m pc ls (.int x :: .int i :: .ref a :: rest)) := by
  obtain ⟨q, hi, hs⟩ := blk_set hj hk
  obtain ⟨h1, h2⟩ := ck_inv hf
  exact va_bast (D := g.1) X.1 X.2.1 X.2.2.2.2.2.1.1 hG.1 hG.2.1 hG.2.2 q 1 hi rfl (ib_in h1) hdg (fun H1 locs1 g1 g2 g3 => kk st1 H1 locs1 h2 ⟨by rw [hw, ← hs]; exact g1, by rw [hw, ← hs]; exact g2, g3⟩)
-- calls
/-- what the tables say of a callee -/
def LKC (y : MethodName) (b : ByteArray) (nL : Nat) (ret : Option FieldType) (n : Nat) : Prop := Cond.code y b nL ret ∈ TW ∧ Cond.initialized y.cls ∈ TW ∧ y.cls ≠ "java/lang/invoke/MethodHandle" ∧ y.cls ≠ "java/lang/invoke/VarHandle" ∧ (parseMethodDescriptor y.desc).map (fun d => d.parameters.length) = some n
theorem WY_good {y : MethodName} {b : ByteArray} {nL : Nat} {ret : Option FieldType} {n : Nat} (h : LKC y b nL ret n) : GoodIn TW (WY y b nL ret) := by
  intro w hw
  rcases List.mem_cons.mp hw with rfl | hw
  · exact ⟨h.1, TW_good h.1⟩
  · exact ⟨hw, TW_good hw⟩
theorem PC_blind {g : GT} {sz : Nat} {av : List Value} {bs : List va_W} : FrameBlind (PC g sz av bs) := by
  intro a U f mk h
  obtain ⟨h1, h2, h3, h4, h5, h6⟩ := h
  exact ⟨h1, h2, h3, h4, va_K.moved (u := U) (U := U.calling f mk a) (Vm.Alike.refl U.vm) h5, ZS.same (s := U) (U := U.calling f mk a) rfl h6⟩
/-- the callee's blocks among the caller's -/
theorem call_free {H0 : Heap} {bc br : List va_W} (hA : ∀ q, H0.size ≤ q → A q) (hG : GM g A H0 H locs bs) (hp : bs.flatten.Perm (bc ++ br).flatten) : ∀ q, va_A bc.flatten H.size q → A q := by
  intro q h
  rcases h with ⟨k, x, h⟩ | h
  · have h1 := (D_iff.mp hG.2.1).2 (q, x) (hp.mem_iff.mpr (by rw [List.flatten_append]; exact List.mem_append_left _ (List.mem_of_getElem? h)))
    exact h1
  · exact hA q (Nat.le_trans hG.2.2.1 h)
theorem call_pre {bc br : List va_W} {av : List Value} (X : FX g p s m args meth c cc nL own ret A) (hG : GM g A s.heap H locs bs) (hp : bs.flatten.Perm (bc ++ br).flatten) : ∀ U : State, U.heap = H → s.WarmedH U.vm → PC g H.size av bc av.toArray U := by
  intro U hU hW
  have hF := call_free X.2.2.2.2.2.2.1 hG hp
  have hP := P_perm hp hG.1
  have hD := D_perm hp hG.2.1
  rw [List.flatten_append] at hP hD
  refine ⟨rfl, by rw [hU], ?_, ?_, ?_, ?_⟩
  · rw [hU]; exact P_iff.mpr fun q hq => P_iff.mp hP q (List.mem_append_left _ hq)
  · refine D_iff.mpr ⟨?_, fun _ _ => trivial⟩
    have := (D_iff.mp hD).1
    rw [List.map_append] at this
    exact (List.nodup_append.mp this).1
  · exact va_K.moved hW.alike X.2.2.2.2.2.1.1
  · rw [hU]; exact X.2.2.2.2.2.1.2.call hG.2.2.2.1 hF hW
theorem call_post {bc bc' br : List va_W} {H1 : Heap} {locs1 : List Loc} (X : FX g p s m args meth c cc nL own ret A) (hG : GM g A s.heap H locs bs) (hp : bs.flatten.Perm (bc ++ br).flatten) (hp' : (bc' ++ br).flatten.Perm bs'.flatten) (hk : ∀ q : Nat, q < H.size → ¬ va_A bc.flatten H.size q → H1[q]? = H[q]?) (hP1 : va_P g.1 vwCl bc'.flatten H1) (hD1 : va_D (va_A bc.flatten H.size) bc'.flatten) (hS : va_S A s.heap H1 locs1) : GM g A s.heap H1 locs1 bs' := by
  have hF := call_free X.2.2.2.2.2.2.1 hG hp
  have hP := P_perm hp hG.1
  have hD := D_perm hp hG.2.1
  rw [List.flatten_append] at hP hD
  have hC : (List.range bc.flatten.length).map (fun i => (bc.flatten ++ br.flatten)[i]?) = bc.flatten.map some := by
    apply List.ext_getElem?
    intro i
    simp only [List.getElem?_map]
    by_cases h : i < bc.flatten.length
    · rw [List.getElem?_range h, List.getElem?_eq_getElem h]
      simp [List.getElem?_append_left h, List.getElem?_eq_getElem h]
    · rw [List.getElem?_eq_none (by simpa using h), List.getElem?_eq_none (by simpa using h)]; rfl
  have hR : ((List.range br.flatten.length).map (bc.flatten.length + ·)).map (fun i => (bc.flatten ++ br.flatten)[i]?) = br.flatten.map some := by
    apply List.ext_getElem?
    intro i
    simp only [List.getElem?_map]
    by_cases h : i < br.flatten.length
    · rw [List.getElem?_range h, List.getElem?_eq_getElem h]
      simp [List.getElem?_append_right, List.getElem?_eq_getElem h]
    · rw [List.getElem?_eq_none (by simpa using h), List.getElem?_eq_none (by simpa using h)]; rfl
  have hPr : va_P g.1 vwCl br.flatten H := P_iff.mpr fun q hq => P_iff.mp hP q (List.mem_append_right _ hq)
  have hnd := (D_iff.mp hD).1
  rw [List.map_append] at hnd
  obtain ⟨-, hnr, hdis⟩ := List.nodup_append.mp hnd
  have hap : ∀ q ∈ br.flatten, q.1 < H.size ∧ ¬ va_A bc.flatten H.size q.1 := by
    intro q hq
    obtain ⟨k, hk2⟩ := List.getElem?_of_mem hq
    have hlt := (hPr k q hk2).lt
    refine ⟨hlt, fun h => ?_⟩
    rcases h with ⟨k3, x, h⟩ | h
    · exact hdis q.1 (List.mem_map.mpr ⟨(q.1, x), List.mem_of_getElem? h, rfl⟩) q.1 (List.mem_map.mpr ⟨q, hq, rfl⟩) rfl
    · omega
  refine GM.perm hp' ⟨?_, ?_, hS⟩
  · rw [List.flatten_append]
    refine va_P.app hP1 (P_iff.mpr fun q hq => ?_)
    exact (P_iff.mp hPr q hq).kept (hk q.1 (hap q hq).1 (hap q hq).2)
  · rw [List.flatten_append]
    refine D_iff.mpr ⟨?_, fun q hq => ?_⟩
    · rw [List.map_append]
      refine List.nodup_append.mpr ⟨(D_iff.mp hD1).1, hnr, fun a ha b hb hab => ?_⟩
      obtain ⟨q, hq, rfl⟩ := List.mem_map.mp ha
      obtain ⟨q2, hq2, rfl⟩ := List.mem_map.mp hb
      exact (hap q2 hq2).2 (hab ▸ (D_iff.mp hD1).2 q hq)
    · rcases List.mem_append.mp hq with h | h
      · exact hF _ ((D_iff.mp hD1).2 q h)
      · exact (D_iff.mp hD).2 q (List.mem_append_right _ h)
theorem callB_mk {y : MethodName} {b2 : ByteArray} {nL2 n idx : Nat} {ret2 : Option FieldType} {rm : Room} {mc ms : Nat} (X : FX g p s m args meth c cc nL own ret A) (hk : LKC y b2 nL2 ret2 n) (hl : Cond.methodLink own idx y ∈ TW) (hrc : rm.cells = mc) (hrs : rm.slots = ms) (hR : rm.frames + 1 ≤ R.frames ∧ 8 + (nL2 + 11) + rm.locals ≤ R.locals) : CallB R s args own idx y b2 nL2 ret2 (WY y b2 nL2 ret2) rm mc ms n :=
  callB_of n X.2.2.2.2.1 (WY_good hk) rfl hrc hrs (X.2.2.2.2.1 _ hk.2.1) (X.2.2.2.2.1 _ hl) hk.2.2 hR
/-- the receiver's cell -/
theorem call_recv {o ci : Nat} {fs : List Value} {q : vw_C} {j k : Nat} {b : va_W} (X : FX g p s m args meth c cc nL own ret A) (hG : GM g A s.heap H locs bs) (hj : bs[j]? = some b) (hk : b[k]? = some (o, .inr (ci, fs))) (hc : vwCl[ci]? = some q) : ∃ cell : Cell, H[o]? = some cell ∧ cell.vm.isStatics = false ∧ s.vm.findClass q.1 = some cell.cls := by
  obtain ⟨i, hi, -⟩ := blk_set hj hk
  exact va_recv X.2.2.2.2.2.1.1 hG.1 hc hi
/-- a call of an own method of an object (by its class, no nest mate): int, long, void -/
def LKV (y : MethodName) (C : String) : Prop := Cond.instanceMethod y ∈ TW ∧ Cond.selects C y y ∈ TW
theorem r_callVi {y : MethodName} {b2 : ByteArray} {nL2 n idx : Nat} {ret2 : Option FieldType} {rm : Room} {C : String} {T : u_T} {N o ci j k : Nat} {fs As : List Value} {b : va_W} {bc bc' br : List va_W} {rv : Int32} {st : List Value} (X : FX g p s m args meth c cc nL own ret A) (hG : GM g A s.heap H locs bs) (hsz : ls.size = nL) (hM : CI g l y b2 nL2 ret2 rm (.ref o :: As) bc rv bc') (hp : bs.flatten.Perm (bc ++ br).flatten) (hp' : (bc' ++ br).flatten.Perm bs'.flatten) (hk : LKC y b2 nL2 ret2 n) (hv : LKV y C) (hl : Cond.methodLink own idx y ∈ TW) (hj : bs[j]? = some b) (hkk : b[k]? = some (o, .inr (ci, fs))) (hc : vwCl[ci]? = some (C, T, N)) (hrc : rm.cells = 0) (hrs : rm.slots = 0) (hR : rm.frames + 1 ≤ R.frames ∧ 8 + (nL2 + 11) + rm.locals ≤ R.locals) (hn : As.length = n) (hst : st = As.reverse ++ .ref o :: rest) (hcat : (rest.map fun v => v.category).sum ≤ 8) (hcs : cells ≤ R.cells ∧ slots ≤ R.slots) (hdg : decode cc pc = .ok (.invokevirtual idx, 3))
    (kk : ∀ (H1 : Heap) (locs1 : List Loc), GM g A s.heap H1 locs1 bs' → W p l e R s m args below meth c H1 locs1 cells slots Q (F0 m (pc + 3) ls (.int rv :: rest))) : W p l e R s m args below meth c H locs cells slots Q (F0 m pc ls st) := by
  have hF := call_free X.2.2.2.2.2.2.1 hG hp
  refine va_calli (va_runV (C := C) (As := As) (rest := rest) ⟨X.1, X.2.1, X.2.2.1, X.2.2.2.1, X.2.2.2.2.1⟩ (hM H.size) ⟨callB_mk X hk hl hrc hrs hR, X.2.2.2.2.1 _ hv.1, X.2.2.2.2.1 _ hv.2⟩ ⟨PC_blind, call_recv X hG hj hkk hc, call_pre X hG hp⟩ rfl hn hsz hst (lv_room hcat) hdg hcs) hG.2.2 (fun q _ h => hF q h) hF (fun r u t H1 locs1 ht hvm hw hB hz hk1 hS => ?_)
  subst hw
  exact kk H1 locs1 (call_post X hG hp hp' hk1 (by rw [← ht]; exact hB.1) hB.2 hS)
theorem r_callVl {y : MethodName} {b2 : ByteArray} {nL2 n idx : Nat} {ret2 : Option FieldType} {rm : Room} {C : String} {T : u_T} {N o ci j k : Nat} {fs As : List Value} {b : va_W} {bc bc' br : List va_W} {rv : Int64} {st : List Value} (X : FX g p s m args meth c cc nL own ret A) (hG : GM g A s.heap H locs bs) (hsz : ls.size = nL) (hM : CL g l y b2 nL2 ret2 rm (.ref o :: As) bc rv bc') (hp : bs.flatten.Perm (bc ++ br).flatten) (hp' : (bc' ++ br).flatten.Perm bs'.flatten) (hk : LKC y b2 nL2 ret2 n) (hv : LKV y C) (hl : Cond.methodLink own idx y ∈ TW) (hj : bs[j]? = some b) (hkk : b[k]? = some (o, .inr (ci, fs))) (hc : vwCl[ci]? = some (C, T, N)) (hrc : rm.cells = 0) (hrs : rm.slots = 0) (hR : rm.frames + 1 ≤ R.frames ∧ 8 + (nL2 + 11) + rm.locals ≤ R.locals) (hn : As.length = n) (hst : st = As.reverse ++ .ref o :: rest) (hcat : (rest.map fun v => v.category).sum ≤ 8) (hcs : cells ≤ R.cells ∧ slots ≤ R.slots) (hdg : decode cc pc = .ok (.invokevirtual idx, 3))
    (kk : ∀ (H1 : Heap) (locs1 : List Loc), GM g A s.heap H1 locs1 bs' → W p l e R s m args below meth c H1 locs1 cells slots Q (F0 m (pc + 3) ls (.long rv :: rest))) : W p l e R s m args below meth c H locs cells slots Q (F0 m pc ls st) := by
  have hF := call_free X.2.2.2.2.2.2.1 hG hp
  refine va_calll (va_runV (C := C) (As := As) (rest := rest) ⟨X.1, X.2.1, X.2.2.1, X.2.2.2.1, X.2.2.2.2.1⟩ (hM H.size) ⟨callB_mk X hk hl hrc hrs hR, X.2.2.2.2.1 _ hv.1, X.2.2.2.2.1 _ hv.2⟩ ⟨PC_blind, call_recv X hG hj hkk hc, call_pre X hG hp⟩ rfl hn hsz hst (lv_room hcat) hdg hcs) hG.2.2 (fun q _ h => hF q h) hF (fun r u t H1 locs1 ht hvm hw hB hz hk1 hS => ?_)
  subst hw
  exact kk H1 locs1 (call_post X hG hp hp' hk1 (by rw [← ht]; exact hB.1) hB.2 hS)
theorem r_callVv {y : MethodName} {b2 : ByteArray} {nL2 n idx : Nat} {ret2 : Option FieldType} {rm : Room} {C : String} {T : u_T} {N o ci j k : Nat} {fs As : List Value} {b : va_W} {bc bc' br : List va_W} {st : List Value} (X : FX g p s m args meth c cc nL own ret A) (hG : GM g A s.heap H locs bs) (hsz : ls.size = nL) (hM : CV g l y b2 nL2 ret2 rm (.ref o :: As) bc bc') (hp : bs.flatten.Perm (bc ++ br).flatten) (hp' : (bc' ++ br).flatten.Perm bs'.flatten) (hk : LKC y b2 nL2 ret2 n) (hv : LKV y C) (hl : Cond.methodLink own idx y ∈ TW) (hj : bs[j]? = some b) (hkk : b[k]? = some (o, .inr (ci, fs))) (hc : vwCl[ci]? = some (C, T, N)) (hrc : rm.cells = 0) (hrs : rm.slots = 0) (hR : rm.frames + 1 ≤ R.frames ∧ 8 + (nL2 + 11) + rm.locals ≤ R.locals) (hn : As.length = n) (hst : st = As.reverse ++ .ref o :: rest) (hcat : (rest.map fun v => v.category).sum ≤ 8) (hcs : cells ≤ R.cells ∧ slots ≤ R.slots) (hdg : decode cc pc = .ok (.invokevirtual idx, 3))
    (kk : ∀ (H1 : Heap) (locs1 : List Loc), GM g A s.heap H1 locs1 bs' → W p l e R s m args below meth c H1 locs1 cells slots Q (F0 m (pc + 3) ls rest)) : W p l e R s m args below meth c H locs cells slots Q (F0 m pc ls st) := by
  have hF := call_free X.2.2.2.2.2.2.1 hG hp
  refine va_callv (va_runV (C := C) (As := As) (rest := rest) ⟨X.1, X.2.1, X.2.2.1, X.2.2.2.1, X.2.2.2.2.1⟩ (hM H.size) ⟨callB_mk X hk hl hrc hrs hR, X.2.2.2.2.1 _ hv.1, X.2.2.2.2.1 _ hv.2⟩ ⟨PC_blind, call_recv X hG hj hkk hc, call_pre X hG hp⟩ rfl hn hsz hst (lv_room hcat) hdg hcs) hG.2.2 (fun q _ h => hF q h) hF (fun u t H1 locs1 ht hvm hw hB hz hk1 hS => ?_)
  exact kk H1 locs1 (call_post X hG hp hp' hk1 (by rw [← ht]; exact hB.1) hB.2 hS)
/-- a call of a static method, of the own class or (N) of a nest mate: int -/
theorem r_callSi {y : MethodName} {b2 : ByteArray} {nL2 n idx : Nat} {ret2 : Option FieldType} {rm : Room} {As : List Value} {bc bc' br : List va_W} {rv : Int32} {st : List Value} (X : FX g p s m args meth c cc nL own ret A) (hG : GM g A s.heap H locs bs) (hsz : ls.size = nL) (hM : CI g l y b2 nL2 ret2 rm As bc rv bc') (hp : bs.flatten.Perm (bc ++ br).flatten) (hp' : (bc' ++ br).flatten.Perm bs'.flatten) (hk : LKC y b2 nL2 ret2 n) (hv : Cond.static y ∈ TW) (hl : Cond.methodLink own idx y ∈ TW) (hrc : rm.cells = 0) (hrs : rm.slots = 0) (hR : rm.frames + 1 ≤ R.frames ∧ 8 + (nL2 + 11) + rm.locals ≤ R.locals) (hn : As.length = n) (hst : st = As.reverse ++ rest) (hcat : (rest.map fun v => v.category).sum ≤ 8) (hcs : cells ≤ R.cells ∧ slots ≤ R.slots) (hdg : decode cc pc = .ok (.invokestatic idx, 3))
    (kk : ∀ (H1 : Heap) (locs1 : List Loc), GM g A s.heap H1 locs1 bs' → W p l e R s m args below meth c H1 locs1 cells slots Q (F0 m (pc + 3) ls (.int rv :: rest))) : W p l e R s m args below meth c H locs cells slots Q (F0 m pc ls st) := by
  have hF := call_free X.2.2.2.2.2.2.1 hG hp
  refine va_calli (va_runS (As := As) (rest := rest) ⟨X.1, X.2.1, X.2.2.1, X.2.2.2.1, X.2.2.2.2.1⟩ (hM H.size) ⟨callB_mk X hk hl hrc hrs hR, X.2.2.2.2.1 _ hv⟩ ⟨PC_blind, call_pre X hG hp⟩ rfl hn hsz hst (lv_room hcat) hdg hcs) hG.2.2 (fun q _ h => hF q h) hF (fun r u t H1 locs1 ht hvm hw hB hz hk1 hS => ?_)
  subst hw
  exact kk H1 locs1 (call_post X hG hp hp' hk1 (by rw [← ht]; exact hB.1) hB.2 hS)
theorem r_callSv {y : MethodName} {b2 : ByteArray} {nL2 n idx : Nat} {ret2 : Option FieldType} {rm : Room} {As : List Value} {bc bc' br : List va_W} {st : List Value} (X : FX g p s m args meth c cc nL own ret A) (hG : GM g A s.heap H locs bs) (hsz : ls.size = nL) (hM : CV g l y b2 nL2 ret2 rm As bc bc') (hp : bs.flatten.Perm (bc ++ br).flatten) (hp' : (bc' ++ br).flatten.Perm bs'.flatten) (hk : LKC y b2 nL2 ret2 n) (hv : Cond.static y ∈ TW) (hl : Cond.methodLink own idx y ∈ TW) (hrc : rm.cells = 0) (hrs : rm.slots = 0) (hR : rm.frames + 1 ≤ R.frames ∧ 8 + (nL2 + 11) + rm.locals ≤ R.locals) (hn : As.length = n) (hst : st = As.reverse ++ rest) (hcat : (rest.map fun v => v.category).sum ≤ 8) (hcs : cells ≤ R.cells ∧ slots ≤ R.slots) (hdg : decode cc pc = .ok (.invokestatic idx, 3))
    (kk : ∀ (H1 : Heap) (locs1 : List Loc), GM g A s.heap H1 locs1 bs' → W p l e R s m args below meth c H1 locs1 cells slots Q (F0 m (pc + 3) ls rest)) : W p l e R s m args below meth c H locs cells slots Q (F0 m pc ls st) := by
  have hF := call_free X.2.2.2.2.2.2.1 hG hp
  refine va_callv (va_runS (As := As) (rest := rest) ⟨X.1, X.2.1, X.2.2.1, X.2.2.2.1, X.2.2.2.2.1⟩ (hM H.size) ⟨callB_mk X hk hl hrc hrs hR, X.2.2.2.2.1 _ hv⟩ ⟨PC_blind, call_pre X hG hp⟩ rfl hn hsz hst (lv_room hcat) hdg hcs) hG.2.2 (fun q _ h => hF q h) hF (fun u t H1 locs1 ht hvm hw hB hz hk1 hS => ?_)
  exact kk H1 locs1 (call_post X hG hp hp' hk1 (by rw [← ht]; exact hB.1) hB.2 hS)
theorem r_callNi {y : MethodName} {b2 : ByteArray} {nL2 n idx : Nat} {ret2 : Option FieldType} {rm : Room} {As : List Value} {bc bc' br : List va_W} {rv : Int32} {st : List Value} {host : String} (X : FX g p s m args meth c cc nL own ret A) (hG : GM g A s.heap H locs bs) (hsz : ls.size = nL) (hM : CI g l y b2 nL2 ret2 rm As bc rv bc') (hp : bs.flatten.Perm (bc ++ br).flatten) (hp' : (bc' ++ br).flatten.Perm bs'.flatten) (hk : LKC y b2 nL2 ret2 n) (hv : Cond.static y ∈ TW) (hl : Cond.methodLinkNest own idx y host ∈ NW) (hrc : rm.cells = 0) (hrs : rm.slots = 0) (hR : rm.frames + 1 ≤ R.frames ∧ 8 + (nL2 + 11) + rm.locals ≤ R.locals) (hn : As.length = n) (hst : st = As.reverse ++ rest) (hcat : (rest.map fun v => v.category).sum ≤ 8) (hcs : cells ≤ R.cells ∧ slots ≤ R.slots) (hdg : decode cc pc = .ok (.invokestatic idx, 3))
    (kk : ∀ (H1 : Heap) (locs1 : List Loc), GM g A s.heap H1 locs1 bs' → W p l e R s m args below meth c H1 locs1 cells slots Q (F0 m (pc + 3) ls (.int rv :: rest))) : W p l e R s m args below meth c H locs cells slots Q (F0 m pc ls st) := by
  have hF := call_free X.2.2.2.2.2.2.1 hG hp
  refine va_calli (va_runSN (As := As) (rest := rest) ⟨X.1, X.2.1, X.2.2.1, X.2.2.2.1, X.2.2.2.2.1⟩ (hM H.size) ⟨va_cnB n X.2.2.2.2.1 (WY_good hk) rfl hrc hrs (X.2.2.2.2.2.1.2.1 _ hl) (X.2.2.2.2.1 _ hk.2.1) hk.2.2 hR, X.2.2.2.2.1 _ hv, trivial⟩ ⟨PC_blind, call_pre X hG hp⟩ rfl hn hsz hst (lv_room hcat) hdg hcs) hG.2.2 (fun q _ h => hF q h) hF (fun r u t H1 locs1 ht hvm hw hB hz hk1 hS => ?_)
  subst hw
  exact kk H1 locs1 (call_post X hG hp hp' hk1 (by rw [← ht]; exact hB.1) hB.2 hS)
end RW
