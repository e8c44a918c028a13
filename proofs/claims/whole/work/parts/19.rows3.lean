-- ROWS of what is made: new objects and rows, fields of raw objects, constructors
def va_AOA (t : FieldType) (U : State) : Prop := (Cond.arrayOver (.array t)).before #[] U = true
theorem va_AOA.use {t : FieldType} {A : Array Value} {U : State} (h : va_AOA t U) : (Cond.arrayOver (.array t)).before A U = true := h
/-- f, but v at every address of l -/
def vr_up {α : Type} (f : Nat → α) (l : List Nat) (v : α) : Nat → α := fun a => if a ∈ l then v else f a
theorem vr_up_in {α : Type} {f : Nat → α} {l : List Nat} {v : α} {a : Nat} (h : a ∈ l) : vr_up f l v a = v := if_pos h
theorem vr_up_ne {α : Type} {f : Nat → α} {l : List Nat} {v : α} {a : Nat} (h : a ∉ l) : vr_up f l v a = f a := if_neg h
theorem vr_rows {L l : List Nat} {f : Nat → va_E} {e : va_E} (h : ∀ a, a ∈ l → a ∉ L) : va_pl L f ++ l.map (fun a => (a, e)) = va_pl (L ++ l) (vr_up f l e) := by
  unfold va_pl
  rw [List.map_append]
  congr 1
  · apply List.map_congr_left
    intro a ha
    rw [vr_up_ne (fun q => h a q ha)]
  · apply List.map_congr_left
    intro a ha
    rw [vr_up_in ha]
theorem vr_lay {X rows : va_W} {x : Nat × va_E} {pl : va_W} {D : va_G} {cl : List vw_C} {H : Heap} (hP : va_P D cl (((X ++ pl) ++ [x]) ++ rows) H) : va_P D cl ((X ++ [x]) ++ (pl ++ rows)) H := by
  rw [List.append_assoc (X ++ pl)] at hP
  have h := va_P.swap hP
  rw [← List.append_assoc X] at h
  have h2 := va_P.swap h
  rw [List.append_assoc (X ++ [x])] at h2
  exact h2
theorem vr_layD {X rows : va_W} {x : Nat × va_E} {pl : va_W} {A : Nat → Prop} (hD : va_D A (((X ++ pl) ++ [x]) ++ rows)) : va_D A ((X ++ [x]) ++ (pl ++ rows)) := by
  rw [List.append_assoc (X ++ pl)] at hD
  have h := va_D.swap hD
  rw [← List.append_assoc X] at h
  have h2 := va_D.swap h
  rw [List.append_assoc (X ++ [x])] at h2
  exact h2
theorem vr_outer (c : ClassId) (N h0 : Nat) : ∀ i : Nat, Jvm.Free.Multi.outerC c N h0 i = arrV c N (fun j => va_rf (if j < i then some (h0 + 1 + j) else none))
  | 0 => by
    show ({ cls := c, slots := Array.replicate N .null, vm := .none } : Cell) = _
    rw [arrV_new]
    refine congrArg (arrV c N) (funext fun j => ?_)
    simp [va_rf]
  | i + 1 => by
    show (Jvm.Free.Multi.outerC c N h0 i).setSlot i (.ref (h0 + 1 + i)) = _
    rw [vr_outer c N h0 i, arrV_store]
    refine congrArg (arrV c N) (funext fun j => ?_)
    by_cases e : j = i
    · subst e
      simp [updV, va_rf]
    · by_cases h : j < i
      · simp [updV, e, h, Nat.lt_succ_of_lt h]
      · simp [updV, e, h, show ¬ j < i + 1 by omega]
section VGM
variable {p : Program} {l : Launch} {e : Env} {R : Room} {s : State} {m : MethodId} {args : Array Value} {below : List Frame} {meth : Method} {c : Code} {H : Heap} {locs : List Loc} {cells slots : Nat} {Q : State → Prop}
variable {cc : ByteArray} {pc : Nat} {ls : Array Slot} {rest : List Value} {D : va_G} {cl : List vw_C} {A : Nat → Prop} {a : Nat} {tys : List (ClassId × FieldType)} {ws : va_W} {H0 : Heap}
theorem va_mna {X : va_W} {L : List Nat} {f : Nat → va_E} {cc : ByteArray} (hexec : p.tables.exec = Jvm.exec) (hb : c.code = cc) {own : String} {index : Nat} {ty : FieldType} {cy : ClassId} (hown : s.vm.findClass own = some m.cls) (hclink : (Cond.classLink own index ("[" ++ (FieldType.array ty).toString)).before args s = true) (hover : va_AOA ty s) (harr : (Cond.arrayClass ty).before args s = true) (hcy : s.vm.findClass (FieldType.array ty).toString = some cy)
    (hK : va_K D cl tys s) (hP : va_P D cl (X ++ va_pl L f) H) (hD : va_D A (X ++ va_pl L f)) (hS : va_S A H0 H locs) (hA : ∀ q, H0.size ≤ q → A q) {n k : Int32} {N' K' : Nat} {z : vp_A} (hn : ¬ n < 0) (hk : ¬ k < 0) (hN : n.toNatClampNeg = N') (hM : k.toNatClampNeg = K')
    (hb1 : N' * 4 ≤ 536870912) (hb2 : K' * componentBytes ty ≤ 536870912) (hb3 : K' ≤ 536870912) (hdf : fits ty (defaultValue ty) = true) (hdd : (defaultValue ty).isDefault = true) (hcells : cells + (1 + N') ≤ R.cells) (hslots : slots + (N' + N' * K') ≤ R.slots) (hz : ∀ c : ClassId, Jvm.Free.Multi.innerC c K' (defaultValue ty) = vp_cell c z) (hdg : decode cc pc = .ok (.multianewarray index 2, 4))
    (kk : ∀ (q : Nat) (r : Nat → Nat) (cA : ClassId) (H1 : Heap), (∀ i j : Nat, i < N' → j < N' → r i = r j → i = j) → (∀ i : Nat, i < N' → r i ∉ L) → va_K D cl (tys ++ [(cA, .array ty)]) s →
      va_P D cl ((X ++ [(q, .inl (cA, N', .inr (.inr (.inr (.inr (fun i => if i < N' then some (r i) else none))))))]) ++ va_pl (L ++ (List.range N').map r) (vr_up f ((List.range N').map r) (.inl (cy, z)))) H1 → va_D A ((X ++ [(q, .inl (cA, N', .inr (.inr (.inr (.inr (fun i => if i < N' then some (r i) else none))))))]) ++ va_pl (L ++ (List.range N').map r) (vr_up f ((List.range N').map r) (.inl (cy, z)))) → va_S A H0 H1 locs →
      W p l e R s m args below meth c H1 locs (cells + 1 + N') (slots + N' + N' * K') Q (F0 m (pc + 4) ls (.ref q :: rest))) : W p l e R s m args below meth c H locs cells slots Q (F0 m pc ls (.int k :: .int n :: rest)) := by
  subst hN
  subst hM
  intro T hT Xs
  obtain ⟨vm₁, cA, comp, -, fA, fC, hO, -, X', step⟩ := Xs.multianewarray2F hexec hown hclink (va_AOA.use hover) harr (g := F0 m pc ls (.int k :: .int n :: rest)) rfl (by rw [hb]; exact hdg) rfl hn hk hb1 hb2 hb3 hdf hdd hcells hslots
  have ec : some cy = some comp := hcy.symm.trans fC
  cases ec
  generalize hF : Jvm.Free.Multi.fill (T.setVm vm₁) cA cy n.toNatClampNeg k.toNatClampNeg (defaultValue ty) n.toNatClampNeg = F at X' step
  have hTh : (T.setVm vm₁).heap = H := hT
  obtain ⟨f1, f2, -, -⟩ := Jvm.Free.Multi.fill_facts (T.setVm vm₁) cA cy n.toNatClampNeg k.toNatClampNeg (defaultValue ty) n.toNatClampNeg
  rw [hF, hTh] at f1 f2
  have hold : ∀ x : Nat, x < H.size → F.heap[x]? = H[x]? := fun x hx => by
    have := Jvm.Free.Multi.fill_old (T.setVm vm₁) cA cy n.toNatClampNeg k.toNatClampNeg (defaultValue ty) (a := x) (by rw [hTh]; exact hx) n.toNatClampNeg
    rw [hF, hTh] at this
    exact this
  have hrow : ∀ j : Nat, j < n.toNatClampNeg → F.heap[H.size + 1 + j]? = some (vp_cell cy z) := fun j hj => by
    have := Jvm.Free.Multi.fill_inner (T.setVm vm₁) cA cy n.toNatClampNeg k.toNatClampNeg (defaultValue ty) n.toNatClampNeg j hj
    rw [hF, hTh, hz] at this
    exact this
  have hout : Jvm.Free.Multi.outerC cA n.toNatClampNeg H.size n.toNatClampNeg = vp_cell cA (n.toNatClampNeg, .inr (.inr (.inr (.inr (fun i => if i < n.toNatClampNeg then some (H.size + 1 + i) else none))))) := by
    rw [vp_cell_q]
    exact vr_outer cA n.toNatClampNeg H.size n.toNatClampNeg
  rw [hout] at f2
  have hlt : ∀ a, a ∈ L → a < H.size := fun a ha => by
    obtain ⟨k9, hk9⟩ := va_pl_get (X := X) (f := f) ha
    exact (hP k9 _ hk9).lt
  have hnl : ∀ i : Nat, i < n.toNatClampNeg → H.size + 1 + i ∉ L := fun i _ h => by
    have := hlt _ h
    omega
  have hnm : ∀ a, a ∈ (List.range n.toNatClampNeg).map (fun i => H.size + 1 + i) → a ∉ L := fun a ha h => by
    obtain ⟨i, -, rfl⟩ := List.mem_map.mp ha
    have := hlt _ h
    omega
  have hP0 : va_P D cl (X ++ va_pl L f) F.heap := hP.kept (fun k9 x hx => hold x.1 ((hP k9 x hx).lt))
  have hP1 : va_P D cl ((X ++ va_pl L f) ++ [(H.size, .inl (cA, n.toNatClampNeg, .inr (.inr (.inr (.inr (fun i => if i < n.toNatClampNeg then some (H.size + 1 + i) else none))))))]) F.heap := hP0.app (fun k9 x hx => by
    have h0 : k9 < 1 := (List.getElem?_eq_some_iff.mp hx).1
    rw [show k9 = 0 by omega] at hx
    cases hx
    exact f2)
  have hP2 : va_P D cl (((X ++ va_pl L f) ++ [(H.size, .inl (cA, n.toNatClampNeg, .inr (.inr (.inr (.inr (fun i => if i < n.toNatClampNeg then some (H.size + 1 + i) else none))))))]) ++ ((List.range n.toNatClampNeg).map (fun i => H.size + 1 + i)).map (fun a => (a, .inl (cy, z)))) F.heap := hP1.app (fun k9 x hx => by
    obtain ⟨a, ha, rfl⟩ := List.mem_map.mp (List.mem_of_getElem? hx)
    obtain ⟨i, hi, rfl⟩ := List.mem_map.mp ha
    exact hrow i (List.mem_range.mp hi))
  have hD2 : va_D A (((X ++ va_pl L f) ++ [(H.size, .inl (cA, n.toNatClampNeg, .inr (.inr (.inr (.inr (fun i => if i < n.toNatClampNeg then some (H.size + 1 + i) else none))))))]) ++ ((List.range n.toNatClampNeg).map (fun i => H.size + 1 + i)).map (fun a => (a, .inl (cy, z)))) := by
    have hD1 := hD.push (e := .inl (cA, n.toNatClampNeg, .inr (.inr (.inr (.inr (fun i => if i < n.toNatClampNeg then some (H.size + 1 + i) else none)))))) hP rfl (hA _ hS.1)
    generalize hW1 : (X ++ va_pl L f) ++ [(H.size, .inl (cA, n.toNatClampNeg, .inr (.inr (.inr (.inr (fun i => if i < n.toNatClampNeg then some (H.size + 1 + i) else none))))))] = W1 at hD1 hP1 ⊢
    have hle : ∀ (k9 : Nat) (x : Nat × va_E), W1[k9]? = some x → x.1 ≤ H.size := fun k9 x hx => by
      rw [← hW1] at hx
      by_cases hl : k9 < (X ++ va_pl L f).length
      · rw [List.getElem?_append_left hl] at hx
        exact Nat.le_of_lt ((hP k9 x hx).lt)
      · rw [List.getElem?_append_right (by omega)] at hx
        have h0 : k9 - (X ++ va_pl L f).length < 1 := (List.getElem?_eq_some_iff.mp hx).1
        rw [show k9 - (X ++ va_pl L f).length = 0 by omega] at hx
        cases hx
        exact Nat.le_refl _
    have hr : ∀ (k9 : Nat) (x : Nat × va_E), (((List.range n.toNatClampNeg).map (fun i => H.size + 1 + i)).map (fun a => ((a, .inl (cy, z)) : Nat × va_E)))[k9]? = some x → x.1 = H.size + 1 + k9 := fun k9 x hx => by
      rw [List.getElem?_map, List.getElem?_map] at hx
      by_cases h9 : k9 < n.toNatClampNeg
      · rw [List.getElem?_range h9] at hx
        cases hx
        rfl
      · have hn0 : (List.range n.toNatClampNeg)[k9]? = none := List.getElem?_eq_none (by rw [List.length_range]; omega)
        rw [hn0] at hx
        cases hx
    refine ⟨fun i j x y hi hj hxy => ?_, fun k9 x hx => ?_⟩
    · by_cases h1 : i < W1.length <;> by_cases h2 : j < W1.length
      · rw [List.getElem?_append_left h1] at hi
        rw [List.getElem?_append_left h2] at hj
        exact hD1.1 i j x y hi hj hxy
      · rw [List.getElem?_append_left h1] at hi
        rw [List.getElem?_append_right (by omega)] at hj
        have := hle _ _ hi
        have := hr _ _ hj
        omega
      · rw [List.getElem?_append_right (by omega)] at hi
        rw [List.getElem?_append_left h2] at hj
        have := hle _ _ hj
        have := hr _ _ hi
        omega
      · rw [List.getElem?_append_right (by omega)] at hi hj
        have := hr _ _ hi
        have := hr _ _ hj
        omega
    · by_cases h1 : k9 < W1.length
      · rw [List.getElem?_append_left h1] at hx
        exact hD1.2 k9 x hx
      · rw [List.getElem?_append_right (by omega)] at hx
        have := hr _ _ hx
        exact hA _ (by have := hS.1; omega)
  have hAr : ArrOfT s cA (.array ty) := fun N9 z9 => by
    obtain ⟨-, k9, hk9, cm9, hkk9⟩ := (hO 0 0 0).1
    exact ⟨(fun q hq => by cases hq), k9, hk9, cm9, hkk9⟩
  have hK2 : va_K D cl (tys ++ [(cA, .array ty)]) s := ⟨hK.1, fun k9 x hx => by
    by_cases hl : k9 < tys.length
    · rw [List.getElem?_append_left hl] at hx
      exact hK.2 k9 x hx
    · rw [List.getElem?_append_right (by omega)] at hx
      have h0 : k9 - tys.length < 1 := (List.getElem?_eq_some_iff.mp hx).1
      rw [show k9 - tys.length = 0 by omega] at hx
      cases hx
      exact ⟨hAr, fA⟩⟩
  obtain ⟨t, a1, b1⟩ := kk H.size (fun i => H.size + 1 + i) cA F.heap (fun i j _ _ h => by have h9 : H.size + 1 + i = H.size + 1 + j := h; omega) hnl hK2 (by rw [← vr_rows hnm]; exact vr_lay hP2) (by rw [← vr_rows hnm]; exact vr_layD hD2) ⟨by rw [f1]; have := hS.1; omega, fun x h1 h2 => (hold x (Nat.lt_of_lt_of_le h1 hS.1)).trans (hS.2.1 x h1 h2), hS.2.2⟩ F rfl X'
  refine ⟨t, step t ?_, b1⟩
  have e : T.heap.size = H.size := by rw [hT]
  rw [e]
  exact a1
end VGM

/-- raw objects: scalars by v, references by r -/
def oX0 (g : GT) (o : Nat) (v : Nat → Int32) (r : Nat → Option Nat) : va_W := [(o, .inr (0, [.int (v 0), va_rf (r 1), va_rf (r 2), va_rf (r 3)]))]
def oX1 (g : GT) (o : Nat) (v : Nat → Int32) (r : Nat → Option Nat) : va_W := [(o, .inr (1, [va_rf (r 0), va_rf (r 1), va_rf (r 2), va_rf (r 3), va_rf (r 4), va_rf (r 5), va_rf (r 6), va_rf (r 7), va_rf (r 8), .int (v 9), va_rf (r 10), .int (v 11), .int (v 12)]))]
def oX2 (g : GT) (o : Nat) (v : Nat → Int32) (r : Nat → Option Nat) : va_W := [(o, .inr (2, [.int (v 0), va_rf (r 1), va_rf (r 2), va_rf (r 3), va_rf (r 4), va_rf (r 5), .int (v 6), .int (v 7), .int (v 8), .int (v 9)]))]
def oX3 (g : GT) (o : Nat) (v : Nat → Int32) (r : Nat → Option Nat) : va_W := [(o, .inr (3, [.int (v 0), .int (v 1), va_rf (r 2)]))]
def oX4 (g : GT) (o : Nat) (v : Nat → Int32) (r : Nat → Option Nat) : va_W := [(o, .inr (4, [va_rf (r 0), .int (v 1), .int (v 2), .int (v 3), .int (v 4), .int (v 5)]))]
def oX5 (g : GT) (o : Nat) (v : Nat → Int32) (r : Nat → Option Nat) : va_W := [(o, .inr (5, [va_rf (r 0), va_rf (r 1), va_rf (r 2), .int (v 3)]))]
def oX6 (g : GT) (o : Nat) (v : Nat → Int32) (r : Nat → Option Nat) : va_W := [(o, .inr (6, [.int (v 0), .int (v 1), .int (v 2)]))]
def oX7 (g : GT) (o : Nat) (v : Nat → Int32) (r : Nat → Option Nat) : va_W := [(o, .inr (7, [va_rf (r 0), va_rf (r 1), .int (v 2), va_rf (r 3), va_rf (r 4), .int (v 5), va_rf (r 6), va_rf (r 7), va_rf (r 8), .int (v 9), va_rf (r 10), va_rf (r 11)]))]
def oX8 (g : GT) (o : Nat) (v : Nat → Int32) (r : Nat → Option Nat) : va_W := [(o, .inr (8, [.int (v 0), .int (v 1), va_rf (r 2), va_rf (r 3), va_rf (r 4), va_rf (r 5), .int (v 6), va_rf (r 7), va_rf (r 8), va_rf (r 9), .int (v 10), va_rf (r 11), va_rf (r 12), va_rf (r 13), va_rf (r 14), .int (v 15), .int (v 16), .int (v 17), .int (v 18), va_rf (r 19), .int (v 20), .int (v 21), .int (v 22), va_rf (r 23), va_rf (r 24), va_rf (r 25), .int (v 26), .int (v 27), .int (v 28), .int (v 29), .int (v 30), .int (v 31), .int (v 32), va_rf (r 33), va_rf (r 34), va_rf (r 35), va_rf (r 36), va_rf (r 37), va_rf (r 38), va_rf (r 39), va_rf (r 40), va_rf (r 41), va_rf (r 42), .int (v 43), .int (v 44), .int (v 45), .int (v 46), .int (v 47), .int (v 48), .int (v 49), .int (v 50), .int (v 51), va_rf (r 52), va_rf (r 53), va_rf (r 54), va_rf (r 55), va_rf (r 56), va_rf (r 57), va_rf (r 58), va_rf (r 59), va_rf (r 60)]))]

def aI (g : GT) (q N : Nat) (f : Nat → Int32) : va_W := [(q, .inl (g.2.1 0, N, .inl f))]
def aB (g : GT) (q N : Nat) (f : Nat → Int32) : va_W := [(q, .inl (g.2.1 1, N, .inl f))]
def aQ (g : GT) (t q N : Nat) (f : Nat → Option Nat) : va_W := [(q, .inl (g.2.1 t, N, .inr (.inr (.inr (.inr f)))))]
def a2 (g : GT) (q : Nat) (r : Nat → Nat) (N : Nat) : va_W := [(q, .inl (g.2.1 2, 6, .inr (.inr (.inr (.inr (fun i => some (r i))))))), (r 0, .inl (g.2.1 0, N, .inl (fun _ => 0))), (r 1, .inl (g.2.1 0, N, .inl (fun _ => 0))), (r 2, .inl (g.2.1 0, N, .inl (fun _ => 0))), (r 3, .inl (g.2.1 0, N, .inl (fun _ => 0))), (r 4, .inl (g.2.1 0, N, .inl (fun _ => 0))), (r 5, .inl (g.2.1 0, N, .inl (fun _ => 0)))]
/-- a written list, as far as place k -/
def lf (L : List Int32) (k : Nat) : Nat → Int32 := fun j => if j < k then L.getD j 0 else 0
theorem lf_step (L : List Int32) (k : Nat) (x : Int32) (h : L.getD k 0 = x) : upd (lf L k) k x = lf L (k + 1) := by
  funext j
  by_cases e : j = k
  · subst e; simp only [upd, lf, if_true]; rw [if_pos (by omega)]; exact h.symm
  · simp only [upd, lf, e, if_false]
    by_cases h2 : j < k
    · rw [if_pos h2, if_pos (by omega)]
    · rw [if_neg h2, if_neg (by omega)]
theorem lf_0 (L : List Int32) : lf L 0 = fun _ => 0 := by funext j; simp [lf]
theorem at_congr_q {D : va_G} {cl : List vw_C} {q n : Nat} {cA : ClassId} {f f2 : Nat → Option Nat} {H : Heap} (h : va_at D cl (q, .inl (cA, n, .inr (.inr (.inr (.inr f))))) H) (he : ∀ i, i < n → f i = f2 i) : va_at D cl (q, .inl (cA, n, .inr (.inr (.inr (.inr f2))))) H := by
  have h1 : H[q]? = some (arrV cA n (fun j => va_rf (f j))) := h
  show H[q]? = some (arrV cA n (fun j => va_rf (f2 j)))
  rw [h1]
  unfold arrV
  congr 3
  funext j
  show va_rf (f j.val) = va_rf (f2 j.val)
  rw [he j.val j.isLt]
theorem cA_uniq {U : State} {c1 c2 : ClassId} {ty : FieldType} (h1 : va_RA U c1 ty) (h2 : va_RA U c2 ty) : c1 = c2 := by
  cases ty with
  | object C =>
    obtain ⟨_, _, _, _, _, e1⟩ := h1
    obtain ⟨_, _, _, _, _, e2⟩ := h2
    exact Option.some.inj (e1.symm.trans e2)
  | _ => exact Option.some.inj (Eq.trans (Eq.symm h1) h2)
section RW7
variable {p : Program} {l : Launch} {e : Env} {R : Room} {s : State} {m : MethodId} {args : Array Value} {below : List Frame} {meth : Method} {c : Code} {H : Heap} {locs : List Loc} {cells slots : Nat} {Q : State → Prop}
variable {g : GT} {cc : ByteArray} {nL pc : Nat} {own : String} {ret : Option FieldType} {A : Nat → Prop} {ls : Array Slot} {rest : List Value} {bs bs' : List va_W}
theorem GM_snoc {H0 : Heap} {x : va_W} (h1 : va_P g.1 vwCl (bs.flatten ++ x) H) (h2 : va_D A (bs.flatten ++ x)) (h3 : va_S A H0 H locs) : GM g A H0 H locs (bs ++ [x]) := by
  refine ⟨?_, ?_, h3⟩
  · rw [List.flatten_append]; simpa using h1
  · rw [List.flatten_append]; simpa using h2
theorem r_new {C : String} {T : u_T} {N ci index : Nat} (X : FX g p s m args meth c cc nL own ret A) (hG : GM g A s.heap H locs bs) (hin : ∀ w ∈ u_ws C T N, w ∈ TW) (ty : Nat → FieldType) (hty : ∀ k, k < N → parseFieldDescriptor (T k).2.2.1 = some (ty k)) (hcl : Cond.classLink own index C ∈ TW) (hinst : Cond.instantiable C N ∈ TW) (hini : Cond.initialized C ∈ TW) (hc : vwCl[ci]? = some (C, T, N)) {fs : List Value} (hfs : ∀ j, j < N → defaultValue (ty j) = vp_V fs j) (hcells : cells + 1 ≤ R.cells) (hslots : slots + N ≤ R.slots) (hdg : decode cc pc = .ok (.new index, 3))
    (kk : ∀ (q : Nat) (H1 : Heap), GM g A s.heap H1 locs (bs ++ [[(q, .inr (ci, fs))]]) → W p l e R s m args below meth c H1 locs (cells + 1) (slots + N) Q (F0 m (pc + 3) ls (.ref q :: rest))) : W p l e R s m args below meth c H locs cells slots Q (F0 m pc ls rest) :=
  va_new X.1 X.2.1 X.2.2.2.2.1 hin ty hty X.2.2.2.1 (X.2.2.2.2.1 _ hcl) (X.2.2.2.2.1 _ hinst) (X.2.2.2.2.1 _ hini) X.2.2.2.2.2.1.1 hG.1 hG.2.1 hG.2.2 X.2.2.2.2.2.2.1 hc hfs hcells hslots hdg (fun q H1 h1 h2 h3 => kk q H1 (GM_snoc h1 h2 h3))
theorem r_newI {n : Int32} {N' : Nat} (X : FX g p s m args meth c cc nL own ret A) (hG : GM g A s.heap H locs bs) (hn : ¬ n < 0) (hN : n.toNatClampNeg = N') (hbytes : N' * 4 ≤ 536870912) (hcells : cells + 1 ≤ R.cells) (hslots : slots + N' ≤ R.slots) (hdg : decode cc pc = .ok (.newarray .int, 2))
    (kk : ∀ (q : Nat) (H1 : Heap), GM g A s.heap H1 locs (bs ++ [aI g q N' (fun _ => 0)]) → W p l e R s m args below meth c H1 locs (cells + 1) (slots + N') Q (F0 m (pc + 2) ls (.ref q :: rest))) : W p l e R s m args below meth c H locs cells slots Q (F0 m pc ls (.int n :: rest)) := by
  refine va_newa (atype := .int) (ty := .int) (a0 := (N', .inl (fun _ => 0))) X.1 X.2.1 (X.2.2.2.2.1 _ (by have := TW_mem (w := Cond.arrayClass .int) (by decide +kernel); exact this)) rfl X.2.2.2.2.2.1.1 hG.1 hG.2.1 hG.2.2 X.2.2.2.2.2.2.1 (fun cA => rfl) hn hN hbytes hcells hslots hdg (fun q cA H1 hK h1 h2 h3 => ?_)
  have hc : cA = g.2.1 0 := cA_uniq (hK.2 6 _ rfl).2 (X.2.2.2.2.2.1.1.2 0 _ rfl).2
  subst hc
  exact kk q H1 (GM_snoc h1 h2 h3)
theorem r_newB {n : Int32} {N' : Nat} (X : FX g p s m args meth c cc nL own ret A) (hG : GM g A s.heap H locs bs) (hn : ¬ n < 0) (hN : n.toNatClampNeg = N') (hbytes : N' * 1 ≤ 536870912) (hcells : cells + 1 ≤ R.cells) (hslots : slots + N' ≤ R.slots) (hdg : decode cc pc = .ok (.newarray .byte, 2))
    (kk : ∀ (q : Nat) (H1 : Heap), GM g A s.heap H1 locs (bs ++ [aB g q N' (fun _ => 0)]) → W p l e R s m args below meth c H1 locs (cells + 1) (slots + N') Q (F0 m (pc + 2) ls (.ref q :: rest))) : W p l e R s m args below meth c H locs cells slots Q (F0 m pc ls (.int n :: rest)) := by
  refine va_newa (atype := .byte) (ty := .byte) (a0 := (N', .inl (fun _ => 0))) X.1 X.2.1 (X.2.2.2.2.1 _ (by have := TW_mem (w := Cond.arrayClass .byte) (by decide +kernel); exact this)) rfl X.2.2.2.2.2.1.1 hG.1 hG.2.1 hG.2.2 X.2.2.2.2.2.2.1 (fun cA => rfl) hn hN hbytes hcells hslots hdg (fun q cA H1 hK h1 h2 h3 => ?_)
  have hc : cA = g.2.1 1 := cA_uniq (hK.2 6 _ rfl).2 (X.2.2.2.2.2.1.1.2 1 _ rfl).2
  subst hc
  exact kk q H1 (GM_snoc h1 h2 h3)
theorem r_newQ {n : Int32} {N' index : Nat} {C : String} (t : Nat) (ht : (tysG g)[t]? = some (g.2.1 t, .object C)) (X : FX g p s m args meth c cc nL own ret A) (hG : GM g A s.heap H locs bs) (hov : va_AO C s) (hcl : Cond.classLink own index C ∈ TW) (hn : ¬ n < 0) (hN : n.toNatClampNeg = N') (hbytes : N' * 4 ≤ 536870912) (hcells : cells + 1 ≤ R.cells) (hslots : slots + N' ≤ R.slots) (hdg : decode cc pc = .ok (.anewarray index, 3))
    (kk : ∀ (q : Nat) (H1 : Heap), GM g A s.heap H1 locs (bs ++ [aQ g t q N' (fun _ => none)]) → W p l e R s m args below meth c H1 locs (cells + 1) (slots + N') Q (F0 m (pc + 3) ls (.ref q :: rest))) : W p l e R s m args below meth c H locs cells slots Q (F0 m pc ls (.int n :: rest)) := by
  refine va_newq X.1 X.2.1 X.2.2.2.1 (X.2.2.2.2.1 _ hcl) hov X.2.2.2.2.2.1.1 hG.1 hG.2.1 hG.2.2 X.2.2.2.2.2.2.1 hn hN hbytes hcells hslots hdg (fun q cA H1 hK h1 h2 h3 => ?_)
  have hc : cA = g.2.1 t := cA_uniq (hK.2 6 _ rfl).2 (X.2.2.2.2.2.1.1.2 t _ ht).2
  subst hc
  exact kk q H1 (GM_snoc h1 h2 h3)
set_option maxRecDepth 100000 in
theorem r_new2 {index : Nat} (X : FX g p s m args meth c cc nL own ret A) (hG : GM g A s.heap H locs bs) (hcl : Cond.classLink own index "[[I" ∈ TW) (hcells : cells + 7 ≤ R.cells) (hslots : slots + 726 ≤ R.slots) (hdg : decode cc pc = .ok (.multianewarray index 2, 4))
    (kk : ∀ (q : Nat) (r : Nat → Nat) (H1 : Heap), GM g A s.heap H1 locs (bs ++ [a2 g q r 120]) → W p l e R s m args below meth c H1 locs (cells + 7) (slots + 726) Q (F0 m (pc + 4) ls (.ref q :: rest))) : W p l e R s m args below meth c H locs cells slots Q (F0 m pc ls (.int 120 :: .int 6 :: rest)) := by
  have hP0 : va_P g.1 vwCl (bs.flatten ++ va_pl [] (fun _ => (.inr (0, []) : va_E))) H := by simpa [va_pl] using hG.1
  have hD0 : va_D A (bs.flatten ++ va_pl [] (fun _ => (.inr (0, []) : va_E))) := by simpa [va_pl] using hG.2.1
  have hcy : s.vm.findClass (FieldType.array .int).toString = some (g.2.1 0) := (X.2.2.2.2.2.1.1.2 0 _ rfl).2
  refine va_mna (ty := .int) (cy := g.2.1 0) (N' := 6) (K' := 120) (z := (120, .inl (fun _ => 0))) X.1 X.2.1 X.2.2.2.1 (X.2.2.2.2.1 _ hcl) (show va_AOA .int s from X.2.2.2.2.2.1.2.2.2.2.2.2.2.2.2.2.2.2) (X.2.2.2.2.1 _ (by have := TW_mem (w := Cond.arrayClass .int) (by decide +kernel); exact this)) hcy X.2.2.2.2.2.1.1 hP0 hD0 hG.2.2 X.2.2.2.2.2.2.1 (by decide) (by decide) (by decide) (by decide) (by decide) (by decide) (by decide) rfl rfl (by omega) (by omega) (fun c => rfl) hdg (fun q r cA H1 hinj hnl hK h1 h2 h3 => ?_)
  have hc : cA = g.2.1 2 := cA_uniq (hK.2 6 _ rfl).2 (X.2.2.2.2.2.1.1.2 2 _ rfl).2
  subst hc
  have he : va_pl ([] ++ (List.range 6).map r) (vr_up (fun _ => (.inr (0, []) : va_E)) ((List.range 6).map r) (.inl (g.2.1 0, (120, .inl (fun _ => 0))))) = [(r 0, .inl (g.2.1 0, 120, .inl (fun _ => 0))), (r 1, .inl (g.2.1 0, 120, .inl (fun _ => 0))), (r 2, .inl (g.2.1 0, 120, .inl (fun _ => 0))), (r 3, .inl (g.2.1 0, 120, .inl (fun _ => 0))), (r 4, .inl (g.2.1 0, 120, .inl (fun _ => 0))), (r 5, .inl (g.2.1 0, 120, .inl (fun _ => 0)))] := by
    simp [va_pl, vr_up, List.range_succ]
  rw [he] at h1 h2
  refine kk q r H1 (GM_snoc (x := a2 g q r 120) ?_ ?_ h3)
  · refine P_iff.mpr fun x hx => ?_
    have key : ∀ x ∈ (bs.flatten ++ [(q, (.inl (g.2.1 2, 6, .inr (.inr (.inr (.inr (fun i => if i < 6 then some (r i) else none))))) : va_E))]) ++ [(r 0, .inl (g.2.1 0, 120, .inl (fun _ => 0))), (r 1, .inl (g.2.1 0, 120, .inl (fun _ => 0))), (r 2, .inl (g.2.1 0, 120, .inl (fun _ => 0))), (r 3, .inl (g.2.1 0, 120, .inl (fun _ => 0))), (r 4, .inl (g.2.1 0, 120, .inl (fun _ => 0))), (r 5, .inl (g.2.1 0, 120, .inl (fun _ => 0)))], va_at g.1 vwCl x H1 := P_iff.mp h1
    rcases List.mem_append.mp hx with h | h
    · exact key x (List.mem_append_left _ (List.mem_append_left _ h))
    · unfold a2 at h
      rcases List.mem_cons.mp h with rfl | h
      · exact at_congr_q (key _ (List.mem_append_left _ (List.mem_append_right _ (List.mem_singleton.mpr rfl)))) (fun i hi => by simp [hi])
      · exact key x (List.mem_append_right _ h)
  · have hD := D_iff.mp h2
    refine D_iff.mpr ⟨?_, ?_⟩
    · have := hD.1
      simpa [a2] using this
    · intro x hx
      rcases List.mem_append.mp hx with h | h
      · exact hD.2 x (List.mem_append_left _ (List.mem_append_left _ h))
      · unfold a2 at h
        rcases List.mem_cons.mp h with rfl | h
        · exact hD.2 (q, (.inl (g.2.1 2, 6, .inr (.inr (.inr (.inr (fun i => if i < 6 then some (r i) else none))))) : va_E)) (List.mem_append_left _ (List.mem_append_right _ (List.mem_singleton.mpr rfl)))
        · exact hD.2 x (List.mem_append_right _ h)
theorem r_objInit {idx : Nat} {o : Nat} (X : FX g p s m args meth c cc nL own ret A) (hsz : ls.size = nL) (hl : Cond.methodLink own idx Lib.objectInit ∈ TW) (h2 : Cond.instanceMethod Lib.objectInit ∈ TW) (h3 : Cond.code Lib.objectInit ⟨#[0xb1]⟩ 1 none ∈ TW) (hf : 1 ≤ R.frames) (hlo : (rest.map fun v => v.category).sum + 12 ≤ R.locals) (hdg : decode cc pc = .ok (.invokespecial idx, 3))
    (kk : W p l e R s m args below meth c H locs cells slots Q (F0 m (pc + 3) ls rest)) : W p l e R s m args below meth c H locs cells slots Q (F0 m pc ls (.ref o :: rest)) :=
  W.objInit X.1 X.2.1 X.2.2.2.1 (X.2.2.2.2.1 _ hl) (X.2.2.2.2.1 _ h2) (X.2.2.2.2.1 _ h3) rfl (by rw [X.2.2.1]; exact hsz) rfl hdg hf (by show 2 * 0 + _ + 12 ≤ _; omega) (W.eq (g2 := F0 m (pc + 3) ls rest) rfl kk)
/-- writing a final field in a constructor -/
theorem r_putF (X : FX g p s m args meth c cc nL own ret A) (hin2 : meth.name = "<init>") {H0 : Heap} (hG : GM g A H0 H locs bs) (j k : Nat) {b : va_W} (hj : bs[j]? = some b) {a ci : Nat} {fs : List Value} (hk : b[k]? = some (a, .inr (ci, fs))) {C : String} {T : u_T} {N : Nat} (hc : vwCl[ci]? = some (C, T, N)) (f : Nat) (hf : f < N) (hin : ∀ w ∈ u_ws C T N, w ∈ TW) (ty0 : Nat → FieldType) (hty : ∀ k, k < N → parseFieldDescriptor (T k).2.2.1 = some (ty0 k)) (hnm : ∀ a, a < N → ∀ b, b < N → a ≠ b → (T a).2.1 ≠ (T b).2.1) {index : Nat} (hlink : Cond.fieldLink own index (T f).1 (T f).2.1 (T f).2.2.1 ∈ TW) (hfin : (T f).2.2.2 = true) (hdecl : (T f).1 = own) {ty : FieldType} {v : Value} (hd : parseFieldDescriptor (T f).2.2.1 = some ty) (hn : narrow ty v = v) (hfit : fits ty v = true) (hl : f < fs.length) (hdg : decode cc pc = .ok (.putfield index, 3))
    (kk : ∀ (H1 : Heap) (locs1 : List Loc), GM g A H0 H1 locs1 (bs.set j (b.set k (a, .inr (ci, fs.set f v)))) → W p l e R s m args below meth c H1 locs1 cells slots Q (F0 m (pc + 3) ls rest)) : W p l e R s m args below meth c H locs cells slots Q (F0 m pc ls (v :: .ref a :: rest)) := by
  obtain ⟨i, hi, hs⟩ := blk_set hj hk
  exact va_putF (D := g.1) (v := v) (ty := ty) X.1 X.2.1 X.2.2.2.2.1 hin ty0 hty hnm X.2.2.2.1 X.2.2.2.2.2.1.1 hG.1 hG.2.1 hG.2.2 i hi hc f hf (X.2.2.2.2.1 _ hlink) (fun _ h => h) hfin hin2 hdecl hd hn hfit hl hdg (fun H1 locs1 h1 h2 h3 => kk H1 locs1 ⟨by rw [← hs]; exact h1, by rw [← hs]; exact h2, h3⟩)
/-- writing a reference into a row of objects -/
theorem r_aastq {qv ci : Nat} {r : vw_C} {vs : List Value} {i : Int32} (t : Nat) (ht : (tysG g)[t]? = some (g.2.1 t, .object r.1)) (X : FX g p s m args meth c cc nL own ret A) {H0 : Heap} (hG : GM g A H0 H locs bs) (j k : Nat) {b : va_W} (hj : bs[j]? = some b) {a n : Nat} {f : Nat → Option Nat} (hk : b[k]? = some (a, .inl (g.2.1 t, n, .inr (.inr (.inr (.inr f)))))) (j2 k2 : Nat) {b2 : va_W} (hj2 : bs[j2]? = some b2) (hk2 : b2[k2]? = some (qv, .inr (ci, vs))) (hc : vwCl[ci]? = some r) (hin : vp_in i n) (hdg : decode cc pc = .ok (.aastore, 1))
    (kk : ∀ (H1 : Heap) (locs1 : List Loc), GM g A H0 H1 locs1 (bs.set j (b.set k (a, .inl (g.2.1 t, n, .inr (.inr (.inr (.inr (va_up f i.toNatClampNeg (some qv))))))))) → W p l e R s m args below meth c H1 locs1 cells slots Q (F0 m (pc + 1) ls rest)) : W p l e R s m args below meth c H locs cells slots Q (F0 m pc ls (.ref qv :: .int i :: .ref a :: rest)) := by
  obtain ⟨q1, hi, hs⟩ := blk_set hj hk
  obtain ⟨q2, hi2, -⟩ := blk_set hj2 hk2
  exact va_astq (D := g.1) X.1 X.2.1 X.2.2.2.2.2.1.1 hG.1 hG.2.1 hG.2.2 q1 t q2 ci hi ht hi2 hc hin hdg (fun H1 locs1 h1 h2 h3 => kk H1 locs1 ⟨by rw [← hs]; exact h1, by rw [← hs]; exact h2, h3⟩)
end RW7
/-- a constructor's contract: what it leaves depends on the addresses u that it makes -/
def CN {U : Type} (g : GT) (l : Launch) (y : MethodName) (b : ByteArray) (nL : Nat) (rm : Room) (av : List Value) (bs : List va_W) (bs' : U → List va_W) (mc ms : Nat) : Prop := ∀ sz : Nat, Met l y (WY y b nL none) rm (PC g sz av bs) (va_Qv (fun (_ : U) => True) (fun u => BW g (va_A bs.flatten sz) (bs' u) ()) (va_A bs.flatten sz)) mc ms (va_A bs.flatten sz)
/-- a method that answers a reference that it made -/
def CR {U : Type} (g : GT) (l : Launch) (y : MethodName) (b : ByteArray) (nL : Nat) (ret : Option FieldType) (rm : Room) (av : List Value) (bs : List va_W) (ad : U → Nat) (bs' : U → List va_W) (mc ms : Nat) : Prop := ∀ sz : Nat, Met l y (WY y b nL ret) rm (PC g sz av bs) (va_Qr (fun (_ : U) => True) (fun u q t => q = ad u ∧ BW g (va_A bs.flatten sz) (bs' u) () t) (va_A bs.flatten sz)) mc ms (va_A bs.flatten sz)
/-- a method that answers an int and makes something -/
def CM {U : Type} (g : GT) (l : Launch) (y : MethodName) (b : ByteArray) (nL : Nat) (ret : Option FieldType) (rm : Room) (av : List Value) (bs : List va_W) (rv : Int32) (bs' : U → List va_W) (mc ms : Nat) : Prop := ∀ sz : Nat, Met l y (WY y b nL ret) rm (PC g sz av bs) (va_Qi (fun (r : Int32) (_ : U) => r = rv) (fun u => BW g (va_A bs.flatten sz) (bs' u) ()) (va_A bs.flatten sz)) mc ms (va_A bs.flatten sz)
theorem CN_intro {U : Type} {g : GT} {l : Launch} {y : MethodName} {b : ByteArray} {nL : Nat} {rm : Room} {av : List Value} {bs : List va_W} {bs' : U → List va_W} {mc ms : Nat} (own : String) (how : y.cls = own) (hnm : y.name = "<init>") (hy : plainName y.cls = true) (hav : (lg_sl av).length ≤ nL)
    (h : ∀ (p : Program) (e : Env) (s : State) (m : MethodId) (args : Array Value) (below : List Frame) (meth : Method) (c : Code) (A : Nat → Prop) (ls : Array Slot) (Q : State → Prop), Q = MQ below (va_Qv (fun (_ : U) => True) (fun u => BW g A (bs' u) ()) A) args s mc ms A → FX g p s m args meth c b nL own none A → lv_has ls nL (lv_args 0 av) → meth.name = "<init>" → GM g A s.heap s.heap [] bs → W p l e rm s m args below meth c s.heap [] 0 0 Q (F0 m 0 ls [])) : CN g l y b nL rm av bs bs' mc ms :=
  fun sz => M_intro (Qc := fun A => va_Qv (fun (_ : U) => True) (fun u => BW g A (bs' u) ()) A) hy hav mc ms (fun p e s m below meth c A ls X hl hn hG => h p e s m _ below meth c A ls _ rfl (how ▸ X) hl (hn.trans hnm) hG) sz
theorem CR_intro {U : Type} {g : GT} {l : Launch} {y : MethodName} {b : ByteArray} {nL : Nat} {ret : Option FieldType} {rm : Room} {av : List Value} {bs : List va_W} {ad : U → Nat} {bs' : U → List va_W} {mc ms : Nat} (own : String) (how : y.cls = own) (hy : plainName y.cls = true) (hav : (lg_sl av).length ≤ nL)
    (h : ∀ (p : Program) (e : Env) (s : State) (m : MethodId) (args : Array Value) (below : List Frame) (meth : Method) (c : Code) (A : Nat → Prop) (ls : Array Slot) (Q : State → Prop), Q = MQ below (va_Qr (fun (_ : U) => True) (fun u q t => q = ad u ∧ BW g A (bs' u) () t) A) args s mc ms A → FX g p s m args meth c b nL own ret A → lv_has ls nL (lv_args 0 av) → GM g A s.heap s.heap [] bs → W p l e rm s m args below meth c s.heap [] 0 0 Q (F0 m 0 ls [])) : CR g l y b nL ret rm av bs ad bs' mc ms :=
  fun sz => M_intro (Qc := fun A => va_Qr (fun (_ : U) => True) (fun u q t => q = ad u ∧ BW g A (bs' u) () t) A) hy hav mc ms (fun p e s m below meth c A ls X hl _ hG => h p e s m _ below meth c A ls _ rfl (how ▸ X) hl hG) sz
theorem CM_intro {U : Type} {g : GT} {l : Launch} {y : MethodName} {b : ByteArray} {nL : Nat} {ret : Option FieldType} {rm : Room} {av : List Value} {bs : List va_W} {rv : Int32} {bs' : U → List va_W} {mc ms : Nat} (own : String) (how : y.cls = own) (hy : plainName y.cls = true) (hav : (lg_sl av).length ≤ nL)
    (h : ∀ (p : Program) (e : Env) (s : State) (m : MethodId) (args : Array Value) (below : List Frame) (meth : Method) (c : Code) (A : Nat → Prop) (ls : Array Slot) (Q : State → Prop), Q = MQ below (va_Qi (fun (r : Int32) (_ : U) => r = rv) (fun u => BW g A (bs' u) ()) A) args s mc ms A → FX g p s m args meth c b nL own ret A → lv_has ls nL (lv_args 0 av) → GM g A s.heap s.heap [] bs → W p l e rm s m args below meth c s.heap [] 0 0 Q (F0 m 0 ls [])) : CM g l y b nL ret rm av bs rv bs' mc ms :=
  fun sz => M_intro (Qc := fun A => va_Qi (fun (r : Int32) (_ : U) => r = rv) (fun u => BW g A (bs' u) ()) A) hy hav mc ms (fun p e s m below meth c A ls X hl _ hG => h p e s m _ below meth c A ls _ rfl (how ▸ X) hl hG) sz
section RW8
variable {p : Program} {l : Launch} {e : Env} {R : Room} {s : State} {m : MethodId} {args : Array Value} {below : List Frame} {meth : Method} {c : Code} {H : Heap} {locs : List Loc} {cells slots : Nat} {Q : State → Prop}
variable {g : GT} {cc : ByteArray} {nL pc : Nat} {own : String} {ret : Option FieldType} {A : Nat → Prop} {ls : Array Slot} {rest : List Value} {bs bs' : List va_W}
theorem r_nret {U : Type} {bs'' : U → List va_W} (u : U) (X : FX g p s m args meth c cc nL own none A) (hG : GM g A s.heap H locs (bs'' u)) (hdg : decode cc pc = .ok (.return_, 1)) : W p l e R s m args below meth c H locs cells slots (MQ below (va_Qv (fun (_ : U) => True) (fun u => BW g A (bs'' u) ()) A) args s cells slots A) (F0 m pc ls []) :=
  W.vret (hlocks := X.2.2.2.2.2.2.2.2) X.1 X.2.1 X.2.2.2.2.2.2.2.1 (fun t ht hW => ⟨⟨u, rfl, trivial, by rw [ht]; exact hG.1, hG.2.1⟩, hG.2.2.F ht⟩) hG.2.2.2.2 hdg
theorem r_rret {U : Type} {bs'' : U → List va_W} {ad : U → Nat} {rt : String} (u : U) (X : FX g p s m args meth c cc nL own (some (.object rt)) A) (hG : GM g A s.heap H locs (bs'' u)) (hdg : decode cc pc = .ok (.areturn, 1)) : W p l e R s m args below meth c H locs cells slots (MQ below (va_Qr (fun (_ : U) => True) (fun u q t => q = ad u ∧ BW g A (bs'' u) () t) A) args s cells slots A) (F0 m pc ls [.ref (ad u)]) :=
  W.aret (hlocks := X.2.2.2.2.2.2.2.2) X.1 X.2.1 X.2.2.2.2.2.2.2.1 (Or.inl ⟨_, rfl⟩) (Or.inr ⟨_, rfl⟩) (fun t ht hW => ⟨⟨u, ad u, rfl, trivial, rfl, by rw [ht]; exact hG.1, hG.2.1⟩, hG.2.2.F ht⟩) hG.2.2.2.2 hdg
theorem r_mret {U : Type} {bs'' : U → List va_W} {rv : Int32} (u : U) (X : FX g p s m args meth c cc nL own (some .int) A) (hG : GM g A s.heap H locs (bs'' u)) (hdg : decode cc pc = .ok (.ireturn, 1)) : W p l e R s m args below meth c H locs cells slots (MQ below (va_Qi (fun (r : Int32) (_ : U) => r = rv) (fun u => BW g A (bs'' u) ()) A) args s cells slots A) (F0 m pc ls [.int rv]) :=
  W.iret (hlocks := X.2.2.2.2.2.2.2.2) X.1 X.2.1 X.2.2.2.2.2.2.2.1 (fun t ht hW => ⟨⟨rv, u, rfl, rfl, by rw [ht]; exact hG.1, hG.2.1⟩, hG.2.2.F ht⟩) hG.2.2.2.2 hdg
/-- a constructor is called -/
theorem r_callI {U : Type} {y : MethodName} {b2 : ByteArray} {nL2 n idx : Nat} {rm : Room} {o : Nat} {As : List Value} {bc br : List va_W} {bc' : U → List va_W} {st : List Value} {mc ms : Nat} (X : FX g p s m args meth c cc nL own ret A) (hG : GM g A s.heap H locs bs) (hsz : ls.size = nL) (hM : CN g l y b2 nL2 rm (.ref o :: As) bc bc' mc ms) (hp : bs.flatten.Perm (bc ++ br).flatten) (hk : LKC y b2 nL2 none n) (hnm : y.name = "<init>") (hi : Cond.instanceMethod y ∈ TW) (hl : Cond.methodLink own idx y ∈ TW) (hrc : rm.cells = mc) (hrs : rm.slots = ms) (hR : rm.frames + 1 ≤ R.frames ∧ 8 + (nL2 + 11) + rm.locals ≤ R.locals) (hn : As.length = n) (hst : st = As.reverse ++ .ref o :: rest) (hcat : (rest.map fun v => v.category).sum ≤ 8) (hcs : cells + mc ≤ R.cells ∧ slots + ms ≤ R.slots) (hdg : decode cc pc = .ok (.invokespecial idx, 3))
    (kk : ∀ (u : U) (H1 : Heap) (locs1 : List Loc), GM g A s.heap H1 locs1 (bc' u ++ br) → W p l e R s m args below meth c H1 locs1 (cells + mc) (slots + ms) Q (F0 m (pc + 3) ls rest)) : W p l e R s m args below meth c H locs cells slots Q (F0 m pc ls st) := by
  have hF := call_free X.2.2.2.2.2.2.1 hG hp
  refine va_callv (va_runI (As := As) (rest := rest) ⟨X.1, X.2.1, X.2.2.1, X.2.2.2.1, X.2.2.2.2.1⟩ (hM H.size) ⟨callB_mk X hk hl hrc hrs hR, hnm, X.2.2.2.2.1 _ hi⟩ ⟨PC_blind, call_pre X hG hp⟩ rfl hn hsz hst (lv_room hcat) hdg hcs) hG.2.2 (fun q _ h => hF q h) hF (fun u t H1 locs1 ht hvm hw hB hz hk1 hS => ?_)
  exact kk u H1 locs1 (call_post X hG hp (List.Perm.refl _) hk1 (by rw [← ht]; exact hB.1) hB.2 hS)
theorem r_callIN {U : Type} {y : MethodName} {b2 : ByteArray} {nL2 n idx : Nat} {rm : Room} {o : Nat} {As : List Value} {bc br : List va_W} {bc' : U → List va_W} {st : List Value} {mc ms : Nat} {host : String} (X : FX g p s m args meth c cc nL own ret A) (hG : GM g A s.heap H locs bs) (hsz : ls.size = nL) (hM : CN g l y b2 nL2 rm (.ref o :: As) bc bc' mc ms) (hp : bs.flatten.Perm (bc ++ br).flatten) (hk : LKC y b2 nL2 none n) (hnm : y.name = "<init>") (hi : Cond.instanceMethod y ∈ TW) (hl : Cond.methodLinkNest own idx y host ∈ NW) (hrc : rm.cells = mc) (hrs : rm.slots = ms) (hR : rm.frames + 1 ≤ R.frames ∧ 8 + (nL2 + 11) + rm.locals ≤ R.locals) (hn : As.length = n) (hst : st = As.reverse ++ .ref o :: rest) (hcat : (rest.map fun v => v.category).sum ≤ 8) (hcs : cells + mc ≤ R.cells ∧ slots + ms ≤ R.slots) (hdg : decode cc pc = .ok (.invokespecial idx, 3))
    (kk : ∀ (u : U) (H1 : Heap) (locs1 : List Loc), GM g A s.heap H1 locs1 (bc' u ++ br) → W p l e R s m args below meth c H1 locs1 (cells + mc) (slots + ms) Q (F0 m (pc + 3) ls rest)) : W p l e R s m args below meth c H locs cells slots Q (F0 m pc ls st) := by
  have hF := call_free X.2.2.2.2.2.2.1 hG hp
  refine va_callv (va_runIN (As := As) (rest := rest) ⟨X.1, X.2.1, X.2.2.1, X.2.2.2.1, X.2.2.2.2.1⟩ (hM H.size) ⟨va_cnB n X.2.2.2.2.1 (WY_good hk) rfl hrc hrs (X.2.2.2.2.2.1.2.1 _ hl) (X.2.2.2.2.1 _ hk.2.1) hk.2.2 hR, hnm, X.2.2.2.2.1 _ hi⟩ ⟨PC_blind, call_pre X hG hp⟩ rfl hn hsz hst (lv_room hcat) hdg hcs) hG.2.2 (fun q _ h => hF q h) hF (fun u t H1 locs1 ht hvm hw hB hz hk1 hS => ?_)
  exact kk u H1 locs1 (call_post X hG hp (List.Perm.refl _) hk1 (by rw [← ht]; exact hB.1) hB.2 hS)
/-- a static method that answers what it made -/
theorem r_callSr {U : Type} {y : MethodName} {b2 : ByteArray} {nL2 n idx : Nat} {ret2 : Option FieldType} {rm : Room} {As : List Value} {bc br : List va_W} {ad : U → Nat} {bc' : U → List va_W} {st : List Value} {mc ms : Nat} (X : FX g p s m args meth c cc nL own ret A) (hG : GM g A s.heap H locs bs) (hsz : ls.size = nL) (hM : CR g l y b2 nL2 ret2 rm As bc ad bc' mc ms) (hp : bs.flatten.Perm (bc ++ br).flatten) (hk : LKC y b2 nL2 ret2 n) (hv : Cond.static y ∈ TW) (hl : Cond.methodLink own idx y ∈ TW) (hrc : rm.cells = mc) (hrs : rm.slots = ms) (hR : rm.frames + 1 ≤ R.frames ∧ 8 + (nL2 + 11) + rm.locals ≤ R.locals) (hn : As.length = n) (hst : st = As.reverse ++ rest) (hcat : (rest.map fun v => v.category).sum ≤ 8) (hcs : cells + mc ≤ R.cells ∧ slots + ms ≤ R.slots) (hdg : decode cc pc = .ok (.invokestatic idx, 3))
    (kk : ∀ (u : U) (H1 : Heap) (locs1 : List Loc), GM g A s.heap H1 locs1 (bc' u ++ br) → W p l e R s m args below meth c H1 locs1 (cells + mc) (slots + ms) Q (F0 m (pc + 3) ls (.ref (ad u) :: rest))) : W p l e R s m args below meth c H locs cells slots Q (F0 m pc ls st) := by
  have hF := call_free X.2.2.2.2.2.2.1 hG hp
  refine va_callr (va_runS (As := As) (rest := rest) ⟨X.1, X.2.1, X.2.2.1, X.2.2.2.1, X.2.2.2.2.1⟩ (hM H.size) ⟨callB_mk X hk hl hrc hrs hR, X.2.2.2.2.1 _ hv⟩ ⟨PC_blind, call_pre X hG hp⟩ rfl hn hsz hst (lv_room hcat) hdg hcs) hG.2.2 (fun q _ h => hF q h) hF (fun u qa t H1 locs1 ht hvm hw hB hz hk1 hS => ?_)
  obtain ⟨rfl, hB⟩ := hB
  exact kk u H1 locs1 (call_post X hG hp (List.Perm.refl _) hk1 (by rw [← ht]; exact hB.1) hB.2 hS)
/-- a method of an object that answers an int and makes something -/
theorem r_callVm {U : Type} {y : MethodName} {b2 : ByteArray} {nL2 n idx : Nat} {ret2 : Option FieldType} {rm : Room} {C : String} {T : u_T} {N o ci j k : Nat} {fs As : List Value} {b : va_W} {bc br : List va_W} {bc' : U → List va_W} {rv : Int32} {st : List Value} {mc ms : Nat} (X : FX g p s m args meth c cc nL own ret A) (hG : GM g A s.heap H locs bs) (hsz : ls.size = nL) (hM : CM g l y b2 nL2 ret2 rm (.ref o :: As) bc rv bc' mc ms) (hp : bs.flatten.Perm (bc ++ br).flatten) (hk : LKC y b2 nL2 ret2 n) (hv : LKV y C) (hl : Cond.methodLink own idx y ∈ TW) (hj : bs[j]? = some b) (hkk : b[k]? = some (o, .inr (ci, fs))) (hc : vwCl[ci]? = some (C, T, N)) (hrc : rm.cells = mc) (hrs : rm.slots = ms) (hR : rm.frames + 1 ≤ R.frames ∧ 8 + (nL2 + 11) + rm.locals ≤ R.locals) (hn : As.length = n) (hst : st = As.reverse ++ .ref o :: rest) (hcat : (rest.map fun v => v.category).sum ≤ 8) (hcs : cells + mc ≤ R.cells ∧ slots + ms ≤ R.slots) (hdg : decode cc pc = .ok (.invokevirtual idx, 3))
    (kk : ∀ (u : U) (H1 : Heap) (locs1 : List Loc), GM g A s.heap H1 locs1 (bc' u ++ br) → W p l e R s m args below meth c H1 locs1 (cells + mc) (slots + ms) Q (F0 m (pc + 3) ls (.int rv :: rest))) : W p l e R s m args below meth c H locs cells slots Q (F0 m pc ls st) := by
  have hF := call_free X.2.2.2.2.2.2.1 hG hp
  refine va_calli (va_runV (C := C) (As := As) (rest := rest) ⟨X.1, X.2.1, X.2.2.1, X.2.2.2.1, X.2.2.2.2.1⟩ (hM H.size) ⟨callB_mk X hk hl hrc hrs hR, X.2.2.2.2.1 _ hv.1, X.2.2.2.2.1 _ hv.2⟩ ⟨PC_blind, call_recv X hG hj hkk hc, call_pre X hG hp⟩ rfl hn hsz hst (lv_room hcat) hdg hcs) hG.2.2 (fun q _ h => hF q h) hF (fun r u t H1 locs1 ht hvm hw hB hz hk1 hS => ?_)
  subst hw
  exact kk u H1 locs1 (call_post X hG hp (List.Perm.refl _) hk1 (by rw [← ht]; exact hB.1) hB.2 hS)
end RW8

