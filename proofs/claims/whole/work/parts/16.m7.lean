abbrev CS : Type := MS × MS × MS × MS × MS × MS × MS × (Nat → MS) × (Nat → MS) × MS × MS
def wX7 (g : GT) (o : Nat) (a : Nat → Nat → Nat) (nw : Nat) (s : MS) : va_W := [(o, .inr (7, [.ref (a 0 0), .ref (a 0 1), .int (s.1 2), .ref (a 0 3), .ref (a 0 4), .int (s.1 5), .ref (a 0 6), .ref (a 0 7), .ref (a 0 8), .int (s.1 9), .ref (a 0 10), .ref (a 0 11)])), (a 0 4, .inl (g.2.1 5, 8, .inr (.inr (.inr (.inr (fun i => if i < nw then some (a 4 i) else none)))))), (a 0 8, .inl (g.2.1 3, 6, .inr (.inr (.inr (.inr (fun i => some (a 7 i))))))), (a 0 10, .inl (g.2.1 4, 4, .inr (.inr (.inr (.inr (fun i => some (a 8 i)))))))]
def wy (s : MS) (i : Nat) : MS := (fun k => s.2 k i, fun _ _ => 0)
def wYs (g : GT) (a : Nat → Nat → Nat) (nw : Nat) (s : MS) : va_W := (List.range nw).map (fun i => (a 4 i, .inr (6, [.int (s.2 0 i), .int (s.2 1 i), .int (s.2 2 i)])))
def wTs (g : GT) (a : Nat → Nat → Nat) (t : Nat → MS) : va_W := [wX5 g (a 7 0) (a (20 + 0)) (t 0), wX5 g (a 7 1) (a (20 + 1)) (t 1), wX5 g (a 7 2) (a (20 + 2)) (t 2), wX5 g (a 7 3) (a (20 + 3)) (t 3), wX5 g (a 7 4) (a (20 + 4)) (t 4), wX5 g (a 7 5) (a (20 + 5)) (t 5)].flatten
def wSs (g : GT) (a : Nat → Nat → Nat) (t : Nat → MS) : va_W := [wX3 g (a 8 0) (a (30 + 0)) (t 0), wX3 g (a 8 1) (a (30 + 1)) (t 1), wX3 g (a 8 2) (a (30 + 2)) (t 2), wX3 g (a 8 3) (a (30 + 3)) (t 3)].flatten
def wTsR (g : GT) (a : Nat → Nat → Nat) (t : Nat → MS) (i : Nat) : va_W := match i with
  | 0 => [wX5 g (a 7 1) (a (20 + 1)) (t 1), wX5 g (a 7 2) (a (20 + 2)) (t 2), wX5 g (a 7 3) (a (20 + 3)) (t 3), wX5 g (a 7 4) (a (20 + 4)) (t 4), wX5 g (a 7 5) (a (20 + 5)) (t 5)].flatten
  | 1 => [wX5 g (a 7 0) (a (20 + 0)) (t 0), wX5 g (a 7 2) (a (20 + 2)) (t 2), wX5 g (a 7 3) (a (20 + 3)) (t 3), wX5 g (a 7 4) (a (20 + 4)) (t 4), wX5 g (a 7 5) (a (20 + 5)) (t 5)].flatten
  | 2 => [wX5 g (a 7 0) (a (20 + 0)) (t 0), wX5 g (a 7 1) (a (20 + 1)) (t 1), wX5 g (a 7 3) (a (20 + 3)) (t 3), wX5 g (a 7 4) (a (20 + 4)) (t 4), wX5 g (a 7 5) (a (20 + 5)) (t 5)].flatten
  | 3 => [wX5 g (a 7 0) (a (20 + 0)) (t 0), wX5 g (a 7 1) (a (20 + 1)) (t 1), wX5 g (a 7 2) (a (20 + 2)) (t 2), wX5 g (a 7 4) (a (20 + 4)) (t 4), wX5 g (a 7 5) (a (20 + 5)) (t 5)].flatten
  | 4 => [wX5 g (a 7 0) (a (20 + 0)) (t 0), wX5 g (a 7 1) (a (20 + 1)) (t 1), wX5 g (a 7 2) (a (20 + 2)) (t 2), wX5 g (a 7 3) (a (20 + 3)) (t 3), wX5 g (a 7 5) (a (20 + 5)) (t 5)].flatten
  | 5 => [wX5 g (a 7 0) (a (20 + 0)) (t 0), wX5 g (a 7 1) (a (20 + 1)) (t 1), wX5 g (a 7 2) (a (20 + 2)) (t 2), wX5 g (a 7 3) (a (20 + 3)) (t 3), wX5 g (a 7 4) (a (20 + 4)) (t 4)].flatten
  | _ => []
theorem T_focus2 {g : GT} {a : Nat → Nat → Nat} {i : Nat} (h : i < 6) (t : Nat → MS) (x : MS) : (wTs g a (va_up t i x)).Perm (wX5 g (a 7 i) (a (20 + i)) x ++ wTsR g a t i) := by
  have e : wX5 g (a 7 i) (a (20 + i)) x ++ wTsR g a t i = [wX5 g (a 7 i) (a (20 + i)) (va_up t i x i), wTsR g a t i].flatten := by
    show _ = wX5 g (a 7 i) (a (20 + i)) (va_up t i x i) ++ (wTsR g a t i ++ [])
    rw [List.append_nil, show va_up t i x i = x by simp [va_up]]
  rw [e]
  exact (match i, h with
    | 0, _ => (blk_perm2 (l2 := [wX5 g (a 7 0) (a (20 + 0)) (va_up t 0 x 0), wX5 g (a 7 1) (a (20 + 1)) (va_up t 0 x 1), wX5 g (a 7 2) (a (20 + 2)) (va_up t 0 x 2), wX5 g (a 7 3) (a (20 + 3)) (va_up t 0 x 3), wX5 g (a 7 4) (a (20 + 4)) (va_up t 0 x 4), wX5 g (a 7 5) (a (20 + 5)) (va_up t 0 x 5)]) [0, 1, 2, 3, 4, 5] 6 rfl rfl (by decide)).flatten
    | 1, _ => (blk_perm2 (l2 := [wX5 g (a 7 1) (a (20 + 1)) (va_up t 1 x 1), wX5 g (a 7 0) (a (20 + 0)) (va_up t 1 x 0), wX5 g (a 7 2) (a (20 + 2)) (va_up t 1 x 2), wX5 g (a 7 3) (a (20 + 3)) (va_up t 1 x 3), wX5 g (a 7 4) (a (20 + 4)) (va_up t 1 x 4), wX5 g (a 7 5) (a (20 + 5)) (va_up t 1 x 5)]) [1, 0, 2, 3, 4, 5] 6 rfl rfl (by decide)).flatten
    | 2, _ => (blk_perm2 (l2 := [wX5 g (a 7 2) (a (20 + 2)) (va_up t 2 x 2), wX5 g (a 7 0) (a (20 + 0)) (va_up t 2 x 0), wX5 g (a 7 1) (a (20 + 1)) (va_up t 2 x 1), wX5 g (a 7 3) (a (20 + 3)) (va_up t 2 x 3), wX5 g (a 7 4) (a (20 + 4)) (va_up t 2 x 4), wX5 g (a 7 5) (a (20 + 5)) (va_up t 2 x 5)]) [2, 0, 1, 3, 4, 5] 6 rfl rfl (by decide)).flatten
    | 3, _ => (blk_perm2 (l2 := [wX5 g (a 7 3) (a (20 + 3)) (va_up t 3 x 3), wX5 g (a 7 0) (a (20 + 0)) (va_up t 3 x 0), wX5 g (a 7 1) (a (20 + 1)) (va_up t 3 x 1), wX5 g (a 7 2) (a (20 + 2)) (va_up t 3 x 2), wX5 g (a 7 4) (a (20 + 4)) (va_up t 3 x 4), wX5 g (a 7 5) (a (20 + 5)) (va_up t 3 x 5)]) [3, 0, 1, 2, 4, 5] 6 rfl rfl (by decide)).flatten
    | 4, _ => (blk_perm2 (l2 := [wX5 g (a 7 4) (a (20 + 4)) (va_up t 4 x 4), wX5 g (a 7 0) (a (20 + 0)) (va_up t 4 x 0), wX5 g (a 7 1) (a (20 + 1)) (va_up t 4 x 1), wX5 g (a 7 2) (a (20 + 2)) (va_up t 4 x 2), wX5 g (a 7 3) (a (20 + 3)) (va_up t 4 x 3), wX5 g (a 7 5) (a (20 + 5)) (va_up t 4 x 5)]) [4, 0, 1, 2, 3, 5] 6 rfl rfl (by decide)).flatten
    | 5, _ => (blk_perm2 (l2 := [wX5 g (a 7 5) (a (20 + 5)) (va_up t 5 x 5), wX5 g (a 7 0) (a (20 + 0)) (va_up t 5 x 0), wX5 g (a 7 1) (a (20 + 1)) (va_up t 5 x 1), wX5 g (a 7 2) (a (20 + 2)) (va_up t 5 x 2), wX5 g (a 7 3) (a (20 + 3)) (va_up t 5 x 3), wX5 g (a 7 4) (a (20 + 4)) (va_up t 5 x 4)]) [5, 0, 1, 2, 3, 4] 6 rfl rfl (by decide)).flatten
    | i + 6, h => absurd h (by omega))
theorem T_focus {g : GT} {a : Nat → Nat → Nat} {i : Nat} (h : i < 6) {t : Nat → MS} : (wTs g a t).Perm (wX5 g (a 7 i) (a (20 + i)) (t i) ++ wTsR g a t i) := by
  have h2 := T_focus2 (g := g) (a := a) h t (t i)
  rwa [show va_up t i (t i) = t from funext fun j => by by_cases e : j = i <;> simp [va_up, e]] at h2
def wSsR (g : GT) (a : Nat → Nat → Nat) (t : Nat → MS) (i : Nat) : va_W := match i with
  | 0 => [wX3 g (a 8 1) (a (30 + 1)) (t 1), wX3 g (a 8 2) (a (30 + 2)) (t 2), wX3 g (a 8 3) (a (30 + 3)) (t 3)].flatten
  | 1 => [wX3 g (a 8 0) (a (30 + 0)) (t 0), wX3 g (a 8 2) (a (30 + 2)) (t 2), wX3 g (a 8 3) (a (30 + 3)) (t 3)].flatten
  | 2 => [wX3 g (a 8 0) (a (30 + 0)) (t 0), wX3 g (a 8 1) (a (30 + 1)) (t 1), wX3 g (a 8 3) (a (30 + 3)) (t 3)].flatten
  | 3 => [wX3 g (a 8 0) (a (30 + 0)) (t 0), wX3 g (a 8 1) (a (30 + 1)) (t 1), wX3 g (a 8 2) (a (30 + 2)) (t 2)].flatten
  | _ => []
theorem S_focus2 {g : GT} {a : Nat → Nat → Nat} {i : Nat} (h : i < 4) (t : Nat → MS) (x : MS) : (wSs g a (va_up t i x)).Perm (wX3 g (a 8 i) (a (30 + i)) x ++ wSsR g a t i) := by
  have e : wX3 g (a 8 i) (a (30 + i)) x ++ wSsR g a t i = [wX3 g (a 8 i) (a (30 + i)) (va_up t i x i), wSsR g a t i].flatten := by
    show _ = wX3 g (a 8 i) (a (30 + i)) (va_up t i x i) ++ (wSsR g a t i ++ [])
    rw [List.append_nil, show va_up t i x i = x by simp [va_up]]
  rw [e]
  exact (match i, h with
    | 0, _ => (blk_perm2 (l2 := [wX3 g (a 8 0) (a (30 + 0)) (va_up t 0 x 0), wX3 g (a 8 1) (a (30 + 1)) (va_up t 0 x 1), wX3 g (a 8 2) (a (30 + 2)) (va_up t 0 x 2), wX3 g (a 8 3) (a (30 + 3)) (va_up t 0 x 3)]) [0, 1, 2, 3] 4 rfl rfl (by decide)).flatten
    | 1, _ => (blk_perm2 (l2 := [wX3 g (a 8 1) (a (30 + 1)) (va_up t 1 x 1), wX3 g (a 8 0) (a (30 + 0)) (va_up t 1 x 0), wX3 g (a 8 2) (a (30 + 2)) (va_up t 1 x 2), wX3 g (a 8 3) (a (30 + 3)) (va_up t 1 x 3)]) [1, 0, 2, 3] 4 rfl rfl (by decide)).flatten
    | 2, _ => (blk_perm2 (l2 := [wX3 g (a 8 2) (a (30 + 2)) (va_up t 2 x 2), wX3 g (a 8 0) (a (30 + 0)) (va_up t 2 x 0), wX3 g (a 8 1) (a (30 + 1)) (va_up t 2 x 1), wX3 g (a 8 3) (a (30 + 3)) (va_up t 2 x 3)]) [2, 0, 1, 3] 4 rfl rfl (by decide)).flatten
    | 3, _ => (blk_perm2 (l2 := [wX3 g (a 8 3) (a (30 + 3)) (va_up t 3 x 3), wX3 g (a 8 0) (a (30 + 0)) (va_up t 3 x 0), wX3 g (a 8 1) (a (30 + 1)) (va_up t 3 x 1), wX3 g (a 8 2) (a (30 + 2)) (va_up t 3 x 2)]) [3, 0, 1, 2] 4 rfl rfl (by decide)).flatten
    | i + 4, h => absurd h (by omega))
theorem S_focus {g : GT} {a : Nat → Nat → Nat} {i : Nat} (h : i < 4) {t : Nat → MS} : (wSs g a t).Perm (wX3 g (a 8 i) (a (30 + i)) (t i) ++ wSsR g a t i) := by
  have h2 := S_focus2 (g := g) (a := a) h t (t i)
  rwa [show va_up t i (t i) = t from funext fun j => by by_cases e : j = i <;> simp [va_up, e]] at h2
theorem T_get {g : GT} {a : Nat → Nat → Nat} {t : Nat → MS} {i : Nat} (h : i < 6) : (wTs g a t)[4 * i]? = some (a 7 i, .inr (5, [.ref (a (20 + i) 0), .ref (a (20 + i) 1), .ref (a (20 + i) 2), .int ((t i).1 3)])) := match i, h with
  | 0, _ => rfl
  | 1, _ => rfl
  | 2, _ => rfl
  | 3, _ => rfl
  | 4, _ => rfl
  | 5, _ => rfl
  | i + 6, h => absurd h (by omega)
theorem S_get {g : GT} {a : Nat → Nat → Nat} {t : Nat → MS} {i : Nat} (h : i < 4) : (wSs g a t)[2 * i]? = some (a 8 i, .inr (3, [.int ((t i).1 0), .int ((t i).1 1), .ref (a (30 + i) 2)])) := match i, h with
  | 0, _ => rfl
  | 1, _ => rfl
  | 2, _ => rfl
  | 3, _ => rfl
  | i + 4, h => absurd h (by omega)
theorem S_get1 {g : GT} {a : Nat → Nat → Nat} {t : Nat → MS} {i : Nat} (h : i < 4) : (wSs g a t)[2 * i + 1]? = some (a (30 + i) 2, .inl (g.2.1 0, 40, .inl ((t i).2 2))) := match i, h with
  | 0, _ => rfl
  | 1, _ => rfl
  | 2, _ => rfl
  | 3, _ => rfl
  | i + 4, h => absurd h (by omega)
theorem S_set1 {g : GT} {a : Nat → Nat → Nat} {t : Nat → MS} {i : Nat} (h : i < 4) (x : Nat → Int32) : wSs g a (va_up t i (ar (t i) 2 x)) = (wSs g a t).set (2 * i + 1) (a (30 + i) 2, .inl (g.2.1 0, 40, .inl x)) := match i, h with
  | 0, _ => rfl
  | 1, _ => rfl
  | 2, _ => rfl
  | 3, _ => rfl
  | i + 4, h => absurd h (by omega)
theorem Y_get {g : GT} {a : Nat → Nat → Nat} {nw : Nat} {s : MS} {i : Nat} (h : i < nw) : (wYs g a nw s)[i]? = some (a 4 i, .inr (6, [.int (s.2 0 i), .int (s.2 1 i), .int (s.2 2 i)])) := by
  unfold wYs
  rw [List.getElem?_map, List.getElem?_range h]
  rfl
theorem Y_focus {g : GT} {a : Nat → Nat → Nat} {nw : Nat} {s : MS} {i : Nat} (h : i < nw) : (wYs g a nw s).Perm (wX6 g (a 4 i) (a 6) (wy s i) ++ (wYs g a nw s).eraseIdx i) := erase_perm _ _ _ (Y_get h)
def wC (g : GT) (o : Nat) (a : Nat → Nat → Nat) (nw : Nat) (c : CS) : List va_W := [wX7 g o a nw c.1, wX2 g (a 0 0) (a 1) c.2.1, wX2 g (a 0 1) (a 2) c.2.2.1, wX0 g (a 0 3) (a 3) c.2.2.2.1, wYs g a nw c.2.2.2.2.1, wX6 g (a 0 6) (a 6) c.2.2.2.2.2.1, wX4 g (a 0 7) (a 9) c.2.2.2.2.2.2.1, wTs g a c.2.2.2.2.2.2.2.1, wSs g a c.2.2.2.2.2.2.2.2.1, wX1 g (a 0 11) (a 5) c.2.2.2.2.2.2.2.2.2.1, wF g (a 5 3) 6 c.2.2.2.2.2.2.2.2.2.2]
theorem focus_perm {b x y : va_W} : ∀ {bs : List va_W} (j : Nat), bs[j]? = some b → b.Perm (x ++ y) → bs.flatten.Perm (bs.take j ++ x :: y :: bs.drop (j + 1)).flatten
  | [], _, h, _ => by simp at h
  | b0 :: bs, 0, h, hp => by
    simp at h
    subst h
    show (b0 ++ bs.flatten).Perm (x ++ (y ++ bs.flatten))
    rw [← List.append_assoc]
    exact hp.append_right _
  | b0 :: bs, j + 1, h, hp => by
    simp at h
    exact (focus_perm (bs := bs) j h hp).append_left b0
def oc {X ρ : Type} (q : Option X) (A : Option ρ) (B : X → Option ρ) : Option ρ := match q with
  | none => A
  | some w => B w
theorem oc_n {X ρ : Type} {A : Option ρ} {B : X → Option ρ} {r : ρ} (h : oc none A B = some r) : A = some r := h
theorem oc_s {X ρ : Type} {w : X} {A : Option ρ} {B : X → Option ρ} {r : ρ} (h : oc (some w) A B = some r) : B w = some r := h
theorem inX7 : ∀ w ∈ wsX70, w ∈ TW := TW_all _ [462, 464, 466, 468, 470, 472, 474, 476, 478, 480, 482, 484] (by decide +kernel) (by decide +kernel)
section R7
variable {p : Program} {l : Launch} {e : Env} {R : Room} {s : State} {m : MethodId} {args : Array Value} {below : List Frame} {meth : Method} {c : Code} {H : Heap} {locs : List Loc} {cells slots : Nat} {Q : State → Prop}
variable {g : GT} {cc : ByteArray} {nL pc : Nat} {own : String} {ret : Option FieldType} {A : Nat → Prop} {ls : Array Slot} {rest : List Value} {bs bs' : List va_W}
theorem G_7_10 (X : FX g p s m args meth c cc nL RX7 ret A) {H0 : Heap} (hG : GM g A H0 H locs bs) (j : Nat) {o nw : Nat} {a : Nat → Nat → Nat} {st : MS} (hj : bs[j]? = some (wX7 g o a nw st)) (hdg : decode cc pc = .ok (.getfield 10, 3)) (kk : W p l e R s m args below meth c H locs cells slots Q (F0 m (pc + 3) ls (.ref (a 0 0) :: rest))) : W p l e R s m args below meth c H locs cells slots Q (F0 m pc ls (.ref o :: rest)) := r_get X hG j 0 hj rfl rfl 0 (by decide) inX7 (TW_at 450 (by decide +kernel) (by decide +kernel)) rfl hdg kk
theorem G_7_16 (X : FX g p s m args meth c cc nL RX7 ret A) {H0 : Heap} (hG : GM g A H0 H locs bs) (j : Nat) {o nw : Nat} {a : Nat → Nat → Nat} {st : MS} (hj : bs[j]? = some (wX7 g o a nw st)) (hdg : decode cc pc = .ok (.getfield 16, 3)) (kk : W p l e R s m args below meth c H locs cells slots Q (F0 m (pc + 3) ls (.ref (a 0 1) :: rest))) : W p l e R s m args below meth c H locs cells slots Q (F0 m pc ls (.ref o :: rest)) := r_get X hG j 0 hj rfl rfl 1 (by decide) inX7 (TW_at 451 (by decide +kernel) (by decide +kernel)) rfl hdg kk
theorem G_7_19 (X : FX g p s m args meth c cc nL RX7 ret A) {H0 : Heap} (hG : GM g A H0 H locs bs) (j : Nat) {o nw : Nat} {a : Nat → Nat → Nat} {st : MS} (hj : bs[j]? = some (wX7 g o a nw st)) (hdg : decode cc pc = .ok (.getfield 19, 3)) (kk : W p l e R s m args below meth c H locs cells slots Q (F0 m (pc + 3) ls (.int (st.1 2) :: rest))) : W p l e R s m args below meth c H locs cells slots Q (F0 m pc ls (.ref o :: rest)) := r_get X hG j 0 hj rfl rfl 2 (by decide) inX7 (TW_at 452 (by decide +kernel) (by decide +kernel)) rfl hdg kk
theorem G_7_26 (X : FX g p s m args meth c cc nL RX7 ret A) {H0 : Heap} (hG : GM g A H0 H locs bs) (j : Nat) {o nw : Nat} {a : Nat → Nat → Nat} {st : MS} (hj : bs[j]? = some (wX7 g o a nw st)) (hdg : decode cc pc = .ok (.getfield 26, 3)) (kk : W p l e R s m args below meth c H locs cells slots Q (F0 m (pc + 3) ls (.ref (a 0 3) :: rest))) : W p l e R s m args below meth c H locs cells slots Q (F0 m pc ls (.ref o :: rest)) := r_get X hG j 0 hj rfl rfl 3 (by decide) inX7 (TW_at 453 (by decide +kernel) (by decide +kernel)) rfl hdg kk
theorem G_7_32 (X : FX g p s m args meth c cc nL RX7 ret A) {H0 : Heap} (hG : GM g A H0 H locs bs) (j : Nat) {o nw : Nat} {a : Nat → Nat → Nat} {st : MS} (hj : bs[j]? = some (wX7 g o a nw st)) (hdg : decode cc pc = .ok (.getfield 32, 3)) (kk : W p l e R s m args below meth c H locs cells slots Q (F0 m (pc + 3) ls (.ref (a 0 4) :: rest))) : W p l e R s m args below meth c H locs cells slots Q (F0 m pc ls (.ref o :: rest)) := r_get X hG j 0 hj rfl rfl 4 (by decide) inX7 (TW_at 454 (by decide +kernel) (by decide +kernel)) rfl hdg kk
theorem G_7_36 (X : FX g p s m args meth c cc nL RX7 ret A) {H0 : Heap} (hG : GM g A H0 H locs bs) (j : Nat) {o nw : Nat} {a : Nat → Nat → Nat} {st : MS} (hj : bs[j]? = some (wX7 g o a nw st)) (hdg : decode cc pc = .ok (.getfield 36, 3)) (kk : W p l e R s m args below meth c H locs cells slots Q (F0 m (pc + 3) ls (.int (st.1 5) :: rest))) : W p l e R s m args below meth c H locs cells slots Q (F0 m pc ls (.ref o :: rest)) := r_get X hG j 0 hj rfl rfl 5 (by decide) inX7 (TW_at 455 (by decide +kernel) (by decide +kernel)) rfl hdg kk
theorem G_7_43 (X : FX g p s m args meth c cc nL RX7 ret A) {H0 : Heap} (hG : GM g A H0 H locs bs) (j : Nat) {o nw : Nat} {a : Nat → Nat → Nat} {st : MS} (hj : bs[j]? = some (wX7 g o a nw st)) (hdg : decode cc pc = .ok (.getfield 43, 3)) (kk : W p l e R s m args below meth c H locs cells slots Q (F0 m (pc + 3) ls (.ref (a 0 6) :: rest))) : W p l e R s m args below meth c H locs cells slots Q (F0 m pc ls (.ref o :: rest)) := r_get X hG j 0 hj rfl rfl 6 (by decide) inX7 (TW_at 456 (by decide +kernel) (by decide +kernel)) rfl hdg kk
theorem G_7_50 (X : FX g p s m args meth c cc nL RX7 ret A) {H0 : Heap} (hG : GM g A H0 H locs bs) (j : Nat) {o nw : Nat} {a : Nat → Nat → Nat} {st : MS} (hj : bs[j]? = some (wX7 g o a nw st)) (hdg : decode cc pc = .ok (.getfield 50, 3)) (kk : W p l e R s m args below meth c H locs cells slots Q (F0 m (pc + 3) ls (.ref (a 0 7) :: rest))) : W p l e R s m args below meth c H locs cells slots Q (F0 m pc ls (.ref o :: rest)) := r_get X hG j 0 hj rfl rfl 7 (by decide) inX7 (TW_at 457 (by decide +kernel) (by decide +kernel)) rfl hdg kk
theorem G_7_56 (X : FX g p s m args meth c cc nL RX7 ret A) {H0 : Heap} (hG : GM g A H0 H locs bs) (j : Nat) {o nw : Nat} {a : Nat → Nat → Nat} {st : MS} (hj : bs[j]? = some (wX7 g o a nw st)) (hdg : decode cc pc = .ok (.getfield 56, 3)) (kk : W p l e R s m args below meth c H locs cells slots Q (F0 m (pc + 3) ls (.ref (a 0 8) :: rest))) : W p l e R s m args below meth c H locs cells slots Q (F0 m pc ls (.ref o :: rest)) := r_get X hG j 0 hj rfl rfl 8 (by decide) inX7 (TW_at 458 (by decide +kernel) (by decide +kernel)) rfl hdg kk
theorem G_7_60 (X : FX g p s m args meth c cc nL RX7 ret A) {H0 : Heap} (hG : GM g A H0 H locs bs) (j : Nat) {o nw : Nat} {a : Nat → Nat → Nat} {st : MS} (hj : bs[j]? = some (wX7 g o a nw st)) (hdg : decode cc pc = .ok (.getfield 60, 3)) (kk : W p l e R s m args below meth c H locs cells slots Q (F0 m (pc + 3) ls (.int (st.1 9) :: rest))) : W p l e R s m args below meth c H locs cells slots Q (F0 m pc ls (.ref o :: rest)) := r_get X hG j 0 hj rfl rfl 9 (by decide) inX7 (TW_at 459 (by decide +kernel) (by decide +kernel)) rfl hdg kk
theorem G_7_65 (X : FX g p s m args meth c cc nL RX7 ret A) {H0 : Heap} (hG : GM g A H0 H locs bs) (j : Nat) {o nw : Nat} {a : Nat → Nat → Nat} {st : MS} (hj : bs[j]? = some (wX7 g o a nw st)) (hdg : decode cc pc = .ok (.getfield 65, 3)) (kk : W p l e R s m args below meth c H locs cells slots Q (F0 m (pc + 3) ls (.ref (a 0 10) :: rest))) : W p l e R s m args below meth c H locs cells slots Q (F0 m pc ls (.ref o :: rest)) := r_get X hG j 0 hj rfl rfl 10 (by decide) inX7 (TW_at 460 (by decide +kernel) (by decide +kernel)) rfl hdg kk
theorem G_7_72 (X : FX g p s m args meth c cc nL RX7 ret A) {H0 : Heap} (hG : GM g A H0 H locs bs) (j : Nat) {o nw : Nat} {a : Nat → Nat → Nat} {st : MS} (hj : bs[j]? = some (wX7 g o a nw st)) (hdg : decode cc pc = .ok (.getfield 72, 3)) (kk : W p l e R s m args below meth c H locs cells slots Q (F0 m (pc + 3) ls (.ref (a 0 11) :: rest))) : W p l e R s m args below meth c H locs cells slots Q (F0 m pc ls (.ref o :: rest)) := r_get X hG j 0 hj rfl rfl 11 (by decide) inX7 (TW_at 461 (by decide +kernel) (by decide +kernel)) rfl hdg kk
theorem P_7_19 {ρ : Type} {r : ρ} (X : FX g p s m args meth c cc nL RX7 ret A) {H0 : Heap} (hG : GM g A H0 H locs bs) (j : Nat) {o nw : Nat} {a : Nat → Nat → Nat} {st : MS} (hj : bs[j]? = some (wX7 g o a nw st)) {x : Int32} {K : MS → Option ρ} (hf : bn (sp st 2 x) K = some r) (w : MS → List va_W) (hw : ∀ t, bs.set j (wX7 g o a nw t) = w t) (hz : x = 0 ∨ x = 1) (hdg : decode cc pc = .ok (.putfield 19, 3)) (kk : ∀ (t : MS) (H1 : Heap) (locs1 : List Loc), K t = some r → GM g A H0 H1 locs1 (w t) → W p l e R s m args below meth c H1 locs1 cells slots Q (F0 m (pc + 3) ls rest)) : W p l e R s m args below meth c H locs cells slots Q (F0 m pc ls (.int x :: .ref o :: rest)) := r_put X hG j 0 hj rfl rfl 2 (by decide) inX7 tyX7 tyX7_ok nmX7 (TW_at 452 (by decide +kernel) (by decide +kernel)) rfl (ty := .boolean) rfl (by rcases hz with rfl | rfl <;> decide) (by rcases hz with rfl | rfl <;> decide) (Nat.le_of_ble_eq_true rfl) hdg (fun H1 locs1 h => kk _ H1 locs1 hf (by rw [← hw]; exact h))
theorem P_7_60 {ρ : Type} {r : ρ} (X : FX g p s m args meth c cc nL RX7 ret A) {H0 : Heap} (hG : GM g A H0 H locs bs) (j : Nat) {o nw : Nat} {a : Nat → Nat → Nat} {st : MS} (hj : bs[j]? = some (wX7 g o a nw st)) {x : Int32} {K : MS → Option ρ} (hf : bn (sp st 9 x) K = some r) (w : MS → List va_W) (hw : ∀ t, bs.set j (wX7 g o a nw t) = w t) (hdg : decode cc pc = .ok (.putfield 60, 3)) (kk : ∀ (t : MS) (H1 : Heap) (locs1 : List Loc), K t = some r → GM g A H0 H1 locs1 (w t) → W p l e R s m args below meth c H1 locs1 cells slots Q (F0 m (pc + 3) ls rest)) : W p l e R s m args below meth c H locs cells slots Q (F0 m pc ls (.int x :: .ref o :: rest)) := r_put X hG j 0 hj rfl rfl 9 (by decide) inX7 tyX7 tyX7_ok nmX7 (TW_at 459 (by decide +kernel) (by decide +kernel)) rfl (ty := .int) rfl rfl rfl (Nat.le_of_ble_eq_true rfl) hdg (fun H1 locs1 h => kk _ H1 locs1 hf (by rw [← hw]; exact h))
end R7
section RL
variable {p : Program} {l : Launch} {e : Env} {R : Room} {s : State} {m : MethodId} {args : Array Value} {below : List Frame} {meth : Method} {c : Code} {H : Heap} {locs : List Loc} {cells slots : Nat} {Q : State → Prop}
variable {g : GT} {cc : ByteArray} {nL pc : Nat} {own : String} {ret : Option FieldType} {A : Nat → Prop} {ls : Array Slot} {rest : List Value} {bs bs' : List va_W}
theorem G_7_122 (X : FX g p s m args meth c cc nL RX7 ret A) {H0 : Heap} (hG : GM g A H0 H locs bs) (j : Nat) {o : Nat} {ad : Nat → Nat} {st : MS} (hj : bs[j]? = some (wX2 g o ad st)) (hdg : decode cc pc = .ok (.getfield 122, 3)) (kk : W p l e R s m args below meth c H locs cells slots Q (F0 m (pc + 3) ls (.int (st.1 6) :: rest))) : W p l e R s m args below meth c H locs cells slots Q (F0 m pc ls (.ref o :: rest)) := r_get X hG j 0 hj rfl rfl 6 (by decide) inX2 (TW_at 108 (by decide +kernel) (by decide +kernel)) rfl hdg kk
theorem G_7_146 (X : FX g p s m args meth c cc nL RX7 ret A) {H0 : Heap} (hG : GM g A H0 H locs bs) (j : Nat) {o : Nat} {ad : Nat → Nat} {st : MS} (hj : bs[j]? = some (wX6 g o ad st)) (hdg : decode cc pc = .ok (.getfield 146, 3)) (kk : W p l e R s m args below meth c H locs cells slots Q (F0 m (pc + 3) ls (.int (st.1 1) :: rest))) : W p l e R s m args below meth c H locs cells slots Q (F0 m pc ls (.ref o :: rest)) := r_get X hG j 0 hj rfl rfl 1 (by decide) inX6 (TW_at 167 (by decide +kernel) (by decide +kernel)) rfl hdg kk
theorem G_7_158 (X : FX g p s m args meth c cc nL RX7 ret A) {H0 : Heap} (hG : GM g A H0 H locs bs) (j : Nat) {o : Nat} {ad : Nat → Nat} {st : MS} (hj : bs[j]? = some (wX4 g o ad st)) (hdg : decode cc pc = .ok (.getfield 158, 3)) (kk : W p l e R s m args below meth c H locs cells slots Q (F0 m (pc + 3) ls (.int (st.1 1) :: rest))) : W p l e R s m args below meth c H locs cells slots Q (F0 m pc ls (.ref o :: rest)) := r_get X hG j 0 hj rfl rfl 1 (by decide) inX4 (TW_at 185 (by decide +kernel) (by decide +kernel)) rfl hdg kk
theorem G_7_164 (X : FX g p s m args meth c cc nL RX7 ret A) {H0 : Heap} (hG : GM g A H0 H locs bs) (j : Nat) {o : Nat} {ad : Nat → Nat} {st : MS} (hj : bs[j]? = some (wX2 g o ad st)) (hdg : decode cc pc = .ok (.getfield 164, 3)) (kk : W p l e R s m args below meth c H locs cells slots Q (F0 m (pc + 3) ls (.int (st.1 9) :: rest))) : W p l e R s m args below meth c H locs cells slots Q (F0 m pc ls (.ref o :: rest)) := r_get X hG j 0 hj rfl rfl 9 (by decide) inX2 (TW_at 114 (by decide +kernel) (by decide +kernel)) rfl hdg kk
theorem G_7_184 (X : FX g p s m args meth c cc nL RX7 ret A) {H0 : Heap} (hG : GM g A H0 H locs bs) (j : Nat) {o : Nat} {ad : Nat → Nat} {st : MS} (hj : bs[j]? = some (wX0 g o ad st)) (hdg : decode cc pc = .ok (.getfield 184, 3)) (kk : W p l e R s m args below meth c H locs cells slots Q (F0 m (pc + 3) ls (.int (st.1 0) :: rest))) : W p l e R s m args below meth c H locs cells slots Q (F0 m pc ls (.ref o :: rest)) := r_get X hG j 0 hj rfl rfl 0 (by decide) inX0 (TW_at 144 (by decide +kernel) (by decide +kernel)) rfl hdg kk
theorem G_7_189 (X : FX g p s m args meth c cc nL RX7 ret A) {H0 : Heap} (hG : GM g A H0 H locs bs) (j : Nat) {o : Nat} {ad : Nat → Nat} {st : MS} (hj : bs[j]? = some (wX1 g o ad st)) (hdg : decode cc pc = .ok (.getfield 189, 3)) (kk : W p l e R s m args below meth c H locs cells slots Q (F0 m (pc + 3) ls (.ref (ad 10) :: rest))) : W p l e R s m args below meth c H locs cells slots Q (F0 m pc ls (.ref o :: rest)) := r_get X hG j 0 hj rfl rfl 10 (by decide) inX1 (TW_at 226 (by decide +kernel) (by decide +kernel)) rfl hdg kk
theorem G_7_193 (X : FX g p s m args meth c cc nL RX7 ret A) {H0 : Heap} (hG : GM g A H0 H locs bs) (j : Nat) {o : Nat} {ad : Nat → Nat} {st : MS} (hj : bs[j]? = some (wX1 g o ad st)) (hdg : decode cc pc = .ok (.getfield 193, 3)) (kk : W p l e R s m args below meth c H locs cells slots Q (F0 m (pc + 3) ls (.int (st.1 11) :: rest))) : W p l e R s m args below meth c H locs cells slots Q (F0 m pc ls (.ref o :: rest)) := r_get X hG j 0 hj rfl rfl 11 (by decide) inX1 (TW_at 228 (by decide +kernel) (by decide +kernel)) rfl hdg kk
theorem G_7_196 (X : FX g p s m args meth c cc nL RX7 ret A) {H0 : Heap} (hG : GM g A H0 H locs bs) (j : Nat) {o : Nat} {ad : Nat → Nat} {st : MS} (hj : bs[j]? = some (wX1 g o ad st)) (hdg : decode cc pc = .ok (.getfield 196, 3)) (kk : W p l e R s m args below meth c H locs cells slots Q (F0 m (pc + 3) ls (.int (st.1 12) :: rest))) : W p l e R s m args below meth c H locs cells slots Q (F0 m pc ls (.ref o :: rest)) := r_get X hG j 0 hj rfl rfl 12 (by decide) inX1 (TW_at 230 (by decide +kernel) (by decide +kernel)) rfl hdg kk
theorem G_7_216 (X : FX g p s m args meth c cc nL RX7 ret A) {H0 : Heap} (hG : GM g A H0 H locs bs) (j : Nat) {o : Nat} {ad : Nat → Nat} {st : MS} (hj : bs[j]? = some (wX2 g o ad st)) (hdg : decode cc pc = .ok (.getfield 216, 3)) (kk : W p l e R s m args below meth c H locs cells slots Q (F0 m (pc + 3) ls (.int (st.1 0) :: rest))) : W p l e R s m args below meth c H locs cells slots Q (F0 m pc ls (.ref o :: rest)) := r_get X hG j 0 hj rfl rfl 0 (by decide) inX2 (TW_at 94 (by decide +kernel) (by decide +kernel)) rfl hdg kk
theorem G_7_219 (X : FX g p s m args meth c cc nL RX7 ret A) {H0 : Heap} (hG : GM g A H0 H locs bs) (j : Nat) {o : Nat} {ad : Nat → Nat} {st : MS} (hj : bs[j]? = some (wX2 g o ad st)) (hdg : decode cc pc = .ok (.getfield 219, 3)) (kk : W p l e R s m args below meth c H locs cells slots Q (F0 m (pc + 3) ls (.ref (ad 2) :: rest))) : W p l e R s m args below meth c H locs cells slots Q (F0 m pc ls (.ref o :: rest)) := r_get X hG j 0 hj rfl rfl 2 (by decide) inX2 (TW_at 99 (by decide +kernel) (by decide +kernel)) rfl hdg kk
theorem P_7_122 {ρ : Type} {r : ρ} (X : FX g p s m args meth c cc nL RX7 ret A) {H0 : Heap} (hG : GM g A H0 H locs bs) (j : Nat) {o : Nat} {ad : Nat → Nat} {st : MS} (hj : bs[j]? = some (wX2 g o ad st)) {x : Int32} {K : MS → Option ρ} (hf : bn (sp st 6 x) K = some r) (w : MS → List va_W) (hw : ∀ t, bs.set j (wX2 g o ad t) = w t) (hdg : decode cc pc = .ok (.putfield 122, 3)) (kk : ∀ (t : MS) (H1 : Heap) (locs1 : List Loc), K t = some r → GM g A H0 H1 locs1 (w t) → W p l e R s m args below meth c H1 locs1 cells slots Q (F0 m (pc + 3) ls rest)) : W p l e R s m args below meth c H locs cells slots Q (F0 m pc ls (.int x :: .ref o :: rest)) := r_put X hG j 0 hj rfl rfl 6 (by decide) inX2 tyX2 tyX2_ok nmX2 (TW_at 108 (by decide +kernel) (by decide +kernel)) rfl (ty := .int) rfl rfl rfl (Nat.le_of_ble_eq_true rfl) hdg (fun H1 locs1 h => kk _ H1 locs1 hf (by rw [← hw]; exact h))
theorem P_7_133 {ρ : Type} {r : ρ} (X : FX g p s m args meth c cc nL RX7 ret A) {H0 : Heap} (hG : GM g A H0 H locs bs) (j : Nat) {o : Nat} {ad : Nat → Nat} {st : MS} (hj : bs[j]? = some (wX2 g o ad st)) {x : Int32} {K : MS → Option ρ} (hf : bn (sp st 7 x) K = some r) (w : MS → List va_W) (hw : ∀ t, bs.set j (wX2 g o ad t) = w t) (hdg : decode cc pc = .ok (.putfield 133, 3)) (kk : ∀ (t : MS) (H1 : Heap) (locs1 : List Loc), K t = some r → GM g A H0 H1 locs1 (w t) → W p l e R s m args below meth c H1 locs1 cells slots Q (F0 m (pc + 3) ls rest)) : W p l e R s m args below meth c H locs cells slots Q (F0 m pc ls (.int x :: .ref o :: rest)) := r_put X hG j 0 hj rfl rfl 7 (by decide) inX2 tyX2 tyX2_ok nmX2 (TW_at 110 (by decide +kernel) (by decide +kernel)) rfl (ty := .int) rfl rfl rfl (Nat.le_of_ble_eq_true rfl) hdg (fun H1 locs1 h => kk _ H1 locs1 hf (by rw [← hw]; exact h))
theorem P_7_136 {ρ : Type} {r : ρ} (X : FX g p s m args meth c cc nL RX7 ret A) {H0 : Heap} (hG : GM g A H0 H locs bs) (j : Nat) {o : Nat} {ad : Nat → Nat} {st : MS} (hj : bs[j]? = some (wX2 g o ad st)) {x : Int32} {K : MS → Option ρ} (hf : bn (sp st 8 x) K = some r) (w : MS → List va_W) (hw : ∀ t, bs.set j (wX2 g o ad t) = w t) (hdg : decode cc pc = .ok (.putfield 136, 3)) (kk : ∀ (t : MS) (H1 : Heap) (locs1 : List Loc), K t = some r → GM g A H0 H1 locs1 (w t) → W p l e R s m args below meth c H1 locs1 cells slots Q (F0 m (pc + 3) ls rest)) : W p l e R s m args below meth c H locs cells slots Q (F0 m pc ls (.int x :: .ref o :: rest)) := r_put X hG j 0 hj rfl rfl 8 (by decide) inX2 tyX2 tyX2_ok nmX2 (TW_at 112 (by decide +kernel) (by decide +kernel)) rfl (ty := .int) rfl rfl rfl (Nat.le_of_ble_eq_true rfl) hdg (fun H1 locs1 h => kk _ H1 locs1 hf (by rw [← hw]; exact h))
theorem P_7_164 {ρ : Type} {r : ρ} (X : FX g p s m args meth c cc nL RX7 ret A) {H0 : Heap} (hG : GM g A H0 H locs bs) (j : Nat) {o : Nat} {ad : Nat → Nat} {st : MS} (hj : bs[j]? = some (wX2 g o ad st)) {x : Int32} {K : MS → Option ρ} (hf : bn (sp st 9 x) K = some r) (w : MS → List va_W) (hw : ∀ t, bs.set j (wX2 g o ad t) = w t) (hdg : decode cc pc = .ok (.putfield 164, 3)) (kk : ∀ (t : MS) (H1 : Heap) (locs1 : List Loc), K t = some r → GM g A H0 H1 locs1 (w t) → W p l e R s m args below meth c H1 locs1 cells slots Q (F0 m (pc + 3) ls rest)) : W p l e R s m args below meth c H locs cells slots Q (F0 m pc ls (.int x :: .ref o :: rest)) := r_put X hG j 0 hj rfl rfl 9 (by decide) inX2 tyX2 tyX2_ok nmX2 (TW_at 114 (by decide +kernel) (by decide +kernel)) rfl (ty := .int) rfl rfl rfl (Nat.le_of_ble_eq_true rfl) hdg (fun H1 locs1 h => kk _ H1 locs1 hf (by rw [← hw]; exact h))
end RL
theorem kl_7_178 : Cond.constantLong RX7 178 (-4611686018427387904) ∈ TW := TW_at 673 (by decide +kernel) (by decide +kernel)
theorem lk_X0_add : LKC yX0_add cX0_add 4 (some .int) 3 := ⟨TW_at 513 (by decide +kernel) (by decide +kernel), TW_at 62 (by decide +kernel) (by decide +kernel), by decide +kernel, by decide +kernel, by decide +kernel⟩
theorem lk_X0_roomIn : LKC yX0_roomIn cX0_roomIn 4 (some .int) 1 := ⟨TW_at 724 (by decide +kernel) (by decide +kernel), TW_at 62 (by decide +kernel) (by decide +kernel), by decide +kernel, by decide +kernel, by decide +kernel⟩
theorem lk_X1_downBehind : LKC yX1_downBehind cX1_downBehind 6 (some .int) 3 := ⟨TW_at 695 (by decide +kernel) (by decide +kernel), TW_at 65 (by decide +kernel) (by decide +kernel), by decide +kernel, by decide +kernel, by decide +kernel⟩
theorem lk_X1_harmDone : LKC yX1_harmDone cX1_harmDone 6 (some .long) 2 := ⟨TW_at 677 (by decide +kernel) (by decide +kernel), TW_at 65 (by decide +kernel) (by decide +kernel), by decide +kernel, by decide +kernel, by decide +kernel⟩
theorem lk_X1_hearSheet : LKC yX1_hearSheet cX1_hearSheet 2 none 1 := ⟨TW_at 746 (by decide +kernel) (by decide +kernel), TW_at 65 (by decide +kernel) (by decide +kernel), by decide +kernel, by decide +kernel, by decide +kernel⟩
theorem lk_X1_hearWay : LKC yX1_hearWay cX1_hearWay 5 none 3 := ⟨TW_at 582 (by decide +kernel) (by decide +kernel), TW_at 65 (by decide +kernel) (by decide +kernel), by decide +kernel, by decide +kernel, by decide +kernel⟩
theorem lk_X1_run : LKC yX1_run cX1_run 6 none 4 := ⟨TW_at 592 (by decide +kernel) (by decide +kernel), TW_at 65 (by decide +kernel) (by decide +kernel), by decide +kernel, by decide +kernel, by decide +kernel⟩
theorem lk_X2_addSort : LKC yX2_addSort cX2_addSort 6 (some .int) 2 := ⟨TW_at 494 (by decide +kernel) (by decide +kernel), TW_at 60 (by decide +kernel) (by decide +kernel), by decide +kernel, by decide +kernel, by decide +kernel⟩
theorem lk_X2_rowOf : LKC yX2_rowOf cX2_rowOf 2 (some (.array .int)) 1 := ⟨TW_at 526 (by decide +kernel) (by decide +kernel), TW_at 60 (by decide +kernel) (by decide +kernel), by decide +kernel, by decide +kernel, by decide +kernel⟩
theorem lk_X2_sizeOf : LKC yX2_sizeOf cX2_sizeOf 2 (some .int) 1 := ⟨TW_at 530 (by decide +kernel) (by decide +kernel), TW_at 60 (by decide +kernel) (by decide +kernel), by decide +kernel, by decide +kernel, by decide +kernel⟩
theorem lk_X2_takeOver : LKC yX2_takeOver cX2_takeOver 2 none 1 := ⟨TW_at 757 (by decide +kernel) (by decide +kernel), TW_at 60 (by decide +kernel) (by decide +kernel), by decide +kernel, by decide +kernel, by decide +kernel⟩
theorem lk_X3_allBetween : LKC yX3_allBetween cX3_allBetween 4 (some .boolean) 2 := ⟨TW_at 741 (by decide +kernel) (by decide +kernel), TW_at 71 (by decide +kernel) (by decide +kernel), by decide +kernel, by decide +kernel, by decide +kernel⟩
theorem lk_X3_become : LKC yX3_become cX3_become 3 none 2 := ⟨TW_at 775 (by decide +kernel) (by decide +kernel), TW_at 71 (by decide +kernel) (by decide +kernel), by decide +kernel, by decide +kernel, by decide +kernel⟩
theorem lk_X3_has : LKC yX3_has cX3_has 2 (some .boolean) 1 := ⟨TW_at 784 (by decide +kernel) (by decide +kernel), TW_at 71 (by decide +kernel) (by decide +kernel), by decide +kernel, by decide +kernel, by decide +kernel⟩
theorem lk_X3_hasRow : LKC yX3_hasRow cX3_hasRow 3 (some .boolean) 2 := ⟨TW_at 796 (by decide +kernel) (by decide +kernel), TW_at 71 (by decide +kernel) (by decide +kernel), by decide +kernel, by decide +kernel, by decide +kernel⟩
theorem lk_X3_put : LKC yX3_put cX3_put 3 none 2 := ⟨TW_at 788 (by decide +kernel) (by decide +kernel), TW_at 71 (by decide +kernel) (by decide +kernel), by decide +kernel, by decide +kernel, by decide +kernel⟩
theorem lk_X4_append : LKC yX4_append cX4_append 2 none 1 := ⟨TW_at 331 (by decide +kernel) (by decide +kernel), TW_at 64 (by decide +kernel) (by decide +kernel), by decide +kernel, by decide +kernel, by decide +kernel⟩
theorem lk_X4_empty : LKC yX4_empty cX4_empty 1 none 0 := ⟨TW_at 562 (by decide +kernel) (by decide +kernel), TW_at 64 (by decide +kernel) (by decide +kernel), by decide +kernel, by decide +kernel, by decide +kernel⟩
theorem lk_X4_read : LKC yX4_read cX4_read 3 (some .int) 1 := ⟨TW_at 335 (by decide +kernel) (by decide +kernel), TW_at 64 (by decide +kernel) (by decide +kernel), by decide +kernel, by decide +kernel, by decide +kernel⟩
theorem lk_X6_isUnder : LKC yX6_isUnder cX6_isUnder 4 (some .boolean) 1 := ⟨TW_at 809 (by decide +kernel) (by decide +kernel), TW_at 63 (by decide +kernel) (by decide +kernel), by decide +kernel, by decide +kernel, by decide +kernel⟩
theorem lk_X7_isMinute : LKC yX7_isMinute cX7_isMinute 1 (some .boolean) 1 := ⟨TW_at 509 (by decide +kernel) (by decide +kernel), TW_at 59 (by decide +kernel) (by decide +kernel), by decide +kernel, by decide +kernel, by decide +kernel⟩
theorem lk_X7_isSheet : LKC yX7_isSheet cX7_isSheet 1 (some .boolean) 1 := ⟨TW_at 737 (by decide +kernel) (by decide +kernel), TW_at 59 (by decide +kernel) (by decide +kernel), by decide +kernel, by decide +kernel, by decide +kernel⟩
theorem lk_X7_isSortOrAll : LKC yX7_isSortOrAll cX7_isSortOrAll 2 (some .boolean) 1 := ⟨TW_at 574 (by decide +kernel) (by decide +kernel), TW_at 59 (by decide +kernel) (by decide +kernel), by decide +kernel, by decide +kernel, by decide +kernel⟩
theorem lk_X7_leftBy : LKC yX7_leftBy cX7_leftBy 4 (some .int) 3 := ⟨TW_at 707 (by decide +kernel) (by decide +kernel), TW_at 59 (by decide +kernel) (by decide +kernel), by decide +kernel, by decide +kernel, by decide +kernel⟩
theorem lk_X7_runDay : LKC yX7_runDay cX7_runDay 2 none 1 := ⟨TW_at 578 (by decide +kernel) (by decide +kernel), TW_at 59 (by decide +kernel) (by decide +kernel), by decide +kernel, by decide +kernel, by decide +kernel⟩
theorem lk_X7_wayAt : LKC yX7_wayAt cX7_wayAt 2 (some (.object "LastCar$Way")) 1 := ⟨TW_at 542 (by decide +kernel) (by decide +kernel), TW_at 59 (by decide +kernel) (by decide +kernel), by decide +kernel, by decide +kernel, by decide +kernel⟩
theorem ls_X7_isMinute : Cond.static yX7_isMinute ∈ TW := TW_at 508 (by decide +kernel) (by decide +kernel)
theorem ls_X7_isSheet : Cond.static yX7_isSheet ∈ TW := TW_at 736 (by decide +kernel) (by decide +kernel)
theorem lv_X0_add : LKV yX0_add RX0 := ⟨TW_at 511 (by decide +kernel) (by decide +kernel), TW_at 512 (by decide +kernel) (by decide +kernel)⟩
theorem lv_X0_roomIn : LKV yX0_roomIn RX0 := ⟨TW_at 722 (by decide +kernel) (by decide +kernel), TW_at 723 (by decide +kernel) (by decide +kernel)⟩
theorem lv_X1_downBehind : LKV yX1_downBehind RX1 := ⟨TW_at 693 (by decide +kernel) (by decide +kernel), TW_at 694 (by decide +kernel) (by decide +kernel)⟩
theorem lv_X1_harmDone : LKV yX1_harmDone RX1 := ⟨TW_at 675 (by decide +kernel) (by decide +kernel), TW_at 676 (by decide +kernel) (by decide +kernel)⟩
theorem lv_X1_hearSheet : LKV yX1_hearSheet RX1 := ⟨TW_at 744 (by decide +kernel) (by decide +kernel), TW_at 745 (by decide +kernel) (by decide +kernel)⟩
theorem lv_X1_hearWay : LKV yX1_hearWay RX1 := ⟨TW_at 580 (by decide +kernel) (by decide +kernel), TW_at 581 (by decide +kernel) (by decide +kernel)⟩
theorem lv_X1_run : LKV yX1_run RX1 := ⟨TW_at 590 (by decide +kernel) (by decide +kernel), TW_at 591 (by decide +kernel) (by decide +kernel)⟩
theorem lv_X2_addSort : LKV yX2_addSort RX2 := ⟨TW_at 492 (by decide +kernel) (by decide +kernel), TW_at 493 (by decide +kernel) (by decide +kernel)⟩
theorem lv_X2_rowOf : LKV yX2_rowOf RX2 := ⟨TW_at 524 (by decide +kernel) (by decide +kernel), TW_at 525 (by decide +kernel) (by decide +kernel)⟩
theorem lv_X2_sizeOf : LKV yX2_sizeOf RX2 := ⟨TW_at 528 (by decide +kernel) (by decide +kernel), TW_at 529 (by decide +kernel) (by decide +kernel)⟩
theorem lv_X2_takeOver : LKV yX2_takeOver RX2 := ⟨TW_at 755 (by decide +kernel) (by decide +kernel), TW_at 756 (by decide +kernel) (by decide +kernel)⟩
theorem lv_X3_allBetween : LKV yX3_allBetween RX3 := ⟨TW_at 739 (by decide +kernel) (by decide +kernel), TW_at 740 (by decide +kernel) (by decide +kernel)⟩
theorem lv_X3_become : LKV yX3_become RX3 := ⟨TW_at 773 (by decide +kernel) (by decide +kernel), TW_at 774 (by decide +kernel) (by decide +kernel)⟩
theorem lv_X3_has : LKV yX3_has RX3 := ⟨TW_at 782 (by decide +kernel) (by decide +kernel), TW_at 783 (by decide +kernel) (by decide +kernel)⟩
theorem lv_X3_hasRow : LKV yX3_hasRow RX3 := ⟨TW_at 794 (by decide +kernel) (by decide +kernel), TW_at 795 (by decide +kernel) (by decide +kernel)⟩
theorem lv_X3_put : LKV yX3_put RX3 := ⟨TW_at 786 (by decide +kernel) (by decide +kernel), TW_at 787 (by decide +kernel) (by decide +kernel)⟩
theorem lv_X4_append : LKV yX4_append RX4 := ⟨TW_at 329 (by decide +kernel) (by decide +kernel), TW_at 330 (by decide +kernel) (by decide +kernel)⟩
theorem lv_X4_empty : LKV yX4_empty RX4 := ⟨TW_at 560 (by decide +kernel) (by decide +kernel), TW_at 561 (by decide +kernel) (by decide +kernel)⟩
theorem lv_X4_read : LKV yX4_read RX4 := ⟨TW_at 333 (by decide +kernel) (by decide +kernel), TW_at 334 (by decide +kernel) (by decide +kernel)⟩
theorem lv_X6_isUnder : LKV yX6_isUnder RX6 := ⟨TW_at 807 (by decide +kernel) (by decide +kernel), TW_at 808 (by decide +kernel) (by decide +kernel)⟩
theorem lv_X7_isSortOrAll : LKV yX7_isSortOrAll RX7 := ⟨TW_at 573 (by decide +kernel) (by decide +kernel), TW_at 14 (by decide +kernel) (by decide +kernel)⟩
theorem lv_X7_leftBy : LKV yX7_leftBy RX7 := ⟨TW_at 706 (by decide +kernel) (by decide +kernel), TW_at 25 (by decide +kernel) (by decide +kernel)⟩
theorem lv_X7_runDay : LKV yX7_runDay RX7 := ⟨TW_at 577 (by decide +kernel) (by decide +kernel), TW_at 15 (by decide +kernel) (by decide +kernel)⟩
theorem lv_X7_wayAt : LKV yX7_wayAt RX7 := ⟨TW_at 541 (by decide +kernel) (by decide +kernel), TW_at 13 (by decide +kernel) (by decide +kernel)⟩
theorem ml_7_102 : Cond.methodLink RX7 102 yX2_addSort ∈ TW := TW_at 491 (by decide +kernel) (by decide +kernel)
theorem ml_7_110 : Cond.methodLink RX7 110 yX7_isMinute ∈ TW := TW_at 507 (by decide +kernel) (by decide +kernel)
theorem ml_7_114 : Cond.methodLink RX7 114 yX0_add ∈ TW := TW_at 510 (by decide +kernel) (by decide +kernel)
theorem ml_7_118 : Cond.methodLink RX7 118 yX7_fits ∈ TW := TW_at 522 (by decide +kernel) (by decide +kernel)
theorem ml_7_125 : Cond.methodLink RX7 125 yX2_rowOf ∈ TW := TW_at 523 (by decide +kernel) (by decide +kernel)
theorem ml_7_129 : Cond.methodLink RX7 129 yX2_sizeOf ∈ TW := TW_at 527 (by decide +kernel) (by decide +kernel)
theorem ml_7_139 : Cond.methodLink RX7 139 yX7_wayAt ∈ TW := TW_at 539 (by decide +kernel) (by decide +kernel)
theorem ml_7_152 : Cond.methodLink RX7 152 yX6_callsIn ∈ TW := TW_at 543 (by decide +kernel) (by decide +kernel)
theorem ml_7_155 : Cond.methodLink RX7 155 yX6_asksIn ∈ TW := TW_at 547 (by decide +kernel) (by decide +kernel)
theorem ml_7_161 : Cond.methodLink RX7 161 yX4_empty ∈ TW := TW_at 559 (by decide +kernel) (by decide +kernel)
theorem ml_7_167 : Cond.methodLink RX7 167 yX7_isSortOrAll ∈ TW := TW_at 571 (by decide +kernel) (by decide +kernel)
theorem ml_7_170 : Cond.methodLink RX7 170 yX7_runDay ∈ TW := TW_at 575 (by decide +kernel) (by decide +kernel)
theorem ml_7_174 : Cond.methodLink RX7 174 yX1_leftOf ∈ TW := TW_at 657 (by decide +kernel) (by decide +kernel)
theorem ml_7_180 : Cond.methodLink RX7 180 yX1_harmDone ∈ TW := TW_at 674 (by decide +kernel) (by decide +kernel)
theorem ml_7_185 : Cond.methodLink RX7 185 yX1_rodeInAll ∈ TW := TW_at 683 (by decide +kernel) (by decide +kernel)
theorem ml_7_199 : Cond.methodLink RX7 199 yX1_downBehind ∈ TW := TW_at 692 (by decide +kernel) (by decide +kernel)
theorem ml_7_203 : Cond.methodLink RX7 203 yX7_leftBy ∈ TW := TW_at 704 (by decide +kernel) (by decide +kernel)
theorem ml_7_207 : Cond.methodLink RX7 207 yX2_isShutIn ∈ TW := TW_at 720 (by decide +kernel) (by decide +kernel)
theorem ml_7_210 : Cond.methodLink RX7 210 yX0_roomIn ∈ TW := TW_at 721 (by decide +kernel) (by decide +kernel)
theorem ml_7_213 : Cond.methodLink RX7 213 yX2_allUp ∈ TW := TW_at 726 (by decide +kernel) (by decide +kernel)
theorem ml_7_222 : Cond.methodLink RX7 222 yX7_isSheet ∈ TW := TW_at 735 (by decide +kernel) (by decide +kernel)
theorem ml_7_228 : Cond.methodLink RX7 228 yX3_allBetween ∈ TW := TW_at 738 (by decide +kernel) (by decide +kernel)
theorem ml_7_231 : Cond.methodLink RX7 231 yX1_hearWay ∈ TW := TW_at 579 (by decide +kernel) (by decide +kernel)
theorem ml_7_235 : Cond.methodLink RX7 235 yX1_hearSheet ∈ TW := TW_at 743 (by decide +kernel) (by decide +kernel)
theorem ml_7_239 : Cond.methodLink RX7 239 yX1_run ∈ TW := TW_at 589 (by decide +kernel) (by decide +kernel)
theorem ml_7_243 : Cond.methodLink RX7 243 yX2_takeOver ∈ TW := TW_at 754 (by decide +kernel) (by decide +kernel)
theorem ml_7_247 : Cond.methodLink RX7 247 yX3_become ∈ TW := TW_at 772 (by decide +kernel) (by decide +kernel)
theorem ml_7_251 : Cond.methodLink RX7 251 yX3_has ∈ TW := TW_at 781 (by decide +kernel) (by decide +kernel)
theorem ml_7_254 : Cond.methodLink RX7 254 yX3_put ∈ TW := TW_at 785 (by decide +kernel) (by decide +kernel)
theorem ml_7_257 : Cond.methodLink RX7 257 yX3_hasRow ∈ TW := TW_at 793 (by decide +kernel) (by decide +kernel)
theorem ml_7_269 : Cond.methodLink RX7 269 yX6_isUnder ∈ TW := TW_at 806 (by decide +kernel) (by decide +kernel)
theorem ml_7_94 : Cond.methodLink RX7 94 yX4_append ∈ TW := TW_at 328 (by decide +kernel) (by decide +kernel)
theorem ml_7_98 : Cond.methodLink RX7 98 yX4_read ∈ TW := TW_at 332 (by decide +kernel) (by decide +kernel)
