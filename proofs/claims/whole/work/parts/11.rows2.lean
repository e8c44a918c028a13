-- ROWS of the class's side: static arrays, Math, arraycopy, fill, rows of rows, references that may be null, texts
def mmax (x y : Int32) : Int32 := if x < y then y else x
def mmin (x y : Int32) : Int32 := if y < x then y else x
def ct_least (j : Nat) : Int32 := match j with | 0 => 0 | 1 => 0 | 2 => 1 | 3 => 0 | 4 => 0 | _ => 1
def ct_most (j : Nat) : Int32 := match j with | 0 => 400 | 1 => 40 | 2 => 60 | 3 => 9 | 4 => 9 | _ => 120
def ct_under (j : Nat) : Int32 := match j with | 0 => -1 | 1 => 0 | 2 => 0 | 3 => 1 | 4 => 2 | _ => 3
/-- a whole row becomes h -/
def ar (s : MS) (k : Nat) (h : Nat → Int32) : MS := (s.1, va_up s.2 k h)
def filln (n : Nat) (v : Int32) (f : Nat → Int32) : Nat → Int32 := fun j => if j < n then v else f j
def cpk (sp : Int32) (n0 : Nat) (dp : Int32) (n1 : Nat) (n : Int32) : Bool := decide (¬ sp < 0 ∧ ¬ dp < 0 ∧ ¬ n < 0 ∧ sp.toNatClampNeg + n.toNatClampNeg ≤ n0 ∧ dp.toNatClampNeg + n.toNatClampNeg ≤ n1)
/-- a row alone -/
def wF (g : GT) (a k : Nat) (s : MS) : va_W := [(a, .inl (g.2.1 0, k, .inl (s.2 0)))]
/-- a row out of a state, alone -/
def row1 (s : MS) (k : Nat) : MS := (s.1, fun _ => s.2 k)
section RW3
variable {p : Program} {l : Launch} {e : Env} {R : Room} {s : State} {m : MethodId} {args : Array Value} {below : List Frame} {meth : Method} {c : Code} {H : Heap} {locs : List Loc} {cells slots : Nat} {Q : State → Prop}
variable {g : GT} {cc : ByteArray} {nL pc : Nat} {own : String} {ret : Option FieldType} {A : Nat → Prop} {ls : Array Slot} {rest : List Value} {bs bs' : List va_W}
theorem r_mmax {idx : Nat} {x y : Int32} (X : FX g p s m args meth c cc nL own ret A) (hsz : ls.size = nL) (hl : Cond.methodLink own idx Lib.Math.max.name ∈ TW) (h2 : Cond.static Lib.Math.max.name ∈ TW) (h3 : Cond.initialized "java/lang/Math" ∈ TW) (h4 : Cond.code Lib.Math.max.name Lib.Math.max.code 2 (some .int) ∈ TW) (hf : 1 ≤ R.frames) (hlo : (rest.map fun v => v.category).sum + 13 ≤ R.locals) (hcs : cells ≤ R.cells ∧ slots ≤ R.slots) (hdg : decode cc pc = .ok (.invokestatic idx, 3))
    (kk : W p l e R s m args below meth c H locs cells slots Q (F0 m (pc + 3) ls (.int (mmax x y) :: rest))) : W p l e R s m args below meth c H locs cells slots Q (F0 m pc ls (.int y :: .int x :: rest)) :=
  va_mmax X.1 X.2.1 (X.2.2.1.trans hsz.symm) X.2.2.2.1 (X.2.2.2.2.1 _ hl) (X.2.2.2.2.1 _ h2) (X.2.2.2.2.1 _ h3) (X.2.2.2.2.1 _ h4) hf hlo hcs.1 hcs.2 hdg kk
theorem r_mmin {idx : Nat} {x y : Int32} (X : FX g p s m args meth c cc nL own ret A) (hsz : ls.size = nL) (hl : Cond.methodLink own idx Lib.Math.min.name ∈ TW) (h2 : Cond.static Lib.Math.min.name ∈ TW) (h3 : Cond.initialized "java/lang/Math" ∈ TW) (h4 : Cond.code Lib.Math.min.name Lib.Math.min.code 2 (some .int) ∈ TW) (hf : 1 ≤ R.frames) (hlo : (rest.map fun v => v.category).sum + 13 ≤ R.locals) (hcs : cells ≤ R.cells ∧ slots ≤ R.slots) (hdg : decode cc pc = .ok (.invokestatic idx, 3))
    (kk : W p l e R s m args below meth c H locs cells slots Q (F0 m (pc + 3) ls (.int (mmin x y) :: rest))) : W p l e R s m args below meth c H locs cells slots Q (F0 m pc ls (.int y :: .int x :: rest)) :=
  va_mmin X.1 X.2.1 (X.2.2.1.trans hsz.symm) X.2.2.2.1 (X.2.2.2.2.1 _ hl) (X.2.2.2.2.1 _ h2) (X.2.2.2.2.1 _ h3) (X.2.2.2.2.1 _ h4) hf hlo hcs.1 hcs.2 hdg kk
theorem r_alen (X : FX g p s m args meth c cc nL own ret A) {H0 : Heap} (hG : GM g A H0 H locs bs) (j k : Nat) {b : va_W} (hj : bs[j]? = some b) {a : Nat} {x : vp_A} (hk : b[k]? = some (a, .inl (g.2.1 0, x))) (hdg : decode cc pc = .ok (.arraylength, 1))
    (kk : W p l e R s m args below meth c H locs cells slots Q (F0 m (pc + 1) ls (.int (nI x.1) :: rest))) : W p l e R s m args below meth c H locs cells slots Q (F0 m pc ls (.ref a :: rest)) := by
  obtain ⟨i, hi, -⟩ := blk_set hj hk
  exact va_alen (D := g.1) X.1 X.2.1 X.2.2.2.2.2.1.1 hG.1 i 0 hi rfl rfl hdg kk
/-- reading a row of a row of rows -/
theorem r_aald2 {ρ : Type} {r : ρ} (X : FX g p s m args meth c cc nL own ret A) {H0 : Heap} (hG : GM g A H0 H locs bs) (j k : Nat) {b : va_W} (hj : bs[j]? = some b) {a n : Nat} {f : Nat → Option Nat} (hk : b[k]? = some (a, .inl (g.2.1 2, n, .inr (.inr (.inr (.inr f)))))) {i : Int32} {K : Option ρ} (hf : ck (ib i n) K = some r) (hdg : decode cc pc = .ok (.aaload, 1))
    (kk : ib i n = true → K = some r → W p l e R s m args below meth c H locs cells slots Q (F0 m (pc + 1) ls (va_rf (f i.toNatClampNeg) :: rest))) : W p l e R s m args below meth c H locs cells slots Q (F0 m pc ls (.int i :: .ref a :: rest)) := by
  obtain ⟨q, hi, -⟩ := blk_set hj hk
  obtain ⟨h1, h2⟩ := ck_inv hf
  have hin := ib_in h1
  have hlt : i.toNatClampNeg < n := Nat.not_le.mp fun q => hin (Or.inr q)
  exact W.aald (v := va_rf (f i.toNatClampNeg)) (ty := .array .int) X.1 X.2.1 (hG.1 q _ hi) ((X.2.2.2.2.2.1.1.2 2 _ rfl).1 n (fun j => va_rf (f j))) rfl (fun q => by cases q) (by show ¬ (i < 0 ∨ (arrV _ _ _).slots.size ≤ _); rw [arrV_size]; exact hin) (by show (arrV _ _ _).slots[_]? = _; rw [arrV_read _ _ hlt]) rfl rfl hdg (kk h1 h2)
/-- reading a reference out of a row of objects: t is the class's place among the classes of rows -/
theorem r_aaldq {ρ : Type} {r : ρ} {C : String} (t : Nat) (X : FX g p s m args meth c cc nL own ret A) {H0 : Heap} (hG : GM g A H0 H locs bs) (j k : Nat) {b : va_W} (hj : bs[j]? = some b) {a n : Nat} {f : Nat → Option Nat} (hk : b[k]? = some (a, .inl (g.2.1 t, n, .inr (.inr (.inr (.inr f)))))) (ht : (tysG g)[t]? = some (g.2.1 t, .object C)) {i : Int32} {K : Option ρ} (hf : ck (ib i n) K = some r) (hdg : decode cc pc = .ok (.aaload, 1))
    (kk : ib i n = true → K = some r → W p l e R s m args below meth c H locs cells slots Q (F0 m (pc + 1) ls (va_rf (f i.toNatClampNeg) :: rest))) : W p l e R s m args below meth c H locs cells slots Q (F0 m pc ls (.int i :: .ref a :: rest)) := by
  obtain ⟨q, hi, -⟩ := blk_set hj hk
  obtain ⟨h1, h2⟩ := ck_inv hf
  exact va_aldq (D := g.1) X.1 X.2.1 X.2.2.2.2.2.1.1 hG.1 q t hi ht (ib_in h1) hdg (kk h1 h2)
/-- reading a static array -/
theorem r_sti {ρ : Type} {r : ρ} {t N : Nat} {F : Nat → Value} {f : Nat → Int32} (X : FX g p s m args meth c cc nL own ret A) (hG : GM g A s.heap H locs bs) (hT : va_T .int t N F A s s.heap) (hF : ∀ k, F k = .int (f k)) {i : Int32} {K : Int32 → Option ρ} (hf : ck (ib i N) (bn (f i.toNatClampNeg) K) = some r) (hdg : decode cc pc = .ok (.iaload, 1))
    (kk : ∀ x : Int32, K x = some r → W p l e R s m args below meth c H locs cells slots Q (F0 m (pc + 1) ls (.int x :: rest))) : W p l e R s m args below meth c H locs cells slots Q (F0 m pc ls (.int i :: .ref t :: rest)) := by
  obtain ⟨h1, h2⟩ := ck_inv hf
  exact va_ti X.1 X.2.1 hT hG.2.2 (ib_in h1) (hF _) hdg (kk _ h2)
theorem r_gets {C n d : String} {v : Value} {index : Nat} (X : FX g p s m args meth c cc nL own ret A) (hG : GM g A s.heap H locs bs) (hZ : va_Z C n d v A s s.heap) (hlink : Cond.fieldLink own index C n d ∈ TW) (hdg : decode cc pc = .ok (.getstatic index, 3))
    (kk : W p l e R s m args below meth c H locs cells slots Q (F0 m (pc + 3) ls (v :: rest))) : W p l e R s m args below meth c H locs cells slots Q (F0 m pc ls rest) :=
  va_gets X.1 X.2.1 hZ hG.2.2 X.2.2.2.1 (X.2.2.2.2.1 _ hlink) (fun _ h => h) hdg kk
theorem r_getsN {C n d host : String} {v : Value} {index : Nat} (X : FX g p s m args meth c cc nL own ret A) (hG : GM g A s.heap H locs bs) (hZ : va_Z C n d v A s s.heap) (hlink : Cond.fieldLinkNest own index C n d host ∈ NW) (hdg : decode cc pc = .ok (.getstatic index, 3))
    (kk : W p l e R s m args below meth c H locs cells slots Q (F0 m (pc + 3) ls (v :: rest))) : W p l e R s m args below meth c H locs cells slots Q (F0 m pc ls rest) :=
  va_getsN X.1 X.2.1 hZ hG.2.2 X.2.2.2.1 (va_Nw.use rfl (X.2.2.2.2.2.1.2.1 _ hlink)) (fun _ h => h) hdg kk
/-- a row written by its place, the place told by an index -/
theorem r_copy {S ρ : Type} {r : ρ} {idx : Nat} (X : FX g p s m args meth c cc nL own ret A) {H0 : Heap} (hG : GM g A H0 H locs bs) (hsz : ls.size = nL) (hl : Cond.methodLink own idx arraycopyName ∈ TW) (h2 : Cond.native arraycopyName ∈ TW) (h3 : Cond.static arraycopyName ∈ TW) (h4 : Cond.initialized "java/lang/System" ∈ TW)
    (j0 k0 j1 k1 : Nat) {b0 b1 : va_W} (hj0 : bs[j0]? = some b0) (hj1 : bs[j1]? = some b1) {a0 a1 n0 n1 : Nat} {f0 f1 : Nat → Int32} (hk0 : b0[k0]? = some (a0, .inl (g.2.1 0, n0, .inl f0))) (hk1 : b1[k1]? = some (a1, .inl (g.2.1 0, n1, .inl f1))) {sp dp n : Int32} {st1 : S} {K : S → Option ρ} (hf : ck (cpk sp n0 dp n1 n) (bn st1 K) = some r)
    (w : S → List va_W) (hw : w st1 = bs.set j1 (b1.set k1 (a1, .inl (g.2.1 0, n1, .inl (va_cpy f0 f1 sp.toNatClampNeg dp.toNatClampNeg n.toNatClampNeg))))) (hfr : 1 ≤ R.frames) (hlo : (rest.map fun v => v.category).sum + 18 ≤ R.locals) (hdg : decode cc pc = .ok (.invokestatic idx, 3))
    (kk : ∀ (st : S) (H1 : Heap) (locs1 : List Loc), K st = some r → GM g A H0 H1 locs1 (w st) → W p l e R s m args below meth c H1 locs1 cells slots Q (F0 m (pc + 3) ls rest)) : W p l e R s m args below meth c H locs cells slots Q (F0 m pc ls (.int n :: .int dp :: .ref a1 :: .int sp :: .ref a0 :: rest)) := by
  obtain ⟨q0, hi0, -⟩ := blk_set hj0 hk0
  obtain ⟨q1, hi1, hs⟩ := blk_set hj1 hk1
  obtain ⟨h, h'⟩ := ck_inv hf
  obtain ⟨c1, c2, c3, c4, c5⟩ := of_decide_eq_true h
  exact va_copyi (D := g.1) X.1 X.2.1 (X.2.2.1.trans hsz.symm) X.2.2.2.1 (X.2.2.2.2.1 _ hl) (X.2.2.2.2.1 _ h2) (X.2.2.2.2.1 _ h3) (X.2.2.2.2.1 _ h4) X.2.2.2.2.2.1.1 hG.1 hG.2.1 hG.2.2 q0 q1 0 0 hi0 hi1 rfl rfl rfl c1 c2 c3 c4 c5 (fun _ _ => rfl) hfr hlo hdg (fun H1 locs1 g1 g2 g3 => kk st1 H1 locs1 h' ⟨by rw [hw, ← hs]; exact g1, by rw [hw, ← hs]; exact g2, g3⟩)
end RW3
theorem erase_perm {α : Type} : ∀ (b : List α) (k : Nat) (x : α), b[k]? = some x → b.Perm (x :: b.eraseIdx k)
  | [], _, _, h => by simp at h
  | y :: b, 0, x, h => by simp at h; subst h; exact List.Perm.refl _
  | y :: b, k + 1, x, h => by simp at h; exact ((erase_perm b k x h).cons y).trans (List.Perm.swap x y _)
theorem pick_perm {bs : List va_W} {j k : Nat} {b : va_W} {x : Nat × va_E} (hj : bs[j]? = some b) (hk : b[k]? = some x) : bs.flatten.Perm ([[x]] ++ bs.set j (b.eraseIdx k)).flatten := by
  have h1 : b.Perm (x :: b.eraseIdx k) := erase_perm b k x hk
  induction bs generalizing j with
  | nil => simp at hj
  | cons b0 bs ih =>
    cases j with
    | zero =>
      simp at hj
      subst hj
      show (b0 ++ bs.flatten).Perm (x :: (b0.eraseIdx k ++ bs.flatten))
      exact (h1.append_right _)
    | succ j =>
      simp at hj
      have := ih hj
      show (b0 ++ bs.flatten).Perm (x :: (b0 ++ (bs.set j (b.eraseIdx k)).flatten))
      exact (this.append_left b0).trans List.perm_middle
/-- Arrays.fill over ints -/
def rmFill : Room := { frames := 0, cells := 0, slots := 0, locals := 0 }
set_option maxHeartbeats 4000000 in
set_option maxRecDepth 100000 in
theorem c_fill (g : GT) (l : Launch) (a k : Nat) (v : Int32) (s0 : MS) (hk : k < 2 ^ 31) : CV g l yJ7_fill_53178 cJ7_fill_53178 4 none rmFill [.ref a, .int v] [wF g a k s0] [wF g a k (ar s0 0 (filln k v (s0.2 0)))] := by
  refine CV_intro RJ7 rfl (by decide +kernel) (Nat.le_of_ble_eq_true rfl) ?_
  intro p e s m args below meth c A ls Q hQ X hl hG
  have hl : lv_has ls 4 [(0, .ref a), (1, .int v)] := hl
  have hx := X.1
  have hb := X.2.1
  refine lv_iconst (v := nI 0) hx hb dJ7_fill_53178_0 (by decide) ?_
  refine lv_istore_n (lv' := [(2, .int (nI 0)), (0, .ref a), (1, .int v)]) hx hb dJ7_fill_53178_1 rfl hl (by decide) rfl (fun ls hl => ?_)
  refine lv_aload_n hx hb dJ7_fill_53178_2 rfl (lv_at hl 1 rfl) ?_
  refine r_alen X hG 0 0 rfl rfl dJ7_fill_53178_3 ?_
  refine lv_istore_n (lv' := [(3, .int (nI k)), (2, .int (nI 0)), (0, .ref a), (1, .int v)]) hx hb dJ7_fill_53178_4 rfl hl (by decide) rfl (fun ls hl => ?_)
  have key : ∀ (d i : Nat), i + d = k → ∀ (H : Heap) (locs : List Loc) (ls : Array Slot), GM g A s.heap H locs [wF g a k (ar s0 0 (filln i v (s0.2 0)))] → lv_has ls 4 [(3, .int (nI k)), (2, .int (nI i)), (0, .ref a), (1, .int v)] → W p l e rmFill s m args below meth c H locs 0 0 Q (F0 m 5 ls []) := by
    intro d
    induction d with
    | zero =>
      intro i hi H locs ls hG hl
      have hik : i = k := by omega
      subst hik
      refine lv_iload_n hx hb dJ7_fill_53178_5 rfl (lv_at hl 1 rfl) ?_
      refine lv_iload_n hx hb dJ7_fill_53178_6 rfl (lv_at hl 0 rfl) ?_
      refine lv_icmp_ge (tgt := 20) hx hb dJ7_fill_53178_7 (by decide) (fun hc => ?_) (fun hc => ?_)
      · subst hQ
        exact r_vret X hG dJ7_fill_53178_20
      · exact absurd (nI_le (Nat.le_refl _) hk) hc
    | succ d ih =>
      intro i hi H locs ls hG hl
      refine lv_iload_n hx hb dJ7_fill_53178_5 rfl (lv_at hl 1 rfl) ?_
      refine lv_iload_n hx hb dJ7_fill_53178_6 rfl (lv_at hl 0 rfl) ?_
      refine lv_icmp_ge (tgt := 20) hx hb dJ7_fill_53178_7 (by decide) (fun hc => ?_) (fun hc => ?_)
      · exact absurd hc (nI_ge (by omega) hk)
      · refine lv_aload_n hx hb dJ7_fill_53178_10 rfl (lv_at hl 2 rfl) ?_
        refine lv_iload_n hx hb dJ7_fill_53178_11 rfl (lv_at hl 1 rfl) ?_
        refine lv_iload_n hx hb dJ7_fill_53178_12 rfl (lv_at hl 3 rfl) ?_
        have hf : ck (ib (nI i) k) (bn (ar s0 0 (upd (filln i v (s0.2 0)) (nI i).toNatClampNeg v)) some) = some (ar s0 0 (filln (i + 1) v (s0.2 0))) := by
          have h1 : ib (nI i) k = true := decide_eq_true (nI_in (by omega) hk)
          rw [h1, nI_clamp (by omega)]
          refine congrArg (fun h => some (ar s0 0 h)) (funext fun j => ?_)
          by_cases hj : j = i
          · subst hj; simp [upd, filln]
          · simp only [upd, filln, hj, if_false]
            by_cases h2 : j < i
            · rw [if_pos h2, if_pos (by omega)]
            · rw [if_neg h2, if_neg (by omega)]
        refine r_iast X hG 0 0 rfl rfl hf (fun t => [wF g a k t]) rfl dJ7_fill_53178_13 (fun t H locs hf hG => ?_)
        cases hf
        refine lv_iinc (v := nI (i + 1)) (lv' := [(2, .int (nI (i + 1))), (3, .int (nI k)), (0, .ref a), (1, .int v)]) hx hb dJ7_fill_53178_14 hl (k := 1) rfl (by rw [nI_succ]; rfl) (by decide) rfl (fun ls hl => ?_)
        refine lv_goto (tgt := 5) hx hb dJ7_fill_53178_17 (by decide) ?_
        exact ih (i + 1) (by omega) _ _ _ hG (lv_sub hl [1, 0, 2, 3] rfl)
  refine key k 0 (by omega) _ _ _ ?_ hl
  have h0 : ar s0 0 (filln 0 v (s0.2 0)) = s0 ∨ wF g a k (ar s0 0 (filln 0 v (s0.2 0))) = wF g a k s0 := Or.inr (by
    show [(a, (.inl (g.2.1 0, k, .inl (filln 0 v (s0.2 0))) : va_E))] = [(a, .inl (g.2.1 0, k, .inl (s0.2 0)))]
    rw [show filln 0 v (s0.2 0) = s0.2 0 from funext fun j => by simp [filln]])
  rcases h0 with h | h
  · rw [h]; exact hG
  · rw [h]; exact hG
theorem st_least_eq : ∀ k, st_least k = .int (ct_least k) := fun k => rfl
theorem st_most_eq : ∀ k, st_most k = .int (ct_most k) := fun k => rfl
theorem st_under_eq : ∀ k, st_under k = .int (ct_under k) := fun k => rfl
theorem set_set_blk {α : Type} (l : List α) (j : Nat) (x y : α) : (l.set j x).set j y = l.set j y := by simp
theorem set_erase {α : Type} : ∀ (l : List α) (k : Nat) (x : α), (l.set k x).eraseIdx k = l.eraseIdx k
  | [], _, _ => rfl
  | _ :: _, 0, _ => rfl
  | y :: l, k + 1, x => by
    show y :: (l.set k x).eraseIdx k = y :: l.eraseIdx k
    rw [set_erase l k x]
theorem lk_fill : LKC yJ7_fill_53178 cJ7_fill_53178 4 none 2 := ⟨TW_at 91 (by decide +kernel) (by decide +kernel), TW_at 61 (by decide +kernel) (by decide +kernel), by decide +kernel, by decide +kernel, by decide +kernel⟩
theorem ls_fill : Cond.static yJ7_fill_53178 ∈ TW := TW_at 90 (by decide +kernel) (by decide +kernel)
section RW4
variable {p : Program} {l : Launch} {e : Env} {R : Room} {s : State} {m : MethodId} {args : Array Value} {below : List Frame} {meth : Method} {c : Code} {H : Heap} {locs : List Loc} {cells slots : Nat} {Q : State → Prop}
variable {g : GT} {cc : ByteArray} {nL pc : Nat} {own : String} {ret : Option FieldType} {A : Nat → Prop} {ls : Array Slot} {rest : List Value} {bs bs' : List va_W}
theorem r_fill {S ρ : Type} {r : ρ} {idx : Nat} (X : FX g p s m args meth c cc nL own ret A) (hG : GM g A s.heap H locs bs) (hsz : ls.size = nL) (hl : Cond.methodLink own idx yJ7_fill_53178 ∈ TW) (j k : Nat) {b : va_W} (hj : bs[j]? = some b) {a n : Nat} {f : Nat → Int32} (hk : b[k]? = some (a, .inl (g.2.1 0, n, .inl f))) {v : Int32} {st1 : S} {K : S → Option ρ} (hf : bn st1 K = some r)
    (w : S → List va_W) (hw : w st1 = bs.set j (b.set k (a, .inl (g.2.1 0, n, .inl (filln n v f))))) (hn : n < 2 ^ 31) (hfr : 1 ≤ R.frames) (hlo : 23 ≤ R.locals) (hcat : (rest.map fun v => v.category).sum ≤ 8) (hcs : cells ≤ R.cells ∧ slots ≤ R.slots) (hdg : decode cc pc = .ok (.invokestatic idx, 3))
    (kk : ∀ (st : S) (H1 : Heap) (locs1 : List Loc), K st = some r → GM g A s.heap H1 locs1 (w st) → W p l e R s m args below meth c H1 locs1 cells slots Q (F0 m (pc + 3) ls rest)) : W p l e R s m args below meth c H locs cells slots Q (F0 m pc ls (.int v :: .ref a :: rest)) := by
  have hjb : j < bs.length := (List.getElem?_eq_some_iff.mp hj).1
  have hkb : k < b.length := (List.getElem?_eq_some_iff.mp hk).1
  refine r_callSv (bc := [wF g a n (fun _ => 0, fun _ => f)]) (br := bs.set j (b.eraseIdx k)) (bs' := w st1) (As := [.ref a, .int v]) (rest := rest) X hG hsz (c_fill g l a n v (fun _ => 0, fun _ => f) hn) (pick_perm hj hk) ?_ lk_fill ls_fill hl rfl rfl ⟨hfr, hlo⟩ rfl rfl hcat hcs hdg (fun H1 locs1 hG => kk st1 H1 locs1 hf hG)
  rw [hw]
  have h := pick_perm (bs := bs.set j (b.set k (a, .inl (g.2.1 0, n, .inl (filln n v f))))) (j := j) (k := k) (b := b.set k (a, .inl (g.2.1 0, n, .inl (filln n v f)))) (x := (a, .inl (g.2.1 0, n, .inl (filln n v f)))) (by rw [List.getElem?_set_self hjb]) (by rw [List.getElem?_set_self hkb])
  rw [set_set_blk, set_erase] at h
  exact h.symm
end RW4
