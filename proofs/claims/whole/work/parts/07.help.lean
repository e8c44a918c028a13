-- further rows: names for what is calculated, divisions, switches, a method's beginning
theorem lp_go {X ρ : Type} {F : (X → Option ρ) → X → Option ρ} {n : Nat} {x0 : X} {r : ρ} {P : X → Prop} (h : lp F n x0 = some r) (hF : ∀ self : X → Option ρ, (∀ x, self x = some r → P x) → ∀ x, F self x = some r → P x) : P x0 := lp_use hF x0 h
def nz (y : Int32) : Bool := decide (¬ y = 0)
def isz (y : Int32) : Bool := decide (y = 0 ∨ y = 1)
theorem blk_perm {α : Type} {l1 l2 : List α} (is : List Nat) (h : is.map (fun i => l1[i]?) = l2.map some) (hn : is.isPerm (List.range l1.length) = true) : l1.Perm l2 := by
  have hp : is.Perm (List.range l1.length) := List.isPerm_iff.mp hn
  have h1 : (is.map (fun i => l1[i]?)).Perm ((List.range l1.length).map (fun i => l1[i]?)) := hp.map _
  have h2 : (List.range l1.length).map (fun i => l1[i]?) = l1.map some := by
    apply List.ext_getElem?
    intro i
    simp only [List.getElem?_map]
    by_cases q : i < l1.length
    · rw [List.getElem?_range q, List.getElem?_eq_getElem q]; simp
    · rw [List.getElem?_eq_none (by simpa using q), List.getElem?_eq_none (by simpa using q)]; rfl
  rw [h, h2] at h1
  have h3 := h1.symm.filterMap id
  simpa using h3
section RW2
variable {p : Program} {l : Launch} {e : Env} {R : Room} {s : State} {m : MethodId} {args : Array Value} {below : List Frame} {meth : Method} {c : Code} {H : Heap} {locs : List Loc} {cells slots : Nat} {Q : State → Prop}
variable {g : GT} {cc : ByteArray} {nL pc : Nat} {own : String} {ret : Option FieldType} {A : Nat → Prop} {ls : Array Slot} {rest : List Value} {bs bs' : List va_W}
theorem r_bni {ρ : Type} {r : ρ} {x : Int32} {K : Int32 → Option ρ} (hf : bn x K = some r) (kk : ∀ y : Int32, K y = some r → W p l e R s m args below meth c H locs cells slots Q (F0 m pc ls (.int y :: rest))) : W p l e R s m args below meth c H locs cells slots Q (F0 m pc ls (.int x :: rest)) := kk x hf
theorem r_bnl {ρ : Type} {r : ρ} {x : Int64} {K : Int64 → Option ρ} (hf : bn x K = some r) (kk : ∀ y : Int64, K y = some r → W p l e R s m args below meth c H locs cells slots Q (F0 m pc ls (.long y :: rest))) : W p l e R s m args below meth c H locs cells slots Q (F0 m pc ls (.long x :: rest)) := kk x hf
theorem r_idiv {ρ : Type} {r : ρ} {x y : Int32} {K : Option ρ} (X : FX g p s m args meth c cc nL own ret A) (hf : ck (nz y) K = some r) (hdg : decode cc pc = .ok (.idiv, 1)) (kk : K = some r → W p l e R s m args below meth c H locs cells slots Q (F0 m (pc + 1) ls (.int (x / y) :: rest))) : W p l e R s m args below meth c H locs cells slots Q (F0 m pc ls (.int y :: .int x :: rest)) :=
  lv_idiv X.1 X.2.1 hdg (of_decide_eq_true (ck_inv hf).1) (kk (ck_inv hf).2)
theorem r_irem {ρ : Type} {r : ρ} {x y : Int32} {K : Option ρ} (X : FX g p s m args meth c cc nL own ret A) (hf : ck (nz y) K = some r) (hdg : decode cc pc = .ok (.irem, 1)) (kk : K = some r → W p l e R s m args below meth c H locs cells slots Q (F0 m (pc + 1) ls (.int (x - x / y * y) :: rest))) : W p l e R s m args below meth c H locs cells slots Q (F0 m pc ls (.int y :: .int x :: rest)) :=
  lv_irem X.1 X.2.1 hdg (of_decide_eq_true (ck_inv hf).1) (kk (ck_inv hf).2)
theorem r_tsi {x k : Int32} {dflt lo hi off : Int} {offs : Array Int} {len tgt : Nat} (X : FX g p s m args meth c cc nL own ret A) (hdg : decode cc pc = .ok (.tableswitch dflt lo hi offs, len)) (hk : x = k) (h : (decide (¬ k.toInt < lo) && decide (¬ hi < k.toInt)) = true) (ho : offs[(k.toInt - lo).toNat]? = some off) (ht : (pc : Int) + off = (tgt : Int)) (kk : W p l e R s m args below meth c H locs cells slots Q (F0 m tgt ls rest)) : W p l e R s m args below meth c H locs cells slots Q (F0 m pc ls (.int x :: rest)) := by
  subst hk
  rw [Bool.and_eq_true] at h
  exact lv_tableIn X.1 X.2.1 hdg (of_decide_eq_true h.1) (of_decide_eq_true h.2) ho ht kk
theorem r_tso {x : Int32} {dflt lo hi : Int} {offs : Array Int} {len tgt : Nat} {ks : List Int32} (X : FX g p s m args meth c cc nL own ret A) (hdg : decode cc pc = .ok (.tableswitch dflt lo hi offs, len)) (hk : ∀ k ∈ ks, ¬ x = k) (h : (List.range (hi - lo + 1).toNat).all (fun (i : Nat) => ks.any (fun k => decide (k.toInt = lo + (i : Int)))) = true) (ht : (pc : Int) + dflt = (tgt : Int)) (kk : W p l e R s m args below meth c H locs cells slots Q (F0 m tgt ls rest)) : W p l e R s m args below meth c H locs cells slots Q (F0 m pc ls (.int x :: rest)) := by
  refine lv_tableOut X.1 X.2.1 hdg ?_ ht kk
  by_cases h1 : x.toInt < lo
  · exact Or.inl h1
  · by_cases h2 : hi < x.toInt
    · exact Or.inr h2
    · exfalso
      have h3 := List.all_eq_true.mp h (x.toInt - lo).toNat (List.mem_range.mpr (by omega))
      obtain ⟨k, hk1, hk2⟩ := List.any_eq_true.mp h3
      have h4 : k.toInt = lo + (((x.toInt - lo).toNat : Nat) : Int) := of_decide_eq_true hk2
      refine hk k hk1 (Int32.toInt_inj.mp ?_)
      omega
theorem r_lsi {x k : Int32} {dflt off : Int} {ps : Array (Int × Int)} {len tgt : Nat} (X : FX g p s m args meth c cc nL own ret A) (hdg : decode cc pc = .ok (.lookupswitch dflt ps, len)) (hk : x = k) (hp : (ps.toList.zip (ps.toList.drop 1)).all (fun (a, next) => a.1 < next.1) = true) (h0 : True) (ho : Op.lookupswitch.offset ps.toList dflt k.toInt = off) (ht : (pc : Int) + off = (tgt : Int)) (kk : W p l e R s m args below meth c H locs cells slots Q (F0 m tgt ls rest)) : W p l e R s m args below meth c H locs cells slots Q (F0 m pc ls (.int x :: rest)) := by
  subst hk
  exact lv_lookup X.1 X.2.1 hdg hp ho ht kk
theorem ls_none {x : Int32} {d : Int} : ∀ {ps : List (Int × Int)} {ks : List Int32}, (∀ k ∈ ks, ¬ x = k) → ps.map Prod.fst = ks.map Int32.toInt → Op.lookupswitch.offset ps d x.toInt = d
  | [], _, _, _ => rfl
  | (a, o) :: r, [], _, h => by cases h
  | (a, o) :: r, k :: ks, h, he => by
    rw [List.map_cons, List.map_cons, List.cons.injEq] at he
    rw [lv_osw (h k List.mem_cons_self) he.1.symm]
    exact ls_none (fun k hk => h k (List.mem_cons_of_mem _ hk)) he.2
theorem r_lso {x : Int32} {dflt : Int} {ps : Array (Int × Int)} {len tgt : Nat} {ks : List Int32} (X : FX g p s m args meth c cc nL own ret A) (hdg : decode cc pc = .ok (.lookupswitch dflt ps, len)) (hk : ∀ k ∈ ks, ¬ x = k) (hp : (ps.toList.zip (ps.toList.drop 1)).all (fun (a, next) => a.1 < next.1) = true) (h : ps.toList.map Prod.fst = ks.map Int32.toInt) (ht : (pc : Int) + dflt = (tgt : Int)) (kk : W p l e R s m args below meth c H locs cells slots Q (F0 m tgt ls rest)) : W p l e R s m args below meth c H locs cells slots Q (F0 m pc ls (.int x :: rest)) :=
  lv_lookup X.1 X.2.1 hdg hp (ls_none hk h) ht kk
end RW2
theorem CI_intro {g : GT} {l : Launch} {y : MethodName} {b : ByteArray} {nL : Nat} {ret : Option FieldType} {rm : Room} {av : List Value} {bs bs' : List va_W} {rv : Int32} (own : String) (how : y.cls = own) (hy : plainName y.cls = true) (hav : (lg_sl av).length ≤ nL)
    (h : ∀ (p : Program) (e : Env) (s : State) (m : MethodId) (args : Array Value) (below : List Frame) (meth : Method) (c : Code) (A : Nat → Prop) (ls : Array Slot) (Q : State → Prop), Q = MQ below (QI g A bs' rv) args s 0 0 A → FX g p s m args meth c b nL own ret A → lv_has ls nL (lv_args 0 av) → GM g A s.heap s.heap [] bs → W p l e rm s m args below meth c s.heap [] 0 0 Q (F0 m 0 ls [])) : CI g l y b nL ret rm av bs rv bs' :=
  fun sz => M_intro (Qc := fun A => QI g A bs' rv) hy hav 0 0 (fun p e s m below meth c A ls X hl _ hG => h p e s m _ below meth c A ls _ rfl (how ▸ X) hl hG) sz
theorem CL_intro {g : GT} {l : Launch} {y : MethodName} {b : ByteArray} {nL : Nat} {ret : Option FieldType} {rm : Room} {av : List Value} {bs bs' : List va_W} {rv : Int64} (own : String) (how : y.cls = own) (hy : plainName y.cls = true) (hav : (lg_sl av).length ≤ nL)
    (h : ∀ (p : Program) (e : Env) (s : State) (m : MethodId) (args : Array Value) (below : List Frame) (meth : Method) (c : Code) (A : Nat → Prop) (ls : Array Slot) (Q : State → Prop), Q = MQ below (QL g A bs' rv) args s 0 0 A → FX g p s m args meth c b nL own ret A → lv_has ls nL (lv_args 0 av) → GM g A s.heap s.heap [] bs → W p l e rm s m args below meth c s.heap [] 0 0 Q (F0 m 0 ls [])) : CL g l y b nL ret rm av bs rv bs' :=
  fun sz => M_intro (Qc := fun A => QL g A bs' rv) hy hav 0 0 (fun p e s m below meth c A ls X hl _ hG => h p e s m _ below meth c A ls _ rfl (how ▸ X) hl hG) sz
theorem CV_intro {g : GT} {l : Launch} {y : MethodName} {b : ByteArray} {nL : Nat} {ret : Option FieldType} {rm : Room} {av : List Value} {bs bs' : List va_W} (own : String) (how : y.cls = own) (hy : plainName y.cls = true) (hav : (lg_sl av).length ≤ nL)
    (h : ∀ (p : Program) (e : Env) (s : State) (m : MethodId) (args : Array Value) (below : List Frame) (meth : Method) (c : Code) (A : Nat → Prop) (ls : Array Slot) (Q : State → Prop), Q = MQ below (QV g A bs') args s 0 0 A → FX g p s m args meth c b nL own ret A → lv_has ls nL (lv_args 0 av) → GM g A s.heap s.heap [] bs → W p l e rm s m args below meth c s.heap [] 0 0 Q (F0 m 0 ls [])) : CV g l y b nL ret rm av bs bs' :=
  fun sz => M_intro (Qc := fun A => QV g A bs') hy hav 0 0 (fun p e s m below meth c A ls X hl _ hG => h p e s m _ below meth c A ls _ rfl (how ▸ X) hl hG) sz
theorem TW_at {w : Cond} (i : Nat) (h : lw_tbl[i]? = some w) (hg : goodWord w = true) : w ∈ TW := List.mem_filter.mpr ⟨List.mem_of_getElem? h, hg⟩
theorem TW_all (ws : List Cond) (is : List Nat) (h : ws = is.filterMap (fun i => lw_tbl[i]?)) (hg : ws.all goodWord = true) : ∀ w ∈ ws, w ∈ TW := by
  intro w hw
  refine List.mem_filter.mpr ⟨?_, List.all_eq_true.mp hg w hw⟩
  rw [h] at hw
  obtain ⟨i, -, hi⟩ := List.mem_filterMap.mp hw
  exact List.mem_of_getElem? hi
theorem NW_at {w : Cond} (i : Nat) (h : lw_tbl[i]? = some w) (hg : (match w with
  | .methodLinkNest _ _ _ _ => true
  | .fieldLinkNest _ _ _ _ _ _ => true
  | _ => false) = true) : w ∈ NW := List.mem_filter.mpr ⟨List.mem_of_getElem? h, by cases w <;> first | exact hg | rfl | exact absurd hg (by simp)⟩
