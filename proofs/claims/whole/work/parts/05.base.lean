-- THE BASE: what a state is, what a contract says, the rows of the walk. All of it is this project's own.
abbrev MS : Type := (Nat → Int32) × (Nat → Nat → Int32)
/-- a scalar field becomes x -/
def sp (s : MS) (k : Nat) (x : Int32) : MS := (va_up s.1 k x, s.2)
/-- an array's place becomes x -/
def ap (s : MS) (k i : Nat) (x : Int32) : MS := (s.1, va_up s.2 k (upd (s.2 k) i x))
/-- a point where ways meet -/
def jn {X ρ : Type} (K : X → Option ρ) (b : (X → Option ρ) → Option ρ) : Option ρ := b K
/-- a loop's head, at most n times -/
def lp {X ρ : Type} (F : (X → Option ρ) → X → Option ρ) : Nat → X → Option ρ
  | 0, _ => none
  | n + 1, x => F (lp F n) x
def bn {X ρ : Type} (x : X) (K : X → Option ρ) : Option ρ := K x
def cl {X ρ : Type} (o : Option X) (K : X → Option ρ) : Option ρ := match o with
  | none => none
  | some x => K x
def ib (i : Int32) (n : Nat) : Bool := decide (¬ (i < 0 ∨ n ≤ i.toNatClampNeg))
def ck {ρ : Type} (b : Bool) (K : Option ρ) : Option ρ := if b = true then K else none
theorem ck_inv {ρ : Type} {b : Bool} {K : Option ρ} {r : ρ} (h : ck b K = some r) : b = true ∧ K = some r := by
  unfold ck at h
  split at h
  next hb => exact ⟨hb, h⟩
  next => cases h
theorem ib_in {i : Int32} {n : Nat} (h : ib i n = true) : vp_in i n := of_decide_eq_true (p := ¬ (i < 0 ∨ n ≤ i.toNatClampNeg)) h
theorem cl_inv {X ρ : Type} {o : Option X} {K : X → Option ρ} {r : ρ} (h : cl o K = some r) : ∃ x, o = some x ∧ K x = some r := by
  cases o with
  | none => cases h
  | some x => exact ⟨x, rfl, h⟩
theorem ite_t {ρ : Type} {c : Prop} [Decidable c] {a b : Option ρ} {r : ρ} (h : (if c then a else b) = some r) (hc : c) : a = some r := by rw [if_pos hc] at h; exact h
theorem ite_f {ρ : Type} {c : Prop} [Decidable c] {a b : Option ρ} {r : ρ} (h : (if c then a else b) = some r) (hc : ¬ c) : b = some r := by rw [if_neg hc] at h; exact h
theorem jn_use {X ρ : Type} {K : X → Option ρ} {b : (X → Option ρ) → Option ρ} {r : ρ} {G : Prop} {P : X → Prop} (h : jn K b = some r) (hK : ∀ x, K x = some r → P x) (hb : ∀ K : X → Option ρ, (∀ x, K x = some r → P x) → b K = some r → G) : G := hb K hK h
theorem lp_use {X ρ : Type} {F : (X → Option ρ) → X → Option ρ} {n : Nat} {r : ρ} {P : X → Prop} (hF : ∀ self : X → Option ρ, (∀ x, self x = some r → P x) → ∀ x, F self x = some r → P x) : ∀ x, lp F n x = some r → P x := by
  induction n with
  | zero => intro x h; cases h
  | succ n ih => intro x h; exact hF (lp F n) ih x h
-- words
def TW : List Cond := lw_tbl.filter goodWord
theorem TW_mem {w : Cond} (h : (decide (w ∈ lw_tbl) && goodWord w) = true) : w ∈ TW := by
  rw [Bool.and_eq_true] at h
  exact List.mem_filter.mpr ⟨of_decide_eq_true h.1, h.2⟩
theorem TW_good {w : Cond} (h : w ∈ TW) : (w.onTables && w.keeps) = true ∨ ∃ ty, w = .arrayClass ty := good_of_word (List.mem_filter.mp h).2
def NW : List Cond := lw_tbl.filter (fun w => match w with
  | .methodLinkNest _ _ _ _ => true
  | .fieldLinkNest _ _ _ _ _ _ => true
  | _ => false)
theorem NW_mem {w : Cond} (h : (decide (w ∈ NW)) = true) : w ∈ NW := of_decide_eq_true h
-- what every method may take of the machine: the classes of arrays, the static arrays, the texts
abbrev GT : Type := va_G × (Nat → ClassId) × (Nat → Nat) × (Nat → Nat) × (Nat → Nat)
abbrev tysG (g : GT) : List (ClassId × FieldType) := [(g.2.1 0, .int), (g.2.1 1, .byte), (g.2.1 2, .array .int), (g.2.1 3, .object "LastCar$Text"), (g.2.1 4, .object "LastCar$Sheet"), (g.2.1 5, .object "LastCar$Way")]
def K_own : List (String × Nat × String) := [("LastCar", 82, "go heard * 3 - sun ; rush 0 ; harm 1 ;"), ("LastCar$Tape", 99, "up"), ("LastCar$Tape", 105, "wait"), ("LastCar$Tape", 107, "left"), ("LastCar$Tape", 109, "price"), ("LastCar$Tape", 111, "heard"), ("LastCar$Tape", 113, "sun"), ("LastCar$Tape", 115, "go"), ("LastCar$Tape", 117, "rush"), ("LastCar$Tape", 119, "harm"), ("LastCar$Tape", 121, "or"), ("LastCar$Tape", 123, "and"), ("LastCar$Tape", 125, "not")]
def K_len : List Nat := [38, 2, 4, 4, 5, 5, 3, 2, 4, 4, 2, 3, 3]
def K_byt : List (List Int32) := [[103, 111, 32, 104, 101, 97, 114, 100, 32, 42, 32, 51, 32, 45, 32, 115, 117, 110, 32, 59, 32, 114, 117, 115, 104, 32, 48, 32, 59, 32, 104, 97, 114, 109, 32, 49, 32, 59], [117, 112], [119, 97, 105, 116], [108, 101, 102, 116], [112, 114, 105, 99, 101], [104, 101, 97, 114, 100], [115, 117, 110], [103, 111], [114, 117, 115, 104], [104, 97, 114, 109], [111, 114], [97, 110, 100], [110, 111, 116]]
def st_least : Nat → Value := fun j => .int (match j with | 0 => 0 | 1 => 0 | 2 => 1 | 3 => 0 | 4 => 0 | _ => 1)
def st_most : Nat → Value := fun j => .int (match j with | 0 => 400 | 1 => 40 | 2 => 60 | 3 => 9 | 4 => 9 | _ => 120)
def st_under : Nat → Value := fun j => .int (match j with | 0 => -1 | 1 => 0 | 2 => 0 | 3 => 1 | 4 => 2 | _ => 3)
def ao2 (U : State) : Prop := (Cond.arrayOver (.array .int)).before #[] U = true
theorem ao2_spec {s : State} (h : ao2 s) :
    ∃ comp c k, s.vm.findClass (FieldType.array .int).toString = some comp ∧ (s.vm.classes.findIdx? fun (x : Class) => match x.kind with | .array component _ => component == comp | _ => false) = some c ∧ s.vm.classes[c]? = some k ∧ k.kind = .array comp (.array .int) ∧
      s.vm.findClass ("[" ++ (FieldType.array .int).toString) = some c := by
  unfold ao2 Cond.before at h
  simp only [Cond.holds, Cond.value, beq_iff_eq] at h
  cases hc : s.vm.findClass (FieldType.array .int).toString with
  | none => simp [hc] at h
  | some comp =>
    simp only [hc, Option.bind_some, Option.bind_eq_some_iff, Option.map_eq_some_iff] at h
    obtain ⟨c, hi, k, hk, hb⟩ := h
    obtain ⟨hlt, hp, -⟩ := Array.findIdx?_eq_some_iff_getElem.mp hi
    have hkk : s.vm.classes[c] = k := (Array.getElem?_eq_some_iff.mp hk).2
    rw [hkk] at hp
    cases hkind : k.kind with
    | array component ty =>
      rw [hkind] at hb hp
      simp at hb hp
      exact ⟨comp, c, k, rfl, hi, hk, by rw [hkind, hp, hb.1], hb.2⟩
    | _ => rw [hkind] at hb; simp at hb
theorem ao2.moved {u U : State} (hvm : u.vm.Alike U.vm) (h : ao2 u) : ao2 U := by
  obtain ⟨comp, c, k, h1, h2, h3, h4, h5⟩ := ao2_spec h
  obtain ⟨k', hk', he⟩ := hvm.2.2 _ _ h3
  have hi : (U.vm.classes.findIdx? fun (x : Class) => match x.kind with | .array component _ => component == comp | _ => false) = some c := by
    refine (va_idx_bare U.vm comp).symm.trans ?_
    first | rw [hvm.bare_eq] | rw [← hvm.bare_eq]
    exact (va_idx_bare u.vm comp).trans h2
  have hkind : k'.kind = .array comp (.array .int) := by rw [he]; exact h4
  have f1 : U.vm.findClass (FieldType.array .int).toString = some comp := by rw [hvm.findClass]; exact h1
  have f2 : U.vm.findClass ("[" ++ (FieldType.array .int).toString) = some c := by rw [hvm.findClass]; exact h5
  unfold ao2 Cond.before Cond.holds
  simp only [Cond.value]
  rw [f1, Option.bind_some]
  refine (congrArg (fun o : Option Nat => (o.bind (fun c => (U.vm.classes[c]?).map fun (k : Class) => match k.kind with | .array _ ty => decide (ty = FieldType.array .int) && decide (U.vm.findClass ("[" ++ (FieldType.array .int).toString) = some c) | _ => false) == some true)) hi).trans ?_
  simp [hk', hkind, f2]
def ZS (g : GT) (A : Nat → Prop) (U : State) (H : Heap) : Prop :=
  (∀ w ∈ NW, va_Nw w U) ∧
  (va_Z "LastCar" "LEAST" "[I" (.ref (g.2.2.1 0)) A U H ∧ va_T .int (g.2.2.1 0) 6 st_least A U H) ∧
  (va_Z "LastCar" "MOST" "[I" (.ref (g.2.2.1 1)) A U H ∧ va_T .int (g.2.2.1 1) 6 st_most A U H) ∧
  (va_Z "LastCar" "UNDER" "[I" (.ref (g.2.2.1 2)) A U H ∧ va_T .int (g.2.2.1 2) 6 st_under A U H) ∧
  (∀ i q, K_own[i]? = some q → vk_R q.1 q.2.1 q.2.2 (g.2.2.2.1 i) U) ∧ vk_S 13 K_len K_byt g.2.2.2.1 g.2.2.2.2 A U H ∧
  va_Z "java/lang/String" "COMPACT_STRINGS" "Z" (.int 1) A U H ∧ va_Zq "jdk/internal/util/Preconditions" "SIOOBE_FORMATTER" "Ljava/util/function/BiFunction;" A U H ∧
  va_AO "LastCar$Text" U ∧ va_AO "LastCar$Sheet" U ∧ va_AO "LastCar$Way" U ∧ ao2 U
def KS (g : GT) (A : Nat → Prop) (U : State) (H : Heap) : Prop := va_K g.1 vwCl (tysG g) U ∧ ZS g A U H
theorem NW_warm {s U : State} (hW : s.WarmedH U.vm) (h : ∀ w ∈ NW, va_Nw w s) : ∀ w ∈ NW, va_Nw w U := by
  intro w hw
  have h1 := h w hw
  have h2 := (List.mem_filter.mp hw).2
  cases w <;> first | (exact va_Nw.warmM hW h1) | (exact va_Nw.warmF hW h1) | (exact absurd h2 (by simp))
theorem NW_same {s U : State} (hv : s.vm = U.vm) (h : ∀ w ∈ NW, va_Nw w s) : ∀ w ∈ NW, va_Nw w U := by
  intro w hw
  have h1 := h w hw
  have h2 := (List.mem_filter.mp hw).2
  cases w <;> first | (exact va_Nw.same rfl hv h1) | (exact absurd h2 (by simp))
theorem ZS.call {g : GT} {A B : Nat → Prop} {s U : State} {H : Heap} (h : ZS g A s s.heap) (hq : ∀ a : Nat, a < s.heap.size → ¬ A a → H[a]? = s.heap[a]?) (hAB : ∀ q, B q → A q) (hW : s.WarmedH U.vm) : ZS g B U H := by
  obtain ⟨h1, ⟨h2, h3⟩, ⟨h4, h5⟩, ⟨h6, h7⟩, h8, h9, ha, hb, hc, hd, he, hf⟩ := h
  exact ⟨NW_warm hW h1, ⟨((h2.moved hW.alike).kept hq).narrow hAB, ((h3.moved hW.alike).kept hq).narrow hAB⟩, ⟨((h4.moved hW.alike).kept hq).narrow hAB, ((h5.moved hW.alike).kept hq).narrow hAB⟩, ⟨((h6.moved hW.alike).kept hq).narrow hAB, ((h7.moved hW.alike).kept hq).narrow hAB⟩, fun i q hi => (h8 i q hi).warm hW, ((h9.moved hW.alike).kept hq).narrow hAB, ((ha.moved hW.alike).kept hq).narrow hAB, ((hb.moved hW.alike).kept hq).narrow hAB, hc.moved hW.alike, hd.moved hW.alike, he.moved hW.alike, hf.moved hW.alike⟩
theorem ZS.same {g : GT} {A : Nat → Prop} {s U : State} {H : Heap} (hv : s.vm = U.vm) (h : ZS g A s H) : ZS g A U H := by
  obtain ⟨h1, ⟨h2, h3⟩, ⟨h4, h5⟩, ⟨h6, h7⟩, h8, h9, ha, hb, hc, hd, he, hf⟩ := h
  have hal : s.vm.Alike U.vm := hv ▸ Vm.Alike.refl s.vm
  exact ⟨NW_same hv h1, ⟨h2.moved hal, h3.moved hal⟩, ⟨h4.moved hal, h5.moved hal⟩, ⟨h6.moved hal, h7.moved hal⟩, fun i q hi => (h8 i q hi).same hv.symm, h9.moved hal, ha.moved hal, hb.moved hal, hc.moved hal, hd.moved hal, he.moved hal, hf.moved hal⟩
def FX (g : GT) (p : Program) (s : State) (m : MethodId) (args : Array Value) (meth : Method) (c : Code) (cc : ByteArray) (nL : Nat) (own : String) (ret : Option FieldType) (A : Nat → Prop) : Prop :=
  p.tables.exec = Jvm.exec ∧ c.code = cc ∧ c.maxLocals = nL ∧ s.vm.findClass own = some m.cls ∧ (∀ w ∈ TW, w.before args s = true) ∧ KS g A s s.heap ∧ (∀ q, s.heap.size ≤ q → A q) ∧ meth.sig.returnType = ret ∧ meth.locks = false
def GM (g : GT) (A : Nat → Prop) (H0 H : Heap) (locs : List Loc) (bs : List va_W) : Prop := va_P g.1 vwCl bs.flatten H ∧ va_D A bs.flatten ∧ va_S A H0 H locs
def PC (g : GT) (sz : Nat) (av : List Value) (bs : List va_W) : Array Value → State → Prop := va_Pc av (fun U => U.heap.size = sz ∧ va_P g.1 vwCl bs.flatten U.heap ∧ va_D (fun _ => True) bs.flatten ∧ KS g (va_A bs.flatten sz) U U.heap)
def BW (g : GT) (A : Nat → Prop) (bs : List va_W) : Unit → State → Prop := fun _ t => va_P g.1 vwCl bs.flatten t.heap ∧ va_D A bs.flatten
def QI (g : GT) (A : Nat → Prop) (bs : List va_W) (rv : Int32) : Array Value → State → Outcome → State → Prop := va_Qi (fun (r : Int32) (_ : Unit) => r = rv) (BW g A bs) A
def QL (g : GT) (A : Nat → Prop) (bs : List va_W) (rv : Int64) : Array Value → State → Outcome → State → Prop := va_Ql (fun (r : Int64) (_ : Unit) => r = rv) (BW g A bs) A
def QV (g : GT) (A : Nat → Prop) (bs : List va_W) : Array Value → State → Outcome → State → Prop := va_Qv (fun (_ : Unit) => True) (BW g A bs) A
abbrev WY (y : MethodName) (b : ByteArray) (nL : Nat) (ret : Option FieldType) : List Cond := Cond.code y b nL ret :: TW
def CI (g : GT) (l : Launch) (y : MethodName) (b : ByteArray) (nL : Nat) (ret : Option FieldType) (rm : Room) (av : List Value) (bs : List va_W) (rv : Int32) (bs' : List va_W) : Prop := ∀ sz : Nat, Met l y (WY y b nL ret) rm (PC g sz av bs) (QI g (va_A bs.flatten sz) bs' rv) 0 0 (va_A bs.flatten sz)
def CL (g : GT) (l : Launch) (y : MethodName) (b : ByteArray) (nL : Nat) (ret : Option FieldType) (rm : Room) (av : List Value) (bs : List va_W) (rv : Int64) (bs' : List va_W) : Prop := ∀ sz : Nat, Met l y (WY y b nL ret) rm (PC g sz av bs) (QL g (va_A bs.flatten sz) bs' rv) 0 0 (va_A bs.flatten sz)
def CV (g : GT) (l : Launch) (y : MethodName) (b : ByteArray) (nL : Nat) (ret : Option FieldType) (rm : Room) (av : List Value) (bs : List va_W) (bs' : List va_W) : Prop := ∀ sz : Nat, Met l y (WY y b nL ret) rm (PC g sz av bs) (QV g (va_A bs.flatten sz) bs') 0 0 (va_A bs.flatten sz)
theorem M_intro {g : GT} {l : Launch} {y : MethodName} {b : ByteArray} {nL : Nat} {ret : Option FieldType} {rm : Room} {av : List Value} {bs : List va_W} {Qc : (Nat → Prop) → Array Value → State → Outcome → State → Prop} (hy : plainName y.cls = true) (hav : (lg_sl av).length ≤ nL) (mc ms : Nat)
    (h : ∀ (p : Program) (e : Env) (s : State) (m : MethodId) (below : List Frame) (meth : Method) (c : Code) (A : Nat → Prop) (ls : Array Slot), FX g p s m av.toArray meth c b nL y.cls ret A → lv_has ls nL (lv_args 0 av) → meth.name = y.name → GM g A s.heap s.heap [] bs → W p l e rm s m av.toArray below meth c s.heap [] 0 0 (MQ below (Qc A) av.toArray s mc ms A) (F0 m 0 ls [])) (sz : Nat) : Met l y (WY y b nL ret) rm (PC g sz av bs) (Qc (va_A bs.flatten sz)) mc ms (va_A bs.flatten sz) := by
  refine Met.ofW (cc := b) (maxL := nL) (ret := ret) hy rfl ?_
  intro p e s m args below meth c s₁ B hml hv
  obtain ⟨rfl, hsz, hP, hD0, hK⟩ := hv
  have hts := atoms_spec (ws := WY y b nL ret) B.pre
  have hown : s.vm.findClass y.cls = some m.cls := findClass_of_methodNamed B.named
  subst hsz
  rw [lg_entry_eq]
  exact h p e s m below meth c (va_A bs.flatten s.heap.size) _ ⟨B.exec, B.bytes, hml, hown, fun w hw => hts w (List.mem_cons_of_mem _ hw), hK, fun q hq => Or.inr hq, B.returns, B.notSynchronized⟩ (lv_entry av hav) (name_of_methodNamed B.named B.method).1 ⟨hP, hD0.self, va_S.rf⟩
-- worlds as blocks
theorem P_iff {D : va_G} {cl : List vw_C} {ws : va_W} {H : Heap} : va_P D cl ws H ↔ ∀ q ∈ ws, va_at D cl q H :=
  ⟨fun h q hq => by obtain ⟨k, hk⟩ := List.getElem?_of_mem hq; exact h k q hk, fun h k q hk => h q (List.mem_of_getElem? hk)⟩
theorem D_iff {A : Nat → Prop} {ws : va_W} : va_D A ws ↔ (ws.map Prod.fst).Nodup ∧ ∀ q ∈ ws, A q.1 := by
  constructor
  · intro h
    refine ⟨?_, fun q hq => by obtain ⟨k, hk⟩ := List.getElem?_of_mem hq; exact h.2 k q hk⟩
    rw [List.Nodup, List.pairwise_iff_getElem]
    intro i j hi hj hij he
    rw [List.length_map] at hi hj
    rw [List.getElem_map, List.getElem_map] at he
    have := h.1 i j ws[i] ws[j] (List.getElem?_eq_getElem hi) (List.getElem?_eq_getElem hj) he
    omega
  · intro ⟨h1, h2⟩
    refine ⟨fun i j p q hp hq he => ?_, fun k q hk => h2 q (List.mem_of_getElem? hk)⟩
    rw [List.Nodup, List.pairwise_iff_getElem] at h1
    obtain ⟨hi, rfl⟩ := List.getElem?_eq_some_iff.mp hp
    obtain ⟨hj, rfl⟩ := List.getElem?_eq_some_iff.mp hq
    rcases Nat.lt_trichotomy i j with h | h | h
    · exact absurd (by rw [List.getElem_map, List.getElem_map]; exact he) (h1 i j (by rw [List.length_map]; exact hi) (by rw [List.length_map]; exact hj) h)
    · exact h
    · exact absurd (by rw [List.getElem_map, List.getElem_map]; exact he.symm) (h1 j i (by rw [List.length_map]; exact hj) (by rw [List.length_map]; exact hi) h)
theorem P_perm {D : va_G} {cl : List vw_C} {w1 w2 : va_W} {H : Heap} (hp : w1.Perm w2) (h : va_P D cl w1 H) : va_P D cl w2 H := P_iff.mpr fun q hq => P_iff.mp h q (hp.mem_iff.mpr hq)
theorem D_perm {A : Nat → Prop} {w1 w2 : va_W} (hp : w1.Perm w2) (h : va_D A w1) : va_D A w2 := by
  obtain ⟨h1, h2⟩ := D_iff.mp h
  exact D_iff.mpr ⟨(hp.map Prod.fst).nodup_iff.mp h1, fun q hq => h2 q (hp.mem_iff.mpr hq)⟩
theorem GM.perm {g : GT} {A : Nat → Prop} {H0 H : Heap} {locs : List Loc} {b1 b2 : List va_W} (hp : b1.flatten.Perm b2.flatten) (h : GM g A H0 H locs b1) : GM g A H0 H locs b2 := ⟨P_perm hp h.1, D_perm hp h.2.1, h.2.2⟩
theorem blk_set {bs : List va_W} {j k : Nat} {b : va_W} {x : Nat × va_E} (hj : bs[j]? = some b) (hk : b[k]? = some x) : ∃ i : Nat, bs.flatten[i]? = some x ∧ ∀ y : Nat × va_E, bs.flatten.set i y = (bs.set j (b.set k y)).flatten := by
  induction bs generalizing j with
  | nil => simp at hj
  | cons b0 bs ih =>
    cases j with
    | zero =>
      simp at hj
      subst hj
      obtain ⟨hk2, hx⟩ := List.getElem?_eq_some_iff.mp hk
      refine ⟨k, ?_, fun y => ?_⟩
      · rw [List.flatten_cons, List.getElem?_append_left hk2]; exact hk
      · rw [List.flatten_cons, List.set_append_left _ _ hk2]; simp
    | succ j =>
      simp at hj
      obtain ⟨i, h1, h2⟩ := ih hj
      refine ⟨b0.length + i, ?_, fun y => ?_⟩
      · rw [List.flatten_cons, List.getElem?_append_right (by omega)]
        rw [show b0.length + i - b0.length = i by omega]; exact h1
      · rw [List.flatten_cons, List.set_append_right _ _ (by omega), show b0.length + i - b0.length = i by omega, h2]; simp
