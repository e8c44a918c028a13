-- THE BEGINNING, and the first rule
def t0b (t : MS) : Bool := t.2 1 0 == 0 && t.2 1 1 == 5 && t.2 1 2 == 6 && t.2 1 3 == 7 && t.2 0 0 == 304 && t.2 0 1 == 1003 && t.2 0 2 == 42 && t.2 0 3 == 305 && t.2 0 4 == 45 && t.2 0 5 == 1000 && t.2 0 6 == 1001
def t0o (o : Option MS) : Bool := match o with
  | some t => t0b t
  | none => false
set_option maxRecDepth 100000 in
theorem t0_run : t0o (f_X7_firstRule NF) = true := by decide +kernel
theorem t0_ok : ∃ t0, f_X7_firstRule NF = some t0 ∧ T0OK t0 := by
  have h := t0_run
  generalize f_X7_firstRule NF = o at h
  cases o with
  | none => cases h
  | some t =>
    refine ⟨t, rfl, ?_⟩
    have h : t0b t = true := h
    unfold t0b at h
    simp only [Bool.and_eq_true, beq_iff_eq] at h
    obtain ⟨⟨⟨⟨⟨⟨⟨⟨⟨⟨a, b⟩, c⟩, d⟩, e⟩, f⟩, g⟩, h⟩, i⟩, j⟩, k⟩ := h
    exact ⟨a, b, c, d, e, f, g, h, i, j, k⟩
set_option maxRecDepth 100000 in
theorem fives : ∀ i, i < 120 → st0_X8.2 14 i = 5 := by decide +kernel
set_option maxRecDepth 100000 in
theorem ones : ∀ i, i < 4 → st0_X8.2 57 i = -1 := by decide +kernel
theorem R_start (t0 : MS) : R t0 0 (st0_C t0) st0_X8 := by
  have z0 : (0 : Int32).toInt = 0 := by decide
  have z1 : (1 : Int32).toInt = 1 := by decide
  have z90 : (90 : Int32).toInt = 90 := by decide
  have zm : (-1 : Int32).toInt = -1 := by decide
  have z5 : (5 : Int32).toInt = 5 := by decide
  refine ⟨⟨rfl, ⟨show (0 : Int) ≤ (0 : Int32).toInt by decide, show (0 : Int32).toInt ≤ (6 : Int) by decide⟩, fun i h => ⟨rfl, rfl, rfl, rfl⟩, fun i h => ⟨⟨show (0 : Int) ≤ (0 : Int32).toInt by decide, show (0 : Int32).toInt ≤ (400 : Int) by decide⟩, ⟨show (0 : Int) ≤ (0 : Int32).toInt by decide, show (0 : Int32).toInt ≤ (40 : Int) by decide⟩, ⟨show (0 : Int) ≤ (0 : Int32).toInt by decide, show (0 : Int32).toInt ≤ (9 : Int) by decide⟩, fun q => ?_⟩, fun i h => ?_, rfl, ⟨show (1 : Int) ≤ (90 : Int32).toInt by decide, show (90 : Int32).toInt ≤ (120 : Int) by decide⟩, rfl, ⟨show (-1 : Int) ≤ (-1 : Int32).toInt by decide, show (-1 : Int32).toInt ≤ (119 : Int) by decide⟩, Or.inl rfl, rfl, ⟨show (0 : Int) ≤ (0 : Int32).toInt by decide, show (0 : Int32).toInt ≤ (5 : Int) by decide⟩⟩, ?_, ?_, ?_, ⟨rfl, rfl, rfl⟩, ?_, ?_, ?_, ?_⟩
  · have q : (i : Int) < (0 : Int32).toInt := q
    rw [z0] at q
    omega
  · rw [fives i h]
    refine ⟨?_, by rw [z5]; omega, by rw [z5]; omega⟩
    show filln 120 5 (fun _ => 0) i = 5
    unfold filln
    rw [if_pos h]
  · refine ⟨rfl, Or.inl rfl, ⟨show (0 : Int) ≤ (0 : Int32).toInt by decide, show (0 : Int32).toInt ≤ (6 : Int) by decide⟩, show (0 : Int32).toInt ≤ (0 : Int32).toInt by decide, fun q => ?_⟩
    have q : (0 : Int32) = 1 := q
    exact absurd q (by decide)
  · refine ⟨rfl, ⟨show (0 : Int) ≤ (0 : Int32).toInt by decide, show (0 : Int32).toInt ≤ (4 : Int) by decide⟩, fun i q => ?_⟩
    have q : (i : Int) < (0 : Int32).toInt := q
    rw [z0] at q
    omega
  · exact ⟨show (0 : Int32) = nI 0 by decide, show (0 : Int32) = nI 0 by decide, by omega, fun i h => absurd h (by omega)⟩
  · refine ⟨rfl, ⟨show (0 : Int) ≤ (0 : Int32).toInt by decide, show (0 : Int32).toInt ≤ (160 : Int) by decide⟩, fun i q => ?_⟩
    have q : (i : Int) < (0 : Int32).toInt := q
    rw [z0] at q
    omega
  · refine ⟨rfl, rfl, fun t h q => ?_⟩
    have q : (t : Int) < (1 : Int32).toInt := q
    rw [z1] at q
    omega
  · intro i h
    have e : (((st0_C t0).2.2.2.2.2.2.2.2.1 i).1 0) = (-1 : Int32) := rfl
    rw [e, ones i h]
    exact ⟨rfl, ⟨by rw [zm]; omega, by rw [zm]; omega⟩, Or.inl rfl⟩
  · exact ⟨rfl, ⟨show (1 : Int) ≤ (1 : Int32).toInt by decide, show (1 : Int32).toInt ≤ (6 : Int) by decide⟩, rfl, show (0 : Int32).toInt < (1 : Int32).toInt by decide, rfl, rfl⟩
