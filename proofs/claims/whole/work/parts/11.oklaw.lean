/-! the law keeps to its bytes -/
theorem xm_lk0 : ((List.range 60).all (fun j => match xm_law[0 + j]? with | some ins => xe_chk (xm_cp xm_L14) code 5 "NinthDayHoodedLaw" ret xm_lawp (0 + j) ins | none => false)) = true := by decide +kernel
theorem xm_lk1 : ((List.range 60).all (fun j => match xm_law[60 + j]? with | some ins => xe_chk (xm_cp xm_L14) code 5 "NinthDayHoodedLaw" ret xm_lawp (60 + j) ins | none => false)) = true := by decide +kernel
theorem xm_lk2 : ((List.range 60).all (fun j => match xm_law[120 + j]? with | some ins => xe_chk (xm_cp xm_L14) code 5 "NinthDayHoodedLaw" ret xm_lawp (120 + j) ins | none => false)) = true := by decide +kernel
theorem xm_lk3 : ((List.range 60).all (fun j => match xm_law[180 + j]? with | some ins => xe_chk (xm_cp xm_L14) code 5 "NinthDayHoodedLaw" ret xm_lawp (180 + j) ins | none => false)) = true := by decide +kernel
theorem xm_lk4 : ((List.range 60).all (fun j => match xm_law[240 + j]? with | some ins => xe_chk (xm_cp xm_L14) code 5 "NinthDayHoodedLaw" ret xm_lawp (240 + j) ins | none => false)) = true := by decide +kernel
theorem xm_lk5 : ((List.range 60).all (fun j => match xm_law[300 + j]? with | some ins => xe_chk (xm_cp xm_L14) code 5 "NinthDayHoodedLaw" ret xm_lawp (300 + j) ins | none => false)) = true := by decide +kernel
theorem xm_lk6 : ((List.range 60).all (fun j => match xm_law[360 + j]? with | some ins => xe_chk (xm_cp xm_L14) code 5 "NinthDayHoodedLaw" ret xm_lawp (360 + j) ins | none => false)) = true := by decide +kernel
theorem xm_lk7 : ((List.range 60).all (fun j => match xm_law[420 + j]? with | some ins => xe_chk (xm_cp xm_L14) code 5 "NinthDayHoodedLaw" ret xm_lawp (420 + j) ins | none => false)) = true := by decide +kernel
theorem xm_lk8 : ((List.range 60).all (fun j => match xm_law[480 + j]? with | some ins => xe_chk (xm_cp xm_L14) code 5 "NinthDayHoodedLaw" ret xm_lawp (480 + j) ins | none => false)) = true := by decide +kernel
theorem xm_lk9 : ((List.range 60).all (fun j => match xm_law[540 + j]? with | some ins => xe_chk (xm_cp xm_L14) code 5 "NinthDayHoodedLaw" ret xm_lawp (540 + j) ins | none => false)) = true := by decide +kernel
theorem xm_lk10 : ((List.range 60).all (fun j => match xm_law[600 + j]? with | some ins => xe_chk (xm_cp xm_L14) code 5 "NinthDayHoodedLaw" ret xm_lawp (600 + j) ins | none => false)) = true := by decide +kernel
theorem xm_lk11 : ((List.range 60).all (fun j => match xm_law[660 + j]? with | some ins => xe_chk (xm_cp xm_L14) code 5 "NinthDayHoodedLaw" ret xm_lawp (660 + j) ins | none => false)) = true := by decide +kernel
theorem xm_lk12 : ((List.range 60).all (fun j => match xm_law[720 + j]? with | some ins => xe_chk (xm_cp xm_L14) code 5 "NinthDayHoodedLaw" ret xm_lawp (720 + j) ins | none => false)) = true := by decide +kernel
theorem xm_lk13 : ((List.range 60).all (fun j => match xm_law[780 + j]? with | some ins => xe_chk (xm_cp xm_L14) code 5 "NinthDayHoodedLaw" ret xm_lawp (780 + j) ins | none => false)) = true := by decide +kernel
theorem xm_lk14 : ((List.range 60).all (fun j => match xm_law[840 + j]? with | some ins => xe_chk (xm_cp xm_L14) code 5 "NinthDayHoodedLaw" ret xm_lawp (840 + j) ins | none => false)) = true := by decide +kernel
theorem xm_lk15 : ((List.range 60).all (fun j => match xm_law[900 + j]? with | some ins => xe_chk (xm_cp xm_L14) code 5 "NinthDayHoodedLaw" ret xm_lawp (900 + j) ins | none => false)) = true := by decide +kernel
theorem xm_lk16 : ((List.range 60).all (fun j => match xm_law[960 + j]? with | some ins => xe_chk (xm_cp xm_L14) code 5 "NinthDayHoodedLaw" ret xm_lawp (960 + j) ins | none => false)) = true := by decide +kernel
theorem xm_lk17 : ((List.range 33).all (fun j => match xm_law[1020 + j]? with | some ins => xe_chk (xm_cp xm_L14) code 5 "NinthDayHoodedLaw" ret xm_lawp (1020 + j) ins | none => false)) = true := by decide +kernel
theorem xm_lawlen : xm_law.length = 1053 := by decide +kernel
theorem xm_lawchk : ∀ (i : Nat) (ins : Instr), xm_law[i]? = some ins → xe_chk (xm_cp xm_L14) code 5 "NinthDayHoodedLaw" ret xm_lawp i ins = true := by
  intro i ins h
  have hl := (List.getElem?_eq_some_iff.mp h).1
  rw [xm_lawlen] at hl
  have go : ∀ (a n : Nat), ((List.range n).all (fun j => match xm_law[a + j]? with | some ins => xe_chk (xm_cp xm_L14) code 5 "NinthDayHoodedLaw" ret xm_lawp (a + j) ins | none => false)) = true → a ≤ i → i < a + n → xe_chk (xm_cp xm_L14) code 5 "NinthDayHoodedLaw" ret xm_lawp i ins = true := by
    intro a n hk h1 h2
    have := List.all_eq_true.mp hk (i - a) (List.mem_range.mpr (by omega))
    rw [show a + (i - a) = i by omega, h] at this
    exact this
  by_cases q0 : i < 60
  · exact go 0 60 xm_lk0 (by omega) (by omega)
  by_cases q1 : i < 120
  · exact go 60 60 xm_lk1 (by omega) (by omega)
  by_cases q2 : i < 180
  · exact go 120 60 xm_lk2 (by omega) (by omega)
  by_cases q3 : i < 240
  · exact go 180 60 xm_lk3 (by omega) (by omega)
  by_cases q4 : i < 300
  · exact go 240 60 xm_lk4 (by omega) (by omega)
  by_cases q5 : i < 360
  · exact go 300 60 xm_lk5 (by omega) (by omega)
  by_cases q6 : i < 420
  · exact go 360 60 xm_lk6 (by omega) (by omega)
  by_cases q7 : i < 480
  · exact go 420 60 xm_lk7 (by omega) (by omega)
  by_cases q8 : i < 540
  · exact go 480 60 xm_lk8 (by omega) (by omega)
  by_cases q9 : i < 600
  · exact go 540 60 xm_lk9 (by omega) (by omega)
  by_cases q10 : i < 660
  · exact go 600 60 xm_lk10 (by omega) (by omega)
  by_cases q11 : i < 720
  · exact go 660 60 xm_lk11 (by omega) (by omega)
  by_cases q12 : i < 780
  · exact go 720 60 xm_lk12 (by omega) (by omega)
  by_cases q13 : i < 840
  · exact go 780 60 xm_lk13 (by omega) (by omega)
  by_cases q14 : i < 900
  · exact go 840 60 xm_lk14 (by omega) (by omega)
  by_cases q15 : i < 960
  · exact go 900 60 xm_lk15 (by omega) (by omega)
  by_cases q16 : i < 1020
  · exact go 960 60 xm_lk16 (by omega) (by omega)
  by_cases q17 : i < 1053
  · exact go 1020 33 xm_lk17 (by omega) (by omega)
  omega
