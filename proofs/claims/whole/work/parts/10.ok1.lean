/-! EVERY METHOD keeps to its bytes: by program, decided by the kernel. -/
/-- places of: code, initialized, instanceMethod, selects, static -/
def xm_okB (inf : xe_I) (cp : xe_cp) (j1 j2 j3 j4 j5 : Nat) : Bool :=
  xm_w j1 (.code (xe_iy inf) (xe_ib inf) (xe_iL inf) (xe_ir inf)) && xm_w j2 (.initialized (xe_iy inf).cls) && plainFor (xe_iy inf) && decide ((xe_iy inf).cls ≠ "java/lang/invoke/MethodHandle") && decide ((xe_iy inf).cls ≠ "java/lang/invoke/VarHandle") && decide ((parseMethodDescriptor (xe_iy inf).desc).map (fun d => d.parameters.length) = some (xe_in inf)) && decide (xe_iL inf ≤ 45) && decide (xe_in inf + (if xe_ik inf = 0 then 0 else 1) ≤ xe_iL inf) &&
  (!decide (xe_ik inf = 1) || (xm_w j3 (.instanceMethod (xe_iy inf)) && xm_w j4 (.selects (xe_iy inf).cls (xe_iy inf) (xe_iy inf)) && (match xe_cl[xe_ic inf]? with | some r => decide (r.1 = (xe_iy inf).cls) | none => false))) &&
  (!decide (xe_ik inf = 2) || (xm_w j3 (.instanceMethod (xe_iy inf)) && decide ((xe_iy inf).name = "<init>") && decide (xe_ir inf = none))) &&
  (!decide (xe_ik inf = 0) || xm_w j5 (.static (xe_iy inf))) && decide ((xe_pcs inf).getD 0 0 = 0) &&
  (xe_code inf).zipIdx.all (fun q => xe_chk cp (xe_ib inf) (xe_ik inf) (xe_iy inf).cls (xe_ir inf) (xe_pcs inf) q.2 q.1)
theorem xm_ok_of {T : List xe_I} {inf : xe_I} {cp : xe_cp} {j1 j2 j3 j4 j5 : Nat} (hcp : xe_cpok (xe_iy inf).cls T cp) (h : xm_okB inf cp j1 j2 j3 j4 j5 = true) : xe_ok T inf := by
  simp only [xm_okB, Bool.and_eq_true, Bool.or_eq_true, Bool.not_eq_true', decide_eq_false_iff_not, decide_eq_true_eq] at h
  obtain ⟨⟨⟨⟨⟨⟨⟨⟨⟨⟨⟨⟨h1, h2⟩, h3⟩, h4⟩, h5⟩, h6⟩, h7⟩, h8⟩, h9⟩, h10⟩, h11⟩, h12⟩, h13⟩ := h
  refine ⟨xm_w_good h1 rfl, xm_w_good h2 rfl, h3, ⟨h4, h5, h6⟩, h7, h8, fun q => ?_, fun q => ?_, fun q => ?_, h12, cp, hcp, fun i ins hi => ?_⟩
  · rcases h9 with h | ⟨⟨a1, a2⟩, a3⟩
    · exact absurd q h
    · refine ⟨xm_w_good a1 rfl, xm_w_good a2 rfl, ?_⟩
      split at a3
      · rename_i r hr
        exact ⟨r, hr, of_decide_eq_true a3⟩
      · cases a3
  · rcases h10 with h | ⟨⟨a1, a2⟩, a3⟩
    · exact absurd q h
    · exact ⟨xm_w_good a1 rfl, a2, a3⟩
  · rcases h11 with h | h
    · exact absurd q h
    · exact xm_w_good h rfl
  · have := List.all_eq_true.mp h13 (ins, i) (List.mem_zipIdx_iff_getElem?.mpr hi)
    exact this
theorem xm_ok0 : xe_ok xm_T xm_i0 := xm_ok_of (cp := xm_cp xm_L0) (j1 := 720) (j2 := 150) (j3 := 0) (j4 := 0) (j5 := 719) (xm_cpok xm_K0) (by decide +kernel)
theorem xm_ok1 : xe_ok xm_T xm_i1 := xm_ok_of (cp := xm_cp xm_L0) (j1 := 1668) (j2 := 150) (j3 := 0) (j4 := 0) (j5 := 1667) (xm_cpok xm_K0) (by decide +kernel)
theorem xm_ok2 : xe_ok xm_T xm_i2 := xm_ok_of (cp := xm_cp ([], [], [], [], [], [])) (j1 := 717) (j2 := 148) (j3 := 0) (j4 := 0) (j5 := 716) (xm_cpok (L := ([], [], [], [], [], [])) rfl) (by decide +kernel)
theorem xm_ok3 : xe_ok xm_T xm_i3 := xm_ok_of (cp := xm_cp ([], [], [], [], [], [])) (j1 := 875) (j2 := 148) (j3 := 0) (j4 := 0) (j5 := 874) (xm_cpok (L := ([], [], [], [], [], [])) rfl) (by decide +kernel)
theorem xm_ok4 : xe_ok xm_T xm_i4 := xm_ok_of (cp := xm_cp ([], [], [], [], [], [])) (j1 := 658) (j2 := 148) (j3 := 0) (j4 := 0) (j5 := 657) (xm_cpok (L := ([], [], [], [], [], [])) rfl) (by decide +kernel)
theorem xm_ok5 : xe_ok xm_T xm_i5 := xm_ok_of (cp := xm_cp ([], [], [], [], [], [])) (j1 := 554) (j2 := 148) (j3 := 0) (j4 := 0) (j5 := 553) (xm_cpok (L := ([], [], [], [], [], [])) rfl) (by decide +kernel)
theorem xm_ok6 : xe_ok xm_T xm_i6 := xm_ok_of (cp := xm_cp ([], [], [], [], [], [])) (j1 := 801) (j2 := 155) (j3 := 0) (j4 := 0) (j5 := 800) (xm_cpok (L := ([], [], [], [], [], [])) rfl) (by decide +kernel)
theorem xm_ok7 : xe_ok xm_T xm_i7 := xm_ok_of (cp := xm_cp xm_L1) (j1 := 346) (j2 := 143) (j3 := 345) (j4 := 0) (j5 := 0) (xm_cpok xm_K1) (by decide +kernel)
theorem xm_ok8 : xe_ok xm_T xm_i8 := xm_ok_of (cp := xm_cp xm_L1) (j1 := 703) (j2 := 143) (j3 := 702) (j4 := 23) (j5 := 0) (xm_cpok xm_K1) (by decide +kernel)
theorem xm_ok9 : xe_ok xm_T xm_i9 := xm_ok_of (cp := xm_cp xm_L1) (j1 := 707) (j2 := 143) (j3 := 706) (j4 := 24) (j5 := 0) (xm_cpok xm_K1) (by decide +kernel)
theorem xm_ok10 : xe_ok xm_T xm_i10 := xm_ok_of (cp := xm_cp xm_L1) (j1 := 735) (j2 := 143) (j3 := 734) (j4 := 27) (j5 := 0) (xm_cpok xm_K1) (by decide +kernel)
theorem xm_ok11 : xe_ok xm_T xm_i11 := xm_ok_of (cp := xm_cp xm_L1) (j1 := 739) (j2 := 143) (j3 := 738) (j4 := 28) (j5 := 0) (xm_cpok xm_K1) (by decide +kernel)
