/-! EVERY METHOD keeps to its bytes: by program, decided by the kernel. -/
/-- places of: code, initialized, instanceMethod, selects, static -/
def xm_okB (inf : xe_I) (cp : xe_cp) (j1 j2 j3 j4 j5 : Nat) : Bool :=
  xm_w j1 (.code (xe_iy inf) (xe_ib inf) (xe_iL inf) (xe_ir inf)) && xm_w j2 (.initialized (xe_iy inf).cls) && plainFor (xe_iy inf) && decide ((xe_iy inf).cls ≠ "java/lang/invoke/MethodHandle") && decide ((xe_iy inf).cls ≠ "java/lang/invoke/VarHandle") && decide ((parseMethodDescriptor (xe_iy inf).desc).map (fun d => d.parameters.length) = some (xe_in inf)) && decide (xe_iL inf ≤ 45) && decide (xe_in inf + (if xe_ik inf = 0 then 0 else 1) ≤ xe_iL inf) &&
  (!(decide (xe_ik inf = 1) || decide (xe_ik inf = 3)) || (xm_w j3 (.instanceMethod (xe_iy inf)) && xm_w j4 (.selects (xe_iy inf).cls (xe_iy inf) (xe_iy inf)) && (match xe_cl[xe_ic inf]? with | some r => decide (r.1 = (xe_iy inf).cls) | none => false))) &&
  (!decide (xe_ik inf = 2) || (xm_w j3 (.instanceMethod (xe_iy inf)) && decide ((xe_iy inf).name = "<init>") && decide (xe_ir inf = none))) &&
  (!decide (xe_ik inf = 0) || xm_w j5 (.static (xe_iy inf))) && decide ((xe_pcs inf).getD 0 0 = 0) &&
  (xe_code inf).zipIdx.all (fun q => xe_chk cp (xe_ib inf) (xe_ik inf) (xe_iy inf).cls (xe_ir inf) (xe_pcs inf) q.2 q.1)
theorem xm_ok_of {T : List xe_I} {inf : xe_I} {cp : xe_cp} {j1 j2 j3 j4 j5 : Nat} (hcp : xe_cpok (xe_iy inf).cls T cp) (h : xm_okB inf cp j1 j2 j3 j4 j5 = true) : xe_ok T inf := by
  simp only [xm_okB, Bool.and_eq_true, Bool.or_eq_true, Bool.not_eq_true', Bool.or_eq_false_iff, decide_eq_false_iff_not, decide_eq_true_eq] at h
  obtain ⟨⟨⟨⟨⟨⟨⟨⟨⟨⟨⟨⟨h1, h2⟩, h3⟩, h4⟩, h5⟩, h6⟩, h7⟩, h8⟩, h9⟩, h10⟩, h11⟩, h12⟩, h13⟩ := h
  refine ⟨xm_w_good h1 rfl, xm_w_good h2 rfl, h3, ⟨h4, h5, h6⟩, h7, h8, fun q => ?_, fun q => ?_, fun q => ?_, h12, cp, hcp, fun i ins hi => ?_⟩
  · rcases h9 with h | ⟨⟨a1, a2⟩, a3⟩
    · exact absurd q (fun q => q.elim h.1 h.2)
    · refine ⟨xm_w_good a1 rfl, xm_w_good a2 rfl, ?_⟩
      split at a3
      · rename_i r hr
        exact ⟨r, hr, of_decide_eq_true a3⟩
      · cases a3
  · rcases h10 with h | ⟨⟨a1, a2⟩, a3⟩
    · exact absurd q h
    · exact ⟨xm_w_good a1 rfl, a2, a3⟩
  · rcases h11 with h | h
    · exact absurd q h
    · exact xm_w_good h rfl
  · have := List.all_eq_true.mp h13 (ins, i) (List.mem_zipIdx_iff_getElem?.mpr hi)
    exact this
theorem xm_ok0 : xe_ok xm_T xm_i0 := xm_ok_of (cp := xm_cp xm_L0) (j1 := 721) (j2 := 151) (j3 := 0) (j4 := 0) (j5 := 720) (xm_cpok xm_K0) (by decide +kernel)
theorem xm_ok1 : xe_ok xm_T xm_i1 := xm_ok_of (cp := xm_cp xm_L0) (j1 := 1673) (j2 := 151) (j3 := 0) (j4 := 0) (j5 := 1672) (xm_cpok xm_K0) (by decide +kernel)
theorem xm_ok2 : xe_ok xm_T xm_i2 := xm_ok_of (cp := xm_cp ([], [], [], [], [], [])) (j1 := 718) (j2 := 149) (j3 := 0) (j4 := 0) (j5 := 717) (xm_cpok (L := ([], [], [], [], [], [])) rfl) (by decide +kernel)
theorem xm_ok3 : xe_ok xm_T xm_i3 := xm_ok_of (cp := xm_cp ([], [], [], [], [], [])) (j1 := 818) (j2 := 149) (j3 := 0) (j4 := 0) (j5 := 817) (xm_cpok (L := ([], [], [], [], [], [])) rfl) (by decide +kernel)
theorem xm_ok4 : xe_ok xm_T xm_i4 := xm_ok_of (cp := xm_cp ([], [], [], [], [], [])) (j1 := 659) (j2 := 149) (j3 := 0) (j4 := 0) (j5 := 658) (xm_cpok (L := ([], [], [], [], [], [])) rfl) (by decide +kernel)
theorem xm_ok5 : xe_ok xm_T xm_i5 := xm_ok_of (cp := xm_cp ([], [], [], [], [], [])) (j1 := 555) (j2 := 149) (j3 := 0) (j4 := 0) (j5 := 554) (xm_cpok (L := ([], [], [], [], [], [])) rfl) (by decide +kernel)
theorem xm_ok6 : xe_ok xm_T xm_i6 := xm_ok_of (cp := xm_cp ([], [], [], [], [], [])) (j1 := 802) (j2 := 156) (j3 := 0) (j4 := 0) (j5 := 801) (xm_cpok (L := ([], [], [], [], [], [])) rfl) (by decide +kernel)
theorem xm_ok7 : xe_ok xm_T xm_i7 := xm_ok_of (cp := xm_cp xm_L1) (j1 := 347) (j2 := 144) (j3 := 346) (j4 := 0) (j5 := 0) (xm_cpok xm_K1) (by decide +kernel)
theorem xm_ok8 : xe_ok xm_T xm_i8 := xm_ok_of (cp := xm_cp xm_L1) (j1 := 704) (j2 := 144) (j3 := 703) (j4 := 23) (j5 := 0) (xm_cpok xm_K1) (by decide +kernel)
theorem xm_ok9 : xe_ok xm_T xm_i9 := xm_ok_of (cp := xm_cp xm_L1) (j1 := 708) (j2 := 144) (j3 := 707) (j4 := 24) (j5 := 0) (xm_cpok xm_K1) (by decide +kernel)
theorem xm_ok10 : xe_ok xm_T xm_i10 := xm_ok_of (cp := xm_cp xm_L1) (j1 := 736) (j2 := 144) (j3 := 735) (j4 := 27) (j5 := 0) (xm_cpok xm_K1) (by decide +kernel)
theorem xm_ok11 : xe_ok xm_T xm_i11 := xm_ok_of (cp := xm_cp xm_L1) (j1 := 740) (j2 := 144) (j3 := 739) (j4 := 28) (j5 := 0) (xm_cpok xm_K1) (by decide +kernel)
theorem xm_ok12 : xe_ok xm_T xm_i12 := xm_ok_of (cp := xm_cp xm_L1) (j1 := 761) (j2 := 144) (j3 := 760) (j4 := 33) (j5 := 0) (xm_cpok xm_K1) (by decide +kernel)
theorem xm_ok13 : xe_ok xm_T xm_i13 := xm_ok_of (cp := xm_cp xm_L1) (j1 := 749) (j2 := 144) (j3 := 748) (j4 := 30) (j5 := 0) (xm_cpok xm_K1) (by decide +kernel)
theorem xm_ok14 : xe_ok xm_T xm_i14 := xm_ok_of (cp := xm_cp xm_L1) (j1 := 773) (j2 := 144) (j3 := 772) (j4 := 35) (j5 := 0) (xm_cpok xm_K1) (by decide +kernel)
theorem xm_ok15 : xe_ok xm_T xm_i15 := xm_ok_of (cp := xm_cp xm_L1) (j1 := 769) (j2 := 144) (j3 := 768) (j4 := 34) (j5 := 0) (xm_cpok xm_K1) (by decide +kernel)
theorem xm_ok16 : xe_ok xm_T xm_i16 := xm_ok_of (cp := xm_cp xm_L2) (j1 := 269) (j2 := 141) (j3 := 268) (j4 := 0) (j5 := 0) (xm_cpok xm_K2) (by decide +kernel)
theorem xm_ok17 : xe_ok xm_T xm_i17 := xm_ok_of (cp := xm_cp xm_L2) (j1 := 789) (j2 := 141) (j3 := 788) (j4 := 37) (j5 := 0) (xm_cpok xm_K2) (by decide +kernel)
theorem xm_ok18 : xe_ok xm_T xm_i18 := xm_ok_of (cp := xm_cp xm_L2) (j1 := 872) (j2 := 141) (j3 := 871) (j4 := 50) (j5 := 0) (xm_cpok xm_K2) (by decide +kernel)
theorem xm_ok19 : xe_ok xm_T xm_i19 := xm_ok_of (cp := xm_cp xm_L2) (j1 := 587) (j2 := 141) (j3 := 586) (j4 := 9) (j5 := 0) (xm_cpok xm_K2) (by decide +kernel)
theorem xm_ok20 : xe_ok xm_T xm_i20 := xm_ok_of (cp := xm_cp xm_L3) (j1 := 200) (j2 := 139) (j3 := 199) (j4 := 0) (j5 := 0) (xm_cpok xm_K3) (by decide +kernel)
theorem xm_ok21 : xe_ok xm_T xm_i21 := xm_ok_of (cp := xm_cp xm_L3) (j1 := 595) (j2 := 139) (j3 := 594) (j4 := 10) (j5 := 0) (xm_cpok xm_K3) (by decide +kernel)
theorem xm_ok22 : xe_ok xm_T xm_i22 := xm_ok_of (cp := xm_cp xm_L3) (j1 := 670) (j2 := 139) (j3 := 669) (j4 := 22) (j5 := 0) (xm_cpok xm_K3) (by decide +kernel)
theorem xm_ok23 : xe_ok xm_T xm_i23 := xm_ok_of (cp := xm_cp xm_L3) (j1 := 1122) (j2 := 139) (j3 := 1121) (j4 := 82) (j5 := 0) (xm_cpok xm_K3) (by decide +kernel)
theorem xm_ok24 : xe_ok xm_T xm_i24 := xm_ok_of (cp := xm_cp xm_L3) (j1 := 1082) (j2 := 139) (j3 := 1081) (j4 := 75) (j5 := 0) (xm_cpok xm_K3) (by decide +kernel)
theorem xm_ok25 : xe_ok xm_T xm_i25 := xm_ok_of (cp := xm_cp xm_L3) (j1 := 1086) (j2 := 139) (j3 := 1085) (j4 := 76) (j5 := 0) (xm_cpok xm_K3) (by decide +kernel)
theorem xm_ok26 : xe_ok xm_T xm_i26 := xm_ok_of (cp := xm_cp xm_L3) (j1 := 1094) (j2 := 139) (j3 := 1093) (j4 := 78) (j5 := 0) (xm_cpok xm_K3) (by decide +kernel)
theorem xm_ok27 : xe_ok xm_T xm_i27 := xm_ok_of (cp := xm_cp xm_L3) (j1 := 1090) (j2 := 139) (j3 := 1089) (j4 := 77) (j5 := 0) (xm_cpok xm_K3) (by decide +kernel)
theorem xm_ok28 : xe_ok xm_T xm_i28 := xm_ok_of (cp := xm_cp xm_L3) (j1 := 1106) (j2 := 139) (j3 := 1105) (j4 := 80) (j5 := 0) (xm_cpok xm_K3) (by decide +kernel)
theorem xm_ok29 : xe_ok xm_T xm_i29 := xm_ok_of (cp := xm_cp xm_L3) (j1 := 1118) (j2 := 139) (j3 := 1117) (j4 := 81) (j5 := 0) (xm_cpok xm_K3) (by decide +kernel)
theorem xm_ok30 : xe_ok xm_T xm_i30 := xm_ok_of (cp := xm_cp xm_L4) (j1 := 185) (j2 := 138) (j3 := 184) (j4 := 0) (j5 := 0) (xm_cpok xm_K4) (by decide +kernel)
theorem xm_ok31 : xe_ok xm_T xm_i31 := xm_ok_of (cp := xm_cp xm_L4) (j1 := 745) (j2 := 138) (j3 := 744) (j4 := 29) (j5 := 0) (xm_cpok xm_K4) (by decide +kernel)
theorem xm_ok32 : xe_ok xm_T xm_i32 := xm_ok_of (cp := xm_cp xm_L4) (j1 := 753) (j2 := 138) (j3 := 752) (j4 := 31) (j5 := 0) (xm_cpok xm_K4) (by decide +kernel)
theorem xm_ok33 : xe_ok xm_T xm_i33 := xm_ok_of (cp := xm_cp xm_L5) (j1 := 297) (j2 := 142) (j3 := 296) (j4 := 0) (j5 := 0) (xm_cpok xm_K5) (by decide +kernel)
theorem xm_ok34 : xe_ok xm_T xm_i34 := xm_ok_of (cp := xm_cp xm_L5) (j1 := 612) (j2 := 142) (j3 := 611) (j4 := 12) (j5 := 0) (xm_cpok xm_K5) (by decide +kernel)
theorem xm_ok35 : xe_ok xm_T xm_i35 := xm_ok_of (cp := xm_cp xm_L5) (j1 := 616) (j2 := 142) (j3 := 615) (j4 := 13) (j5 := 0) (xm_cpok xm_K5) (by decide +kernel)
theorem xm_ok36 : xe_ok xm_T xm_i36 := xm_ok_of (cp := xm_cp xm_L5) (j1 := 622) (j2 := 142) (j3 := 621) (j4 := 14) (j5 := 0) (xm_cpok xm_K5) (by decide +kernel)
theorem xm_ok37 : xe_ok xm_T xm_i37 := xm_ok_of (cp := xm_cp xm_L5) (j1 := 630) (j2 := 142) (j3 := 629) (j4 := 16) (j5 := 0) (xm_cpok xm_K5) (by decide +kernel)
theorem xm_ok38 : xe_ok xm_T xm_i38 := xm_ok_of (cp := xm_cp xm_L5) (j1 := 641) (j2 := 142) (j3 := 640) (j4 := 18) (j5 := 0) (xm_cpok xm_K5) (by decide +kernel)
theorem xm_ok39 : xe_ok xm_T xm_i39 := xm_ok_of (cp := xm_cp xm_L5) (j1 := 645) (j2 := 142) (j3 := 644) (j4 := 19) (j5 := 0) (xm_cpok xm_K5) (by decide +kernel)
theorem xm_ok40 : xe_ok xm_T xm_i40 := xm_ok_of (cp := xm_cp xm_L5) (j1 := 649) (j2 := 142) (j3 := 648) (j4 := 20) (j5 := 0) (xm_cpok xm_K5) (by decide +kernel)
theorem xm_ok41 : xe_ok xm_T xm_i41 := xm_ok_of (cp := xm_cp xm_L5) (j1 := 634) (j2 := 142) (j3 := 633) (j4 := 17) (j5 := 0) (xm_cpok xm_K5) (by decide +kernel)
theorem xm_ok42 : xe_ok xm_T xm_i42 := xm_ok_of (cp := xm_cp xm_L5) (j1 := 626) (j2 := 142) (j3 := 625) (j4 := 15) (j5 := 0) (xm_cpok xm_K5) (by decide +kernel)
theorem xm_ok43 : xe_ok xm_T xm_i43 := xm_ok_of (cp := xm_cp xm_L5) (j1 := 653) (j2 := 142) (j3 := 652) (j4 := 21) (j5 := 0) (xm_cpok xm_K5) (by decide +kernel)
theorem xm_ok44 : xe_ok xm_T xm_i44 := xm_ok_of (cp := xm_cp xm_L5) (j1 := 656) (j2 := 142) (j3 := 0) (j4 := 0) (j5 := 655) (xm_cpok xm_K5) (by decide +kernel)
theorem xm_ok45 : xe_ok xm_T xm_i45 := xm_ok_of (cp := xm_cp xm_L5) (j1 := 637) (j2 := 142) (j3 := 0) (j4 := 0) (j5 := 636) (xm_cpok xm_K5) (by decide +kernel)
theorem xm_ok46 : xe_ok xm_T xm_i46 := xm_ok_of (cp := xm_cp xm_L5) (j1 := 712) (j2 := 142) (j3 := 711) (j4 := 25) (j5 := 0) (xm_cpok xm_K5) (by decide +kernel)
theorem xm_ok47 : xe_ok xm_T xm_i47 := xm_ok_of (cp := xm_cp xm_L5) (j1 := 728) (j2 := 142) (j3 := 727) (j4 := 26) (j5 := 0) (xm_cpok xm_K5) (by decide +kernel)
theorem xm_ok48 : xe_ok xm_T xm_i48 := xm_ok_of (cp := xm_cp xm_L5) (j1 := 732) (j2 := 142) (j3 := 0) (j4 := 0) (j5 := 731) (xm_cpok xm_K5) (by decide +kernel)
theorem xm_ok49 : xe_ok xm_T xm_i49 := xm_ok_of (cp := xm_cp xm_L6) (j1 := 232) (j2 := 140) (j3 := 231) (j4 := 0) (j5 := 0) (xm_cpok xm_K6) (by decide +kernel)
theorem xm_ok50 : xe_ok xm_T xm_i50 := xm_ok_of (cp := xm_cp xm_L6) (j1 := 793) (j2 := 140) (j3 := 792) (j4 := 38) (j5 := 0) (xm_cpok xm_K6) (by decide +kernel)
theorem xm_ok51 : xe_ok xm_T xm_i51 := xm_ok_of (cp := xm_cp xm_L6) (j1 := 757) (j2 := 140) (j3 := 756) (j4 := 32) (j5 := 0) (xm_cpok xm_K6) (by decide +kernel)
theorem xm_ok52 : xe_ok xm_T xm_i52 := xm_ok_of (cp := xm_cp xm_L6) (j1 := 1006) (j2 := 140) (j3 := 1005) (j4 := 65) (j5 := 0) (xm_cpok xm_K6) (by decide +kernel)
theorem xm_ok53 : xe_ok xm_T xm_i53 := xm_ok_of (cp := xm_cp xm_L6) (j1 := 864) (j2 := 140) (j3 := 863) (j4 := 49) (j5 := 0) (xm_cpok xm_K6) (by decide +kernel)
theorem xm_ok54 : xe_ok xm_T xm_i54 := xm_ok_of (cp := xm_cp xm_L6) (j1 := 902) (j2 := 140) (j3 := 901) (j4 := 53) (j5 := 0) (xm_cpok xm_K6) (by decide +kernel)
theorem xm_ok55 : xe_ok xm_T xm_i55 := xm_ok_of (cp := xm_cp xm_L6) (j1 := 1266) (j2 := 140) (j3 := 1265) (j4 := 88) (j5 := 0) (xm_cpok xm_K6) (by decide +kernel)
theorem xm_ok56 : xe_ok xm_T xm_i56 := xm_ok_of (cp := xm_cp xm_L6) (j1 := 830) (j2 := 140) (j3 := 829) (j4 := 45) (j5 := 0) (xm_cpok xm_K6) (by decide +kernel)
theorem xm_ok57 : xe_ok xm_T xm_i57 := xm_ok_of (cp := xm_cp xm_L6) (j1 := 888) (j2 := 140) (j3 := 887) (j4 := 52) (j5 := 0) (xm_cpok xm_K6) (by decide +kernel)
theorem xm_ok58 : xe_ok xm_T xm_i58 := xm_ok_of (cp := xm_cp xm_L6) (j1 := 880) (j2 := 140) (j3 := 879) (j4 := 51) (j5 := 0) (xm_cpok xm_K6) (by decide +kernel)
theorem xm_ok59 : xe_ok xm_T xm_i59 := xm_ok_of (cp := xm_cp xm_L6) (j1 := 811) (j2 := 140) (j3 := 810) (j4 := 41) (j5 := 0) (xm_cpok xm_K6) (by decide +kernel)
theorem xm_ok60 : xe_ok xm_T xm_i60 := xm_ok_of (cp := xm_cp xm_L6) (j1 := 826) (j2 := 140) (j3 := 825) (j4 := 44) (j5 := 0) (xm_cpok xm_K6) (by decide +kernel)
theorem xm_ok61 : xe_ok xm_T xm_i61 := xm_ok_of (cp := xm_cp xm_L7) (j1 := 408) (j2 := 145) (j3 := 407) (j4 := 0) (j5 := 0) (xm_cpok xm_K7) (by decide +kernel)
theorem xm_ok62 : xe_ok xm_T xm_i62 := xm_ok_of (cp := xm_cp xm_L7) (j1 := 910) (j2 := 145) (j3 := 909) (j4 := 54) (j5 := 0) (xm_cpok xm_K7) (by decide +kernel)
theorem xm_ok63 : xe_ok xm_T xm_i63 := xm_ok_of (cp := xm_cp xm_L7) (j1 := 925) (j2 := 145) (j3 := 924) (j4 := 55) (j5 := 0) (xm_cpok xm_K7) (by decide +kernel)
theorem xm_ok64 : xe_ok xm_T xm_i64 := xm_ok_of (cp := xm_cp xm_L7) (j1 := 932) (j2 := 145) (j3 := 931) (j4 := 56) (j5 := 0) (xm_cpok xm_K7) (by decide +kernel)
theorem xm_ok65 : xe_ok xm_T xm_i65 := xm_ok_of (cp := xm_cp xm_L7) (j1 := 937) (j2 := 145) (j3 := 936) (j4 := 57) (j5 := 0) (xm_cpok xm_K7) (by decide +kernel)
theorem xm_ok66 : xe_ok xm_T xm_i66 := xm_ok_of (cp := xm_cp xm_L7) (j1 := 941) (j2 := 145) (j3 := 940) (j4 := 58) (j5 := 0) (xm_cpok xm_K7) (by decide +kernel)
theorem xm_ok67 : xe_ok xm_T xm_i67 := xm_ok_of (cp := xm_cp xm_L7) (j1 := 951) (j2 := 145) (j3 := 950) (j4 := 59) (j5 := 0) (xm_cpok xm_K7) (by decide +kernel)
theorem xm_ok68 : xe_ok xm_T xm_i68 := xm_ok_of (cp := xm_cp xm_L7) (j1 := 974) (j2 := 145) (j3 := 973) (j4 := 62) (j5 := 0) (xm_cpok xm_K7) (by decide +kernel)
theorem xm_ok69 : xe_ok xm_T xm_i69 := xm_ok_of (cp := xm_cp xm_L7) (j1 := 978) (j2 := 145) (j3 := 977) (j4 := 63) (j5 := 0) (xm_cpok xm_K7) (by decide +kernel)
theorem xm_ok70 : xe_ok xm_T xm_i70 := xm_ok_of (cp := xm_cp xm_L7) (j1 := 965) (j2 := 145) (j3 := 964) (j4 := 60) (j5 := 0) (xm_cpok xm_K7) (by decide +kernel)
theorem xm_ok71 : xe_ok xm_T xm_i71 := xm_ok_of (cp := xm_cp xm_L7) (j1 := 970) (j2 := 145) (j3 := 969) (j4 := 61) (j5 := 0) (xm_cpok xm_K7) (by decide +kernel)
theorem xm_ok72 : xe_ok xm_T xm_i72 := xm_ok_of (cp := xm_cp xm_L8) (j1 := 169) (j2 := 137) (j3 := 168) (j4 := 0) (j5 := 0) (xm_cpok xm_K8) (by decide +kernel)
