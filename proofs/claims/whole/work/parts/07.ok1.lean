/-! EVERY METHOD keeps to its bytes: by program, decided by the kernel. -/
/-- places of: code, initialized, instanceMethod, selects, static -/
def xm_okB (inf : xe_I) (cp : xe_cp) (j1 j2 j3 j4 j5 : Nat) : Bool :=
  xm_w j1 (.code (xe_iy inf) (xe_ib inf) (xe_iL inf) (xe_ir inf)) && xm_w j2 (.initialized (xe_iy inf).cls) && plainFor (xe_iy inf) && decide ((xe_iy inf).cls ≠ "java/lang/invoke/MethodHandle") && decide ((xe_iy inf).cls ≠ "java/lang/invoke/VarHandle") && decide ((parseMethodDescriptor (xe_iy inf).desc).map (fun d => d.parameters.length) = some (xe_in inf)) && decide (xe_iL inf ≤ 45) && decide (xe_in inf + (if xe_ik inf = 0 then 0 else 1) ≤ xe_iL inf) &&
  (!(decide (xe_ik inf = 1) || decide (xe_ik inf = 3)) || (xm_w j3 (.instanceMethod (xe_iy inf)) && xm_w j4 (.selects (xe_iy inf).cls (xe_iy inf) (xe_iy inf)) && (match xe_cl[xe_ic inf]? with | some r => decide (r.1 = (xe_iy inf).cls) | none => false))) &&
  (!decide (xe_ik inf = 2) || (xm_w j3 (.instanceMethod (xe_iy inf)) && decide ((xe_iy inf).name = "<init>") && decide (xe_ir inf = none))) &&
  (!decide (xe_ik inf = 0) || xm_w j5 (.static (xe_iy inf))) && decide ((xe_pcs inf).getD 0 0 = 0) &&
  (xe_code inf).zipIdx.all (fun q => xe_chk cp (xe_ib inf) (xe_ik inf) (xe_iy inf).cls (xe_ir inf) (xe_pcs inf) q.2 q.1)
theorem xm_ok_of {T : List xe_I} {inf : xe_I} {cp : xe_cp} {j1 j2 j3 j4 j5 : Nat} (hcp : xe_cpok (xe_iy inf).cls T cp) (h : xm_okB inf cp j1 j2 j3 j4 j5 = true) : xe_ok T inf := by
  simp only [xm_okB, Bool.and_eq_true, Bool.or_eq_true, Bool.not_eq_true', Bool.or_eq_false_iff, decide_eq_false_iff_not, decide_eq_true_eq] at h
  obtain ⟨⟨⟨⟨⟨⟨⟨⟨⟨⟨⟨⟨h1, h2⟩, h3⟩, h4⟩, h5⟩, h6⟩, h7⟩, h8⟩, h9⟩, h10⟩, h11⟩, h12⟩, h13⟩ := h
  refine ⟨xm_w_good h1 rfl, xm_w_good h2 rfl, h3, ⟨h4, h5, h6⟩, h7, h8, fun q => ?_, fun q => ?_, fun q => ?_, h12, cp, hcp, fun i ins hi => ?_⟩
  · rcases h9 with h | ⟨⟨a1, a2⟩, a3⟩
    · exact absurd q (fun q => q.elim h.1 h.2)
    · refine ⟨xm_w_good a1 rfl, xm_w_good a2 rfl, ?_⟩
      split at a3
      · rename_i r hr
        exact ⟨r, hr, of_decide_eq_true a3⟩
      · cases a3
  · rcases h10 with h | ⟨⟨a1, a2⟩, a3⟩
    · exact absurd q h
    · exact ⟨xm_w_good a1 rfl, a2, a3⟩
  · rcases h11 with h | h
    · exact absurd q h
    · exact xm_w_good h rfl
  · have := List.all_eq_true.mp h13 (ins, i) (List.mem_zipIdx_iff_getElem?.mpr hi)
    exact this
theorem xm_ok0 : xe_ok xm_T xm_i0 := xm_ok_of (cp := xm_cp xm_L0) (j1 := 720) (j2 := 150) (j3 := 0) (j4 := 0) (j5 := 719) (xm_cpok xm_K0) (by decide +kernel)
theorem xm_ok1 : xe_ok xm_T xm_i1 := xm_ok_of (cp := xm_cp xm_L0) (j1 := 1668) (j2 := 150) (j3 := 0) (j4 := 0) (j5 := 1667) (xm_cpok xm_K0) (by decide +kernel)
theorem xm_ok2 : xe_ok xm_T xm_i2 := xm_ok_of (cp := xm_cp ([], [], [], [], [], [])) (j1 := 717) (j2 := 148) (j3 := 0) (j4 := 0) (j5 := 716) (xm_cpok (L := ([], [], [], [], [], [])) rfl) (by decide +kernel)
theorem xm_ok3 : xe_ok xm_T xm_i3 := xm_ok_of (cp := xm_cp ([], [], [], [], [], [])) (j1 := 875) (j2 := 148) (j3 := 0) (j4 := 0) (j5 := 874) (xm_cpok (L := ([], [], [], [], [], [])) rfl) (by decide +kernel)
theorem xm_ok4 : xe_ok xm_T xm_i4 := xm_ok_of (cp := xm_cp ([], [], [], [], [], [])) (j1 := 658) (j2 := 148) (j3 := 0) (j4 := 0) (j5 := 657) (xm_cpok (L := ([], [], [], [], [], [])) rfl) (by decide +kernel)
theorem xm_ok5 : xe_ok xm_T xm_i5 := xm_ok_of (cp := xm_cp ([], [], [], [], [], [])) (j1 := 554) (j2 := 148) (j3 := 0) (j4 := 0) (j5 := 553) (xm_cpok (L := ([], [], [], [], [], [])) rfl) (by decide +kernel)
theorem xm_ok6 : xe_ok xm_T xm_i6 := xm_ok_of (cp := xm_cp ([], [], [], [], [], [])) (j1 := 801) (j2 := 155) (j3 := 0) (j4 := 0) (j5 := 800) (xm_cpok (L := ([], [], [], [], [], [])) rfl) (by decide +kernel)
theorem xm_ok7 : xe_ok xm_T xm_i7 := xm_ok_of (cp := xm_cp xm_L1) (j1 := 346) (j2 := 143) (j3 := 345) (j4 := 0) (j5 := 0) (xm_cpok xm_K1) (by decide +kernel)
theorem xm_ok8 : xe_ok xm_T xm_i8 := xm_ok_of (cp := xm_cp xm_L1) (j1 := 703) (j2 := 143) (j3 := 702) (j4 := 23) (j5 := 0) (xm_cpok xm_K1) (by decide +kernel)
theorem xm_ok9 : xe_ok xm_T xm_i9 := xm_ok_of (cp := xm_cp xm_L1) (j1 := 707) (j2 := 143) (j3 := 706) (j4 := 24) (j5 := 0) (xm_cpok xm_K1) (by decide +kernel)
theorem xm_ok10 : xe_ok xm_T xm_i10 := xm_ok_of (cp := xm_cp xm_L1) (j1 := 735) (j2 := 143) (j3 := 734) (j4 := 27) (j5 := 0) (xm_cpok xm_K1) (by decide +kernel)
theorem xm_ok11 : xe_ok xm_T xm_i11 := xm_ok_of (cp := xm_cp xm_L1) (j1 := 739) (j2 := 143) (j3 := 738) (j4 := 28) (j5 := 0) (xm_cpok xm_K1) (by decide +kernel)
theorem xm_ok12 : xe_ok xm_T xm_i12 := xm_ok_of (cp := xm_cp xm_L1) (j1 := 760) (j2 := 143) (j3 := 759) (j4 := 33) (j5 := 0) (xm_cpok xm_K1) (by decide +kernel)
theorem xm_ok13 : xe_ok xm_T xm_i13 := xm_ok_of (cp := xm_cp xm_L1) (j1 := 748) (j2 := 143) (j3 := 747) (j4 := 30) (j5 := 0) (xm_cpok xm_K1) (by decide +kernel)
theorem xm_ok14 : xe_ok xm_T xm_i14 := xm_ok_of (cp := xm_cp xm_L1) (j1 := 772) (j2 := 143) (j3 := 771) (j4 := 35) (j5 := 0) (xm_cpok xm_K1) (by decide +kernel)
theorem xm_ok15 : xe_ok xm_T xm_i15 := xm_ok_of (cp := xm_cp xm_L1) (j1 := 768) (j2 := 143) (j3 := 767) (j4 := 34) (j5 := 0) (xm_cpok xm_K1) (by decide +kernel)
theorem xm_ok16 : xe_ok xm_T xm_i16 := xm_ok_of (cp := xm_cp xm_L2) (j1 := 268) (j2 := 140) (j3 := 267) (j4 := 0) (j5 := 0) (xm_cpok xm_K2) (by decide +kernel)
theorem xm_ok17 : xe_ok xm_T xm_i17 := xm_ok_of (cp := xm_cp xm_L2) (j1 := 788) (j2 := 140) (j3 := 787) (j4 := 37) (j5 := 0) (xm_cpok xm_K2) (by decide +kernel)
theorem xm_ok18 : xe_ok xm_T xm_i18 := xm_ok_of (cp := xm_cp xm_L2) (j1 := 864) (j2 := 140) (j3 := 863) (j4 := 49) (j5 := 0) (xm_cpok xm_K2) (by decide +kernel)
theorem xm_ok19 : xe_ok xm_T xm_i19 := xm_ok_of (cp := xm_cp xm_L2) (j1 := 586) (j2 := 140) (j3 := 585) (j4 := 9) (j5 := 0) (xm_cpok xm_K2) (by decide +kernel)
theorem xm_ok20 : xe_ok xm_T xm_i20 := xm_ok_of (cp := xm_cp xm_L3) (j1 := 199) (j2 := 138) (j3 := 198) (j4 := 0) (j5 := 0) (xm_cpok xm_K3) (by decide +kernel)
theorem xm_ok21 : xe_ok xm_T xm_i21 := xm_ok_of (cp := xm_cp xm_L3) (j1 := 594) (j2 := 138) (j3 := 593) (j4 := 10) (j5 := 0) (xm_cpok xm_K3) (by decide +kernel)
theorem xm_ok22 : xe_ok xm_T xm_i22 := xm_ok_of (cp := xm_cp xm_L3) (j1 := 669) (j2 := 138) (j3 := 668) (j4 := 22) (j5 := 0) (xm_cpok xm_K3) (by decide +kernel)
theorem xm_ok23 : xe_ok xm_T xm_i23 := xm_ok_of (cp := xm_cp xm_L3) (j1 := 1117) (j2 := 138) (j3 := 1116) (j4 := 81) (j5 := 0) (xm_cpok xm_K3) (by decide +kernel)
theorem xm_ok24 : xe_ok xm_T xm_i24 := xm_ok_of (cp := xm_cp xm_L3) (j1 := 1077) (j2 := 138) (j3 := 1076) (j4 := 74) (j5 := 0) (xm_cpok xm_K3) (by decide +kernel)
theorem xm_ok25 : xe_ok xm_T xm_i25 := xm_ok_of (cp := xm_cp xm_L3) (j1 := 1081) (j2 := 138) (j3 := 1080) (j4 := 75) (j5 := 0) (xm_cpok xm_K3) (by decide +kernel)
theorem xm_ok26 : xe_ok xm_T xm_i26 := xm_ok_of (cp := xm_cp xm_L3) (j1 := 1089) (j2 := 138) (j3 := 1088) (j4 := 77) (j5 := 0) (xm_cpok xm_K3) (by decide +kernel)
theorem xm_ok27 : xe_ok xm_T xm_i27 := xm_ok_of (cp := xm_cp xm_L3) (j1 := 1085) (j2 := 138) (j3 := 1084) (j4 := 76) (j5 := 0) (xm_cpok xm_K3) (by decide +kernel)
theorem xm_ok28 : xe_ok xm_T xm_i28 := xm_ok_of (cp := xm_cp xm_L3) (j1 := 1101) (j2 := 138) (j3 := 1100) (j4 := 79) (j5 := 0) (xm_cpok xm_K3) (by decide +kernel)
theorem xm_ok29 : xe_ok xm_T xm_i29 := xm_ok_of (cp := xm_cp xm_L3) (j1 := 1113) (j2 := 138) (j3 := 1112) (j4 := 80) (j5 := 0) (xm_cpok xm_K3) (by decide +kernel)
theorem xm_ok30 : xe_ok xm_T xm_i30 := xm_ok_of (cp := xm_cp xm_L4) (j1 := 184) (j2 := 137) (j3 := 183) (j4 := 0) (j5 := 0) (xm_cpok xm_K4) (by decide +kernel)
theorem xm_ok31 : xe_ok xm_T xm_i31 := xm_ok_of (cp := xm_cp xm_L4) (j1 := 744) (j2 := 137) (j3 := 743) (j4 := 29) (j5 := 0) (xm_cpok xm_K4) (by decide +kernel)
theorem xm_ok32 : xe_ok xm_T xm_i32 := xm_ok_of (cp := xm_cp xm_L4) (j1 := 752) (j2 := 137) (j3 := 751) (j4 := 31) (j5 := 0) (xm_cpok xm_K4) (by decide +kernel)
theorem xm_ok33 : xe_ok xm_T xm_i33 := xm_ok_of (cp := xm_cp xm_L5) (j1 := 296) (j2 := 141) (j3 := 295) (j4 := 0) (j5 := 0) (xm_cpok xm_K5) (by decide +kernel)
theorem xm_ok34 : xe_ok xm_T xm_i34 := xm_ok_of (cp := xm_cp xm_L5) (j1 := 611) (j2 := 141) (j3 := 610) (j4 := 12) (j5 := 0) (xm_cpok xm_K5) (by decide +kernel)
theorem xm_ok35 : xe_ok xm_T xm_i35 := xm_ok_of (cp := xm_cp xm_L5) (j1 := 615) (j2 := 141) (j3 := 614) (j4 := 13) (j5 := 0) (xm_cpok xm_K5) (by decide +kernel)
theorem xm_ok36 : xe_ok xm_T xm_i36 := xm_ok_of (cp := xm_cp xm_L5) (j1 := 621) (j2 := 141) (j3 := 620) (j4 := 14) (j5 := 0) (xm_cpok xm_K5) (by decide +kernel)
theorem xm_ok37 : xe_ok xm_T xm_i37 := xm_ok_of (cp := xm_cp xm_L5) (j1 := 629) (j2 := 141) (j3 := 628) (j4 := 16) (j5 := 0) (xm_cpok xm_K5) (by decide +kernel)
theorem xm_ok38 : xe_ok xm_T xm_i38 := xm_ok_of (cp := xm_cp xm_L5) (j1 := 640) (j2 := 141) (j3 := 639) (j4 := 18) (j5 := 0) (xm_cpok xm_K5) (by decide +kernel)
theorem xm_ok39 : xe_ok xm_T xm_i39 := xm_ok_of (cp := xm_cp xm_L5) (j1 := 644) (j2 := 141) (j3 := 643) (j4 := 19) (j5 := 0) (xm_cpok xm_K5) (by decide +kernel)
theorem xm_ok40 : xe_ok xm_T xm_i40 := xm_ok_of (cp := xm_cp xm_L5) (j1 := 648) (j2 := 141) (j3 := 647) (j4 := 20) (j5 := 0) (xm_cpok xm_K5) (by decide +kernel)
theorem xm_ok41 : xe_ok xm_T xm_i41 := xm_ok_of (cp := xm_cp xm_L5) (j1 := 633) (j2 := 141) (j3 := 632) (j4 := 17) (j5 := 0) (xm_cpok xm_K5) (by decide +kernel)
theorem xm_ok42 : xe_ok xm_T xm_i42 := xm_ok_of (cp := xm_cp xm_L5) (j1 := 625) (j2 := 141) (j3 := 624) (j4 := 15) (j5 := 0) (xm_cpok xm_K5) (by decide +kernel)
theorem xm_ok43 : xe_ok xm_T xm_i43 := xm_ok_of (cp := xm_cp xm_L5) (j1 := 652) (j2 := 141) (j3 := 651) (j4 := 21) (j5 := 0) (xm_cpok xm_K5) (by decide +kernel)
theorem xm_ok44 : xe_ok xm_T xm_i44 := xm_ok_of (cp := xm_cp xm_L5) (j1 := 655) (j2 := 141) (j3 := 0) (j4 := 0) (j5 := 654) (xm_cpok xm_K5) (by decide +kernel)
theorem xm_ok45 : xe_ok xm_T xm_i45 := xm_ok_of (cp := xm_cp xm_L5) (j1 := 636) (j2 := 141) (j3 := 0) (j4 := 0) (j5 := 635) (xm_cpok xm_K5) (by decide +kernel)
theorem xm_ok46 : xe_ok xm_T xm_i46 := xm_ok_of (cp := xm_cp xm_L5) (j1 := 711) (j2 := 141) (j3 := 710) (j4 := 25) (j5 := 0) (xm_cpok xm_K5) (by decide +kernel)
theorem xm_ok47 : xe_ok xm_T xm_i47 := xm_ok_of (cp := xm_cp xm_L5) (j1 := 727) (j2 := 141) (j3 := 726) (j4 := 26) (j5 := 0) (xm_cpok xm_K5) (by decide +kernel)
theorem xm_ok48 : xe_ok xm_T xm_i48 := xm_ok_of (cp := xm_cp xm_L5) (j1 := 731) (j2 := 141) (j3 := 0) (j4 := 0) (j5 := 730) (xm_cpok xm_K5) (by decide +kernel)
theorem xm_ok49 : xe_ok xm_T xm_i49 := xm_ok_of (cp := xm_cp xm_L6) (j1 := 231) (j2 := 139) (j3 := 230) (j4 := 0) (j5 := 0) (xm_cpok xm_K6) (by decide +kernel)
theorem xm_ok50 : xe_ok xm_T xm_i50 := xm_ok_of (cp := xm_cp xm_L6) (j1 := 792) (j2 := 139) (j3 := 791) (j4 := 38) (j5 := 0) (xm_cpok xm_K6) (by decide +kernel)
theorem xm_ok51 : xe_ok xm_T xm_i51 := xm_ok_of (cp := xm_cp xm_L6) (j1 := 756) (j2 := 139) (j3 := 755) (j4 := 32) (j5 := 0) (xm_cpok xm_K6) (by decide +kernel)
theorem xm_ok52 : xe_ok xm_T xm_i52 := xm_ok_of (cp := xm_cp xm_L6) (j1 := 1001) (j2 := 139) (j3 := 1000) (j4 := 64) (j5 := 0) (xm_cpok xm_K6) (by decide +kernel)
theorem xm_ok53 : xe_ok xm_T xm_i53 := xm_ok_of (cp := xm_cp xm_L6) (j1 := 856) (j2 := 139) (j3 := 855) (j4 := 48) (j5 := 0) (xm_cpok xm_K6) (by decide +kernel)
theorem xm_ok54 : xe_ok xm_T xm_i54 := xm_ok_of (cp := xm_cp xm_L6) (j1 := 897) (j2 := 139) (j3 := 896) (j4 := 52) (j5 := 0) (xm_cpok xm_K6) (by decide +kernel)
theorem xm_ok55 : xe_ok xm_T xm_i55 := xm_ok_of (cp := xm_cp xm_L6) (j1 := 1261) (j2 := 139) (j3 := 1260) (j4 := 87) (j5 := 0) (xm_cpok xm_K6) (by decide +kernel)
theorem xm_ok56 : xe_ok xm_T xm_i56 := xm_ok_of (cp := xm_cp xm_L6) (j1 := 822) (j2 := 139) (j3 := 821) (j4 := 44) (j5 := 0) (xm_cpok xm_K6) (by decide +kernel)
theorem xm_ok57 : xe_ok xm_T xm_i57 := xm_ok_of (cp := xm_cp xm_L6) (j1 := 883) (j2 := 139) (j3 := 882) (j4 := 51) (j5 := 0) (xm_cpok xm_K6) (by decide +kernel)
theorem xm_ok58 : xe_ok xm_T xm_i58 := xm_ok_of (cp := xm_cp xm_L6) (j1 := 872) (j2 := 139) (j3 := 871) (j4 := 50) (j5 := 0) (xm_cpok xm_K6) (by decide +kernel)
theorem xm_ok59 : xe_ok xm_T xm_i59 := xm_ok_of (cp := xm_cp xm_L6) (j1 := 810) (j2 := 139) (j3 := 809) (j4 := 41) (j5 := 0) (xm_cpok xm_K6) (by decide +kernel)
theorem xm_ok60 : xe_ok xm_T xm_i60 := xm_ok_of (cp := xm_cp xm_L6) (j1 := 818) (j2 := 139) (j3 := 817) (j4 := 43) (j5 := 0) (xm_cpok xm_K6) (by decide +kernel)
theorem xm_ok61 : xe_ok xm_T xm_i61 := xm_ok_of (cp := xm_cp xm_L7) (j1 := 407) (j2 := 144) (j3 := 406) (j4 := 0) (j5 := 0) (xm_cpok xm_K7) (by decide +kernel)
theorem xm_ok62 : xe_ok xm_T xm_i62 := xm_ok_of (cp := xm_cp xm_L7) (j1 := 905) (j2 := 144) (j3 := 904) (j4 := 53) (j5 := 0) (xm_cpok xm_K7) (by decide +kernel)
theorem xm_ok63 : xe_ok xm_T xm_i63 := xm_ok_of (cp := xm_cp xm_L7) (j1 := 920) (j2 := 144) (j3 := 919) (j4 := 54) (j5 := 0) (xm_cpok xm_K7) (by decide +kernel)
theorem xm_ok64 : xe_ok xm_T xm_i64 := xm_ok_of (cp := xm_cp xm_L7) (j1 := 927) (j2 := 144) (j3 := 926) (j4 := 55) (j5 := 0) (xm_cpok xm_K7) (by decide +kernel)
theorem xm_ok65 : xe_ok xm_T xm_i65 := xm_ok_of (cp := xm_cp xm_L7) (j1 := 932) (j2 := 144) (j3 := 931) (j4 := 56) (j5 := 0) (xm_cpok xm_K7) (by decide +kernel)
theorem xm_ok66 : xe_ok xm_T xm_i66 := xm_ok_of (cp := xm_cp xm_L7) (j1 := 936) (j2 := 144) (j3 := 935) (j4 := 57) (j5 := 0) (xm_cpok xm_K7) (by decide +kernel)
theorem xm_ok67 : xe_ok xm_T xm_i67 := xm_ok_of (cp := xm_cp xm_L7) (j1 := 946) (j2 := 144) (j3 := 945) (j4 := 58) (j5 := 0) (xm_cpok xm_K7) (by decide +kernel)
theorem xm_ok68 : xe_ok xm_T xm_i68 := xm_ok_of (cp := xm_cp xm_L7) (j1 := 969) (j2 := 144) (j3 := 968) (j4 := 61) (j5 := 0) (xm_cpok xm_K7) (by decide +kernel)
theorem xm_ok69 : xe_ok xm_T xm_i69 := xm_ok_of (cp := xm_cp xm_L7) (j1 := 973) (j2 := 144) (j3 := 972) (j4 := 62) (j5 := 0) (xm_cpok xm_K7) (by decide +kernel)
theorem xm_ok70 : xe_ok xm_T xm_i70 := xm_ok_of (cp := xm_cp xm_L7) (j1 := 960) (j2 := 144) (j3 := 959) (j4 := 59) (j5 := 0) (xm_cpok xm_K7) (by decide +kernel)
theorem xm_ok71 : xe_ok xm_T xm_i71 := xm_ok_of (cp := xm_cp xm_L7) (j1 := 965) (j2 := 144) (j3 := 964) (j4 := 60) (j5 := 0) (xm_cpok xm_K7) (by decide +kernel)
