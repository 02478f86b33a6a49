/-! THE MAKING: the class, and the start of the law. -/
def mF (L : Nat) (xs : Nat → Int32) (N : xe_M) (z : Nat) (fs : List Value) (M : xe_M) : Prop := M 1 = .inr (11, fs) ∧ M 0 = N 0 ∧ (∀ p, 2 ≤ p → p < z → M p = cT L xs p) ∧ ∀ p, z ≤ p → M p = N p
section MA4
variable {D L : Nat} {xs : Nat → Int32} {Q : xe_Q} {N M : xe_M} {kc ks : Nat} {fs : List Value}
theorem ob_0 (m : mF L xs N 2 [.null, .null, .null, .null, .null, .null, .null, .null, .null, .null, .null] M) (hb : 2 ≤ kc ∧ 82 ≤ ks) (h : ∀ M2, mF L xs N 4 [.ref 2, .null, .null, .null, .null, .null, .null, .null, .null, .null, .null] M2 → xe_Ev xm_T (xe_Call xm_T (D + 2)) xm_c97 Q 7 [.ref 1] [] (kc - 1 - 1) (ks - 2 - 80) 4 M2) : xe_Ev xm_T (xe_Call xm_T (D + 2)) xm_c97 Q 2 [.ref 1] [] kc ks 2 M := by
  obtain ⟨m1, m2, m3, m4⟩ := m
  refine it_obj (c := 7) (g := 72) (f := 704) (a := 1) (fs := [.null, .null, .null, .null, .null, .null, .null, .null, .null, .null, .null]) rfl rfl rfl rfl rfl rfl (by decide) rfl rfl rfl rfl rfl ⟨by omega, by show 2 ≤ ks; omega, by show 1 ≤ kc - 1; omega, by show 80 ≤ ks - 2; omega⟩ m1 (by decide) rfl (cn_72 (fun fs' efs => ⟨rfl, by decide, m1, h _ ⟨up_at, m2, fun p a b => ?_, fun p a => ?_⟩⟩))
  · by_cases y : p < 2
    · rw [va_up_ne _ _ (by omega), va_up_ne _ _ (by omega), va_up_ne _ _ (by omega)]; exact m3 p a y
    · subst efs
      have : p = 2 ∨ p = 3 := by omega
      rcases this with rfl | rfl <;> rfl
  · rw [va_up_ne _ _ (by omega), va_up_ne _ _ (by omega), va_up_ne _ _ (by omega)]; exact m4 p (by omega)
theorem ob_1 (m : mF L xs N 4 [.ref 2, .null, .null, .null, .null, .null, .null, .null, .null, .null, .null] M) (hb : 2 ≤ kc ∧ 14 ≤ ks) (h : ∀ M2, mF L xs N 6 [.ref 2, .ref 4, .null, .null, .null, .null, .null, .null, .null, .null, .null] M2 → xe_Ev xm_T (xe_Call xm_T (D + 2)) xm_c97 Q 12 [.ref 1] [] (kc - 1 - 1) (ks - 2 - 12) 6 M2) : xe_Ev xm_T (xe_Call xm_T (D + 2)) xm_c97 Q 7 [.ref 1] [] kc ks 4 M := by
  obtain ⟨m1, m2, m3, m4⟩ := m
  refine it_obj (c := 3) (g := 30) (f := 705) (a := 1) (fs := [.ref 2, .null, .null, .null, .null, .null, .null, .null, .null, .null, .null]) rfl rfl rfl rfl rfl rfl (by decide) rfl rfl rfl rfl rfl ⟨by omega, by show 2 ≤ ks; omega, by show 1 ≤ kc - 1; omega, by show 12 ≤ ks - 2; omega⟩ m1 (by decide) rfl (cn_30 (fun fs' efs => ⟨rfl, by decide, m1, h _ ⟨up_at, m2, fun p a b => ?_, fun p a => ?_⟩⟩))
  · by_cases y : p < 4
    · rw [va_up_ne _ _ (by omega), va_up_ne _ _ (by omega), va_up_ne _ _ (by omega)]; exact m3 p a y
    · subst efs
      have : p = 4 ∨ p = 5 := by omega
      rcases this with rfl | rfl <;> rfl
  · rw [va_up_ne _ _ (by omega), va_up_ne _ _ (by omega), va_up_ne _ _ (by omega)]; exact m4 p (by omega)
theorem ob_2 (m : mF L xs N 6 [.ref 2, .ref 4, .null, .null, .null, .null, .null, .null, .null, .null, .null] M) (hb : 5 ≤ kc ∧ 683 ≤ ks) (h : ∀ M2, mF L xs N 11 [.ref 2, .ref 4, .ref 6, .null, .null, .null, .null, .null, .null, .null, .null] M2 → xe_Ev xm_T (xe_Call xm_T (D + 2)) xm_c97 Q 17 [.ref 1] [] (kc - 1 - 4) (ks - 5 - 678) 11 M2) : xe_Ev xm_T (xe_Call xm_T (D + 2)) xm_c97 Q 12 [.ref 1] [] kc ks 6 M := by
  obtain ⟨m1, m2, m3, m4⟩ := m
  refine it_obj (c := 2) (g := 20) (f := 706) (a := 1) (fs := [.ref 2, .ref 4, .null, .null, .null, .null, .null, .null, .null, .null, .null]) rfl rfl rfl rfl rfl rfl (by decide) rfl rfl rfl rfl rfl ⟨by omega, by show 5 ≤ ks; omega, by show 4 ≤ kc - 1; omega, by show 678 ≤ ks - 5; omega⟩ m1 (by decide) rfl (cn_20 (fun M' q1 q2 q3 q4 q5 q6 => ⟨rfl, by decide, (q1 1 (by decide)).trans m1, h _ ⟨up_at, ?_, fun p a b => ?_, fun p a => ?_⟩⟩))
  · rw [va_up_ne _ _ (by decide), q1 0 (by decide)]; exact m2
  · rw [va_up_ne _ _ (by omega)]
    by_cases y : p < 6
    · rw [q1 p (by omega)]; exact m3 p a y
    · have : p = 6 ∨ p = 7 ∨ p = 8 ∨ p = 9 ∨ p = 10 := by omega
      rcases this with rfl | rfl | rfl | rfl | rfl
      · rw [q2]; rfl
      · rw [q3]; rfl
      · rw [q4]; rfl
      · rw [q5]; rfl
      · rw [q6]; rfl
  · rw [va_up_ne _ _ (by omega), q1 p (by omega)]; exact m4 p (by omega)
theorem ob_3 (m : mF L xs N 11 [.ref 2, .ref 4, .ref 6, .null, .null, .null, .null, .null, .null, .null, .null] M) (hb : 6 ≤ kc ∧ 117 ≤ ks) (h : ∀ M2, mF L xs N 17 [.ref 2, .ref 4, .ref 6, .ref 11, .null, .null, .null, .null, .null, .null, .null] M2 → xe_Ev xm_T (xe_Call xm_T (D + 2)) xm_c97 Q 22 [.ref 1] [] (kc - 1 - 5) (ks - 6 - 111) 17 M2) : xe_Ev xm_T (xe_Call xm_T (D + 2)) xm_c97 Q 17 [.ref 1] [] kc ks 11 M := by
  obtain ⟨m1, m2, m3, m4⟩ := m
  refine it_obj (c := 5) (g := 49) (f := 707) (a := 1) (fs := [.ref 2, .ref 4, .ref 6, .null, .null, .null, .null, .null, .null, .null, .null]) rfl rfl rfl rfl rfl rfl (by decide) rfl rfl rfl rfl rfl ⟨by omega, by show 6 ≤ ks; omega, by show 5 ≤ kc - 1; omega, by show 111 ≤ ks - 6; omega⟩ m1 (by decide) rfl (cn_49 (by decide) (fun fs' efs => ⟨rfl, by decide, m1, h _ ⟨up_at, m2, fun p a b => ?_, fun p a => ?_⟩⟩))
  · by_cases y : p < 11
    · rw [va_up_ne _ _ (by omega), va_up_ne _ _ (by omega), va_up_ne _ _ (by omega), va_up_ne _ _ (by omega), va_up_ne _ _ (by omega), va_up_ne _ _ (by omega), va_up_ne _ _ (by omega)]; exact m3 p a y
    · subst efs
      rw [va_up_ne _ _ (by omega)]
      exact sMk_T (M := M) (z := 11) (by decide) (by decide) (by decide) (by omega)
  · rw [va_up_ne _ _ (by omega), va_up_ne _ _ (by omega), va_up_ne _ _ (by omega), va_up_ne _ _ (by omega), va_up_ne _ _ (by omega), va_up_ne _ _ (by omega), va_up_ne _ _ (by omega)]; exact m4 p (by omega)
theorem ob_4 (m : mF L xs N 17 [.ref 2, .ref 4, .ref 6, .ref 11, .null, .null, .null, .null, .null, .null, .null] M) (hb : 6 ≤ kc ∧ 117 ≤ ks) (h : ∀ M2, mF L xs N 23 [.ref 2, .ref 4, .ref 6, .ref 11, .ref 17, .null, .null, .null, .null, .null, .null] M2 → xe_Ev xm_T (xe_Call xm_T (D + 2)) xm_c97 Q 27 [.ref 1] [] (kc - 1 - 5) (ks - 6 - 111) 23 M2) : xe_Ev xm_T (xe_Call xm_T (D + 2)) xm_c97 Q 22 [.ref 1] [] kc ks 17 M := by
  obtain ⟨m1, m2, m3, m4⟩ := m
  refine it_obj (c := 5) (g := 49) (f := 708) (a := 1) (fs := [.ref 2, .ref 4, .ref 6, .ref 11, .null, .null, .null, .null, .null, .null, .null]) rfl rfl rfl rfl rfl rfl (by decide) rfl rfl rfl rfl rfl ⟨by omega, by show 6 ≤ ks; omega, by show 5 ≤ kc - 1; omega, by show 111 ≤ ks - 6; omega⟩ m1 (by decide) rfl (cn_49 (by decide) (fun fs' efs => ⟨rfl, by decide, m1, h _ ⟨up_at, m2, fun p a b => ?_, fun p a => ?_⟩⟩))
  · by_cases y : p < 17
    · rw [va_up_ne _ _ (by omega), va_up_ne _ _ (by omega), va_up_ne _ _ (by omega), va_up_ne _ _ (by omega), va_up_ne _ _ (by omega), va_up_ne _ _ (by omega), va_up_ne _ _ (by omega)]; exact m3 p a y
    · subst efs
      rw [va_up_ne _ _ (by omega)]
      exact sMk_T (M := M) (z := 17) (by decide) (by decide) (by decide) (by omega)
  · rw [va_up_ne _ _ (by omega), va_up_ne _ _ (by omega), va_up_ne _ _ (by omega), va_up_ne _ _ (by omega), va_up_ne _ _ (by omega), va_up_ne _ _ (by omega), va_up_ne _ _ (by omega)]; exact m4 p (by omega)
theorem ob_5 (m : mF L xs N 23 [.ref 2, .ref 4, .ref 6, .ref 11, .ref 17, .null, .null, .null, .null, .null, .null] M) (hb : 88 ≤ kc ∧ 1659 ≤ ks) (h : ∀ M2, mF L xs N 111 [.ref 2, .ref 4, .ref 6, .ref 11, .ref 17, .ref 23, .null, .null, .null, .null, .null] M2 → xe_Ev xm_T (xe_Call xm_T (D + 2)) xm_c97 Q 32 [.ref 1] [] (kc - 1 - 87) (ks - 5 - 1654) 111 M2) : xe_Ev xm_T (xe_Call xm_T (D + 2)) xm_c97 Q 27 [.ref 1] [] kc ks 23 M := by
  obtain ⟨m1, m2, m3, m4⟩ := m
  refine it_obj (c := 1) (g := 16) (f := 709) (a := 1) (fs := [.ref 2, .ref 4, .ref 6, .ref 11, .ref 17, .null, .null, .null, .null, .null, .null]) rfl rfl rfl rfl rfl rfl (by decide) rfl rfl rfl rfl rfl ⟨by omega, by show 5 ≤ ks; omega, by show 87 ≤ kc - 1; omega, by show 1654 ≤ ks - 5; omega⟩ m1 (by decide) rfl (cn_16 (L := L) (xs := xs) (fun M' q1 q2 => ⟨rfl, by decide, (q1 1 (by decide)).trans m1, h _ ⟨up_at, ?_, fun p a b => ?_, fun p a => ?_⟩⟩))
  · rw [va_up_ne _ _ (by decide), q1 0 (by decide)]; exact m2
  · rw [va_up_ne _ _ (by omega)]
    by_cases y : p < 23
    · rw [q1 p (by omega)]; exact m3 p a y
    · exact q2 p (by omega) b
  · rw [va_up_ne _ _ (by omega), q1 p (by omega)]; exact m4 p (by omega)
theorem ob_6 (m : mF L xs N 111 [.ref 2, .ref 4, .ref 6, .ref 11, .ref 17, .ref 23, .null, .null, .null, .null, .null] M) (hb : 7 ≤ kc ∧ 184 ≤ ks) (h : ∀ M2, mF L xs N 118 [.ref 2, .ref 4, .ref 6, .ref 11, .ref 17, .ref 23, .ref 111, .null, .null, .null, .null] M2 → xe_Ev xm_T (xe_Call xm_T (D + 2)) xm_c97 Q 37 [.ref 1] [] (kc - 1 - 6) (ks - 12 - 172) 118 M2) : xe_Ev xm_T (xe_Call xm_T (D + 2)) xm_c97 Q 32 [.ref 1] [] kc ks 111 M := by
  obtain ⟨m1, m2, m3, m4⟩ := m
  refine it_obj (c := 4) (g := 33) (f := 710) (a := 1) (fs := [.ref 2, .ref 4, .ref 6, .ref 11, .ref 17, .ref 23, .null, .null, .null, .null, .null]) rfl rfl rfl rfl rfl rfl (by decide) rfl rfl rfl rfl rfl ⟨by omega, by show 12 ≤ ks; omega, by show 6 ≤ kc - 1; omega, by show 172 ≤ ks - 12; omega⟩ m1 (by decide) rfl (cn_33 (fun fs' efs => ⟨rfl, by decide, m1, h _ ⟨up_at, m2, fun p a b => ?_, fun p a => ?_⟩⟩))
  · by_cases y : p < 111
    · rw [va_up_ne _ _ (by omega), va_up_ne _ _ (by omega), va_up_ne _ _ (by omega), va_up_ne _ _ (by omega), va_up_ne _ _ (by omega), va_up_ne _ _ (by omega), va_up_ne _ _ (by omega), va_up_ne _ _ (by omega)]; exact m3 p a y
    · subst efs
      have : p = 111 ∨ p = 112 ∨ p = 113 ∨ p = 114 ∨ p = 115 ∨ p = 116 ∨ p = 117 := by omega
      rcases this with rfl | rfl | rfl | rfl | rfl | rfl | rfl <;> rfl
  · rw [va_up_ne _ _ (by omega), va_up_ne _ _ (by omega), va_up_ne _ _ (by omega), va_up_ne _ _ (by omega), va_up_ne _ _ (by omega), va_up_ne _ _ (by omega), va_up_ne _ _ (by omega), va_up_ne _ _ (by omega)]; exact m4 p (by omega)
theorem ob_7 (m : mF L xs N 118 [.ref 2, .ref 4, .ref 6, .ref 11, .ref 17, .ref 23, .ref 111, .null, .null, .null, .null] M) (hb : 9 ≤ kc ∧ 150 ≤ ks) (h : ∀ M2, mF L xs N 127 [.ref 2, .ref 4, .ref 6, .ref 11, .ref 17, .ref 23, .ref 111, .ref 118, .null, .null, .null] M2 → xe_Ev xm_T (xe_Call xm_T (D + 2)) xm_c97 Q 42 [.ref 1] [] (kc - 1 - 8) (ks - 5 - 145) 127 M2) : xe_Ev xm_T (xe_Call xm_T (D + 2)) xm_c97 Q 37 [.ref 1] [] kc ks 118 M := by
  obtain ⟨m1, m2, m3, m4⟩ := m
  refine it_obj (c := 9) (g := 84) (f := 711) (a := 1) (fs := [.ref 2, .ref 4, .ref 6, .ref 11, .ref 17, .ref 23, .ref 111, .null, .null, .null, .null]) rfl rfl rfl rfl rfl rfl (by decide) rfl rfl rfl rfl rfl ⟨by omega, by show 5 ≤ ks; omega, by show 8 ≤ kc - 1; omega, by show 145 ≤ ks - 5; omega⟩ m1 (by decide) rfl (cn_84 (fun M' q1 q2 => ⟨rfl, by decide, (q1 1 (by decide)).trans m1, h _ ⟨up_at, ?_, fun p a b => ?_, fun p a => ?_⟩⟩))
  · rw [va_up_ne _ _ (by decide), q1 0 (by decide)]; exact m2
  · rw [va_up_ne _ _ (by omega)]
    by_cases y : p < 118
    · rw [q1 p (by omega)]; exact m3 p a y
    · exact q2 p (by omega) b L xs
  · rw [va_up_ne _ _ (by omega), q1 p (by omega)]; exact m4 p (by omega)
theorem ob_8 (m : mF L xs N 127 [.ref 2, .ref 4, .ref 6, .ref 11, .ref 17, .ref 23, .ref 111, .ref 118, .null, .null, .null] M) (hb : 9 ≤ kc ∧ 676 ≤ ks) (h : ∀ M2, mF L xs N 136 [.ref 2, .ref 4, .ref 6, .ref 11, .ref 17, .ref 23, .ref 111, .ref 118, .ref 127, .null, .null] M2 → xe_Ev xm_T (xe_Call xm_T (D + 2)) xm_c97 Q 47 [.ref 1] [] (kc - 1 - 8) (ks - 11 - 665) 136 M2) : xe_Ev xm_T (xe_Call xm_T (D + 2)) xm_c97 Q 42 [.ref 1] [] kc ks 127 M := by
  obtain ⟨m1, m2, m3, m4⟩ := m
  refine it_obj (c := 6) (g := 61) (f := 712) (a := 1) (fs := [.ref 2, .ref 4, .ref 6, .ref 11, .ref 17, .ref 23, .ref 111, .ref 118, .null, .null, .null]) rfl rfl rfl rfl rfl rfl (by decide) rfl rfl rfl rfl rfl ⟨by omega, by show 11 ≤ ks; omega, by show 8 ≤ kc - 1; omega, by show 665 ≤ ks - 11; omega⟩ m1 (by decide) rfl (cn_61 (fun fs' efs => ⟨rfl, by decide, m1, h _ ⟨up_at, m2, fun p a b => ?_, fun p a => ?_⟩⟩))
  · by_cases y : p < 127
    · rw [va_up_ne _ _ (by omega), va_up_ne _ _ (by omega), va_up_ne _ _ (by omega), va_up_ne _ _ (by omega), va_up_ne _ _ (by omega), va_up_ne _ _ (by omega), va_up_ne _ _ (by omega), va_up_ne _ _ (by omega), va_up_ne _ _ (by omega), va_up_ne _ _ (by omega)]; exact m3 p a y
    · subst efs
      have : p = 127 ∨ p = 128 ∨ p = 129 ∨ p = 130 ∨ p = 131 ∨ p = 132 ∨ p = 133 ∨ p = 134 ∨ p = 135 := by omega
      rcases this with rfl | rfl | rfl | rfl | rfl | rfl | rfl | rfl | rfl <;> rfl
  · rw [va_up_ne _ _ (by omega), va_up_ne _ _ (by omega), va_up_ne _ _ (by omega), va_up_ne _ _ (by omega), va_up_ne _ _ (by omega), va_up_ne _ _ (by omega), va_up_ne _ _ (by omega), va_up_ne _ _ (by omega), va_up_ne _ _ (by omega), va_up_ne _ _ (by omega)]; exact m4 p (by omega)
theorem ob_9 (m : mF L xs N 136 [.ref 2, .ref 4, .ref 6, .ref 11, .ref 17, .ref 23, .ref 111, .ref 118, .ref 127, .null, .null] M) (hb : 6 ≤ kc ∧ 60 ≤ ks) (h : ∀ M2, mF L xs N 142 [.ref 2, .ref 4, .ref 6, .ref 11, .ref 17, .ref 23, .ref 111, .ref 118, .ref 127, .ref 136, .null] M2 → xe_Ev xm_T (xe_Call xm_T (D + 2)) xm_c97 Q 52 [.ref 1] [] (kc - 1 - 5) (ks - 6 - 54) 142 M2) : xe_Ev xm_T (xe_Call xm_T (D + 2)) xm_c97 Q 47 [.ref 1] [] kc ks 136 M := by
  obtain ⟨m1, m2, m3, m4⟩ := m
  refine it_obj (c := 10) (g := 88) (f := 713) (a := 1) (fs := [.ref 2, .ref 4, .ref 6, .ref 11, .ref 17, .ref 23, .ref 111, .ref 118, .ref 127, .null, .null]) rfl rfl rfl rfl rfl rfl (by decide) rfl rfl rfl rfl rfl ⟨by omega, by show 6 ≤ ks; omega, by show 5 ≤ kc - 1; omega, by show 54 ≤ ks - 6; omega⟩ m1 (by decide) rfl (cn_88 (fun fs' efs => ⟨rfl, by decide, m1, h _ ⟨up_at, m2, fun p a b => ?_, fun p a => ?_⟩⟩))
  · by_cases y : p < 136
    · rw [va_up_ne _ _ (by omega), va_up_ne _ _ (by omega), va_up_ne _ _ (by omega), va_up_ne _ _ (by omega), va_up_ne _ _ (by omega), va_up_ne _ _ (by omega), va_up_ne _ _ (by omega)]; exact m3 p a y
    · subst efs
      have : p = 136 ∨ p = 137 ∨ p = 138 ∨ p = 139 ∨ p = 140 ∨ p = 141 := by omega
      rcases this with rfl | rfl | rfl | rfl | rfl | rfl <;> rfl
  · rw [va_up_ne _ _ (by omega), va_up_ne _ _ (by omega), va_up_ne _ _ (by omega), va_up_ne _ _ (by omega), va_up_ne _ _ (by omega), va_up_ne _ _ (by omega), va_up_ne _ _ (by omega)]; exact m4 p (by omega)
theorem ob_10 (m : mF L xs N 142 [.ref 2, .ref 4, .ref 6, .ref 11, .ref 17, .ref 23, .ref 111, .ref 118, .ref 127, .ref 136, .null] M) (hb : 4 ≤ kc ∧ 34 ≤ ks) (h : ∀ M2, mF L xs N 146 [.ref 2, .ref 4, .ref 6, .ref 11, .ref 17, .ref 23, .ref 111, .ref 118, .ref 127, .ref 136, .ref 142] M2 → xe_Ev xm_T (xe_Call xm_T (D + 2)) xm_c97 Q 57 [.ref 1] [] (kc - 1 - 3) (ks - 4 - 30) 146 M2) : xe_Ev xm_T (xe_Call xm_T (D + 2)) xm_c97 Q 52 [.ref 1] [] kc ks 142 M := by
  obtain ⟨m1, m2, m3, m4⟩ := m
  refine it_obj (c := 8) (g := 79) (f := 714) (a := 1) (fs := [.ref 2, .ref 4, .ref 6, .ref 11, .ref 17, .ref 23, .ref 111, .ref 118, .ref 127, .ref 136, .null]) rfl rfl rfl rfl rfl rfl (by decide) rfl rfl rfl rfl rfl ⟨by omega, by show 4 ≤ ks; omega, by show 3 ≤ kc - 1; omega, by show 30 ≤ ks - 4; omega⟩ m1 (by decide) rfl (cn_79 (fun fs' efs => ⟨rfl, by decide, m1, h _ ⟨up_at, m2, fun p a b => ?_, fun p a => ?_⟩⟩))
  · by_cases y : p < 142
    · rw [va_up_ne _ _ (by omega), va_up_ne _ _ (by omega), va_up_ne _ _ (by omega), va_up_ne _ _ (by omega), va_up_ne _ _ (by omega)]; exact m3 p a y
    · subst efs
      have : p = 142 ∨ p = 143 ∨ p = 144 ∨ p = 145 := by omega
      rcases this with rfl | rfl | rfl | rfl <;> rfl
  · rw [va_up_ne _ _ (by omega), va_up_ne _ _ (by omega), va_up_ne _ _ (by omega), va_up_ne _ _ (by omega), va_up_ne _ _ (by omega)]; exact m4 p (by omega)
theorem cn_97 (h : ∀ M', M' 0 = N 0 → (∀ p, 146 ≤ p → M' p = N p) → (∀ p, 1 ≤ p → p < 146 → M' p = cT L xs p) → Q none 146 M') : xe_Call xm_T (D + 3) 97 [.ref 1] (1 + 1) (va_up N 1 (.inr (11, xe_dflt 11))) Q := by
  refine ⟨_, rfl, mk_0 rfl rfl rfl ?_⟩
  refine ob_0 (L := L) (xs := xs) (N := N) ⟨rfl, rfl, fun p a b => by omega, fun p a => va_up_ne _ _ (by omega)⟩ (by decide) (fun M0 m0 => ?_)
  refine ob_1 m0 (by decide) (fun M1 m1 => ?_)
  refine ob_2 m1 (by decide) (fun M2 m2 => ?_)
  refine ob_3 m2 (by decide) (fun M3 m3 => ?_)
  refine ob_4 m3 (by decide) (fun M4 m4 => ?_)
  refine ob_5 m4 (by decide) (fun M5 m5 => ?_)
  refine ob_6 m5 (by decide) (fun M6 m6 => ?_)
  refine ob_7 m6 (by decide) (fun M7 m7 => ?_)
  refine ob_8 m7 (by decide) (fun M8 m8 => ?_)
  refine ob_9 m8 (by decide) (fun M9 m9 => ?_)
  refine ob_10 m9 (by decide) (fun M10 m10 => ?_)
  refine xe_Ev_step ⟨_, rfl, rfl, h M10 m10.2.1 m10.2.2.2 (fun p a b => ?_)⟩
  by_cases z : p = 1
  · rw [z, m10.1]; rfl
  · exact m10.2.2.1 p (by omega) b
/-- the memory when the law begins -/
def xe_M0 (L : Nat) (xs : Nat → Int32) : xe_M := fun k => if k = 0 then .inl (1, L, .inl xs) else .inl (2, 1, .inr (.inl (fun _ => 0)))
theorem ev_mono {code : List Instr} {i z kc' ks' : Nat} {dl st : List Value} (h1 : kc ≤ kc') (h2 : ks ≤ ks') (h : xe_Ev xm_T (xe_Call xm_T D) code Q i dl st kc ks z M) : xe_Ev xm_T (xe_Call xm_T D) code Q i dl st kc' ks' z M := by
  have := xe_bud h (kc' - kc) (ks' - ks)
  rw [show kc + (kc' - kc) = kc' by omega, show ks + (ks' - ks) = ks' by omega] at this
  exact this
theorem cell_hi {p : Nat} {f : Nat → Int32} {g : Nat → Int64} (h : 177 ≤ p) : xd_cell L p f g = .inl (2, 1, .inr (.inl g)) := by
  unfold xd_cell
  repeat rw [if_neg (by omega)]
theorem lw_make (h : xe_Ev xm_T (xe_Call xm_T (D + 3)) xm_law Q 13 [.ref 0, .ref 1, .ref 146, .ref 177, .int (xJ 0), .double 0, .double 0] [] 600600 7280000 178 (xd_mem L (x0 xs) (fun _ _ => 0))) : xe_Ev xm_T (xe_Call xm_T (D + 3)) xm_law Q 0 (xe_entry 7 [.ref 0]) [] 601024 7293034 1 (xe_M0 L xs) := by
  refine xe_Ev_step ⟨_, rfl, _, rfl, by decide, by decide, by decide, xe_Ev_step ⟨_, rfl, .ref 1, [], rfl, rfl, xe_Ev_step ⟨_, rfl, _, [], 1, xe_dflt 11, [.ref 1], rfl, rfl, rfl, rfl, rfl, by decide, by decide, rfl, by decide, by decide, by decide, ?_⟩⟩⟩
  refine cn_97 (L := L) (xs := xs) (fun M1 q0 q1 q2 => ?_)
  refine xe_Ev_step ⟨_, rfl, _, [], rfl, rfl, xe_Ev_step ⟨_, rfl, _, rfl, by decide, by decide, by decide, xe_Ev_step ⟨_, rfl, .ref 146, [], rfl, rfl, xe_Ev_step ⟨_, rfl, _, [], 146, xe_dflt 12, [.ref 146], rfl, rfl, rfl, rfl, rfl, by decide, by decide, rfl, by decide, by decide, by decide, ?_⟩⟩⟩⟩
  refine cn_178 (fun fs efs => ?_)
  refine xe_Ev_step ⟨_, rfl, _, [], rfl, rfl, xe_Ev_step ⟨_, rfl, xe_Ev_step ⟨_, rfl, _, [], rfl, by decide, by decide, by decide, by decide, by decide, xe_Ev_step ⟨_, rfl, _, [], rfl, rfl, xe_Ev_step ⟨_, rfl, xe_Ev_step ⟨_, rfl, _, [], rfl, rfl, ?_⟩⟩⟩⟩⟩⟩
  refine ev_mono (kc := 600600) (ks := 7280000) (by decide) (by decide) ?_
  have ee : va_up (va_up (va_up (va_up (va_up (va_up (va_up (va_up (va_up (va_up (va_up (va_up (va_up (va_up (va_up (va_up (va_up (va_up (va_up (va_up (va_up (va_up (va_up (va_up (va_up (va_up (va_up (va_up (va_up (va_up (va_up (va_up M1 (146 + 1) (cI' 353)) (146 + 2) (cI' 81)) (146 + 3) (cI' 81)) (146 + 4) (cB' 80)) (146 + 5) (cI' 20)) (146 + 6) (cI' 27)) (146 + 7) (cB' 40)) (146 + 8) (cI' 9)) (146 + 9) (cI' 9)) (146 + 10) (cI' 9)) (146 + 11) (cI' 81)) (146 + 12) (cI' 4236)) (146 + 13) (cI' 353)) (146 + 14) (cI' 240)) (146 + 15) (cI' 9)) (146 + 16) (cI' 353)) (146 + 17) (cI' 12)) (146 + 18) (cI' 10)) (146 + 19) (cI' 10)) (146 + 20) (cI' 18)) (146 + 21) (cI' 4)) (146 + 22) (cI' 36)) (146 + 23) (cI' 9)) (146 + 24) (cI' 9)) (146 + 25) (cI' 4)) (146 + 26) (cI' 512)) (146 + 27) (cI' 20)) (146 + 28) (cI' 706)) (146 + 29) (cZ' 2)) (146 + 30) (cI' 2)) 146 (.inr (12, fs))) 177 (cL' 1) = xd_mem L (x0 xs) (fun _ _ => 0) := funext fun p => ?_
  · rw [← ee] at h
    exact h
  · show _ = cT L xs p
    by_cases z1 : p < 146
    · rw [va_up_ne _ _ (by omega), va_up_ne _ _ (by omega), va_up_ne _ _ (by omega), va_up_ne _ _ (by omega), va_up_ne _ _ (by omega), va_up_ne _ _ (by omega), va_up_ne _ _ (by omega), va_up_ne _ _ (by omega), va_up_ne _ _ (by omega), va_up_ne _ _ (by omega), va_up_ne _ _ (by omega), va_up_ne _ _ (by omega), va_up_ne _ _ (by omega), va_up_ne _ _ (by omega), va_up_ne _ _ (by omega), va_up_ne _ _ (by omega), va_up_ne _ _ (by omega), va_up_ne _ _ (by omega), va_up_ne _ _ (by omega), va_up_ne _ _ (by omega), va_up_ne _ _ (by omega), va_up_ne _ _ (by omega), va_up_ne _ _ (by omega), va_up_ne _ _ (by omega), va_up_ne _ _ (by omega), va_up_ne _ _ (by omega), va_up_ne _ _ (by omega), va_up_ne _ _ (by omega), va_up_ne _ _ (by omega), va_up_ne _ _ (by omega), va_up_ne _ _ (by omega), va_up_ne _ _ (by omega)]
      by_cases z0 : p = 0
      · rw [z0, q0]; rfl
      · exact q2 p (by omega) z1
    · by_cases z2 : p < 178
      · subst efs
        have : p = 146 ∨ p = 147 ∨ p = 148 ∨ p = 149 ∨ p = 150 ∨ p = 151 ∨ p = 152 ∨ p = 153 ∨ p = 154 ∨ p = 155 ∨ p = 156 ∨ p = 157 ∨ p = 158 ∨ p = 159 ∨ p = 160 ∨ p = 161 ∨ p = 162 ∨ p = 163 ∨ p = 164 ∨ p = 165 ∨ p = 166 ∨ p = 167 ∨ p = 168 ∨ p = 169 ∨ p = 170 ∨ p = 171 ∨ p = 172 ∨ p = 173 ∨ p = 174 ∨ p = 175 ∨ p = 176 ∨ p = 177 := by omega
        rcases this with rfl | rfl | rfl | rfl | rfl | rfl | rfl | rfl | rfl | rfl | rfl | rfl | rfl | rfl | rfl | rfl | rfl | rfl | rfl | rfl | rfl | rfl | rfl | rfl | rfl | rfl | rfl | rfl | rfl | rfl | rfl | rfl <;> rfl
      · rw [va_up_ne _ _ (by omega), va_up_ne _ _ (by omega), va_up_ne _ _ (by omega), va_up_ne _ _ (by omega), va_up_ne _ _ (by omega), va_up_ne _ _ (by omega), va_up_ne _ _ (by omega), va_up_ne _ _ (by omega), va_up_ne _ _ (by omega), va_up_ne _ _ (by omega), va_up_ne _ _ (by omega), va_up_ne _ _ (by omega), va_up_ne _ _ (by omega), va_up_ne _ _ (by omega), va_up_ne _ _ (by omega), va_up_ne _ _ (by omega), va_up_ne _ _ (by omega), va_up_ne _ _ (by omega), va_up_ne _ _ (by omega), va_up_ne _ _ (by omega), va_up_ne _ _ (by omega), va_up_ne _ _ (by omega), va_up_ne _ _ (by omega), va_up_ne _ _ (by omega), va_up_ne _ _ (by omega), va_up_ne _ _ (by omega), va_up_ne _ _ (by omega), va_up_ne _ _ (by omega), va_up_ne _ _ (by omega), va_up_ne _ _ (by omega), va_up_ne _ _ (by omega), va_up_ne _ _ (by omega), q1 p (by omega)]
        unfold cT xe_M0
        rw [if_neg (by omega), cell_hi (by omega)]
end MA4
