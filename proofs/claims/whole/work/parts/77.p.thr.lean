/-! BLOCKS of the methods that throw (where they do not), out of blk2.py. -/
theorem yk_55_11_0 {D L : Nat} {P : Int → xh_D → xd_E → Prop} {d : xh_D} {e : xd_E} {a1 : Int}   (h : yB D xm_c55 (yQi L P) L 4 [.ref 11, .int (xJ a1), .int (xJ (0 : Int)), .int (xJ (0 : Int))] [] d e) : yB D xm_c55 (yQi L P) L 0 [.ref 11, .int (xJ a1), .double 0, .double 0] [] d e := by
  refine yb_push (v := 0) rfl ?_
  refine yb_istore rfl rfl rfl ?_
  refine yb_push (v := 0) rfl ?_
  refine yb_istore rfl rfl rfl ?_
  exact h
theorem yk_55_11_4 {D L : Nat} {P : Int → xh_D → xd_E → Prop} {d : xh_D} {e : xd_E}  {l1 : Int} {l2 : Int} {l3 : Int}  (hD : 1 ≤ D) (h : ((-2147483648 ≤ l3 ∧ l3 < 2147483648) ∧ ((((6 : Int) ≤ l3) → P l2 d e) ∧ ((¬ (6 : Int) ≤ l3) → ((0 ≤ l1 ∧ l1 < 9) ∧ (((¬ xi_and (xi_shr (d 14 l1) l3) (1 : Int) = 0) → yB D xm_c55 (yQi L P) L 4 [.ref 11, .int (xJ l1), .int (xJ (l2 + (0 : Int))), .int (xJ (l3 + 1))] [] d e) ∧ (¬ (¬ xi_and (xi_shr (d 14 l1) l3) (1 : Int) = 0) → ((0 ≤ ((l1 * (6 : Int)) + l3) ∧ ((l1 * (6 : Int)) + l3) < 54) ∧ yB D xm_c55 (yQi L P) L 4 [.ref 11, .int (xJ l1), .int (xJ (l2 + (d 15 ((l1 * (6 : Int)) + l3)))), .int (xJ (l3 + 1))] [] d e)))))))) : yB D xm_c55 (yQi L P) L 4 [.ref 11, .int (xJ l1), .int (xJ l2), .int (xJ l3)] [] d e := by
  refine yb_iload (x := l3) rfl rfl ?_
  refine yb_push (v := 6) rfl ?_
  have r1 := h.1
  replace h := h.2
  refine yb_icmp_ge (x := l3) (y := (6 : Int)) rfl rfl r1 (by decide) (fun c => ?_) (fun c => ?_)
  · replace h := h.1 c
    refine yb_iload (x := l2) rfl rfl ?_
    exact yb_ret rfl h
  · replace h := h.2 c
    refine yb_iload (x := l2) rfl rfl ?_
    refine yb_aload rfl rfl ?_
    refine yb_iload (x := l1) rfl rfl ?_
    refine yb_iload (x := l3) rfl rfl ?_
    have r2 := h.1
    replace h := h.2
    refine yb_callVz (As := [.int (xJ l1), .int (xJ l3)]) (a := 11) rfl rfl rfl rfl rfl rfl rfl rfl (by decide) (by decide) (rfl) (by show (1 : Nat) ≤ 8; decide) (sp_54_11 (by omega) r2 (fun c => ?_) (fun c => ?_))
    · replace h := h.1 c
      show yB D xm_c55 _ L 12 [.ref 11, .int (xJ l1), .int (xJ l2), .int (xJ l3)] [.int (xJ (1 : Int)), .int (xJ l2)] d e
      refine yb_if_eq (x := (1 : Int)) rfl rfl (by decide) (fun c => absurd c (by decide)) (fun _ => ?_)
      refine yb_push (v := 0) rfl ?_
      refine yb_goto rfl rfl ?_
      refine yb_iadd (x := l2) (y := (0 : Int)) rfl ?_
      refine yb_istore rfl rfl rfl ?_
      refine yb_iinc (x := l3) (n := 1) rfl rfl rfl rfl ?_
      refine yb_goto rfl rfl ?_
      exact h
    · replace h := h.2 c
      show yB D xm_c55 _ L 12 [.ref 11, .int (xJ l1), .int (xJ l2), .int (xJ l3)] [.int (xJ (0 : Int)), .int (xJ l2)] d e
      refine yb_if_eq (x := (0 : Int)) rfl rfl (by decide) (fun _ => ?_) (fun c => absurd (by decide) c)
      refine yb_aload rfl rfl ?_
      refine yb_get (v := .ref 15) rfl (by decide) (by decide) (rfl) rfl ?_
      refine yb_iload (x := l1) rfl rfl ?_
      refine yb_push (v := 6) rfl ?_
      refine yb_imul (x := l1) (y := (6 : Int)) rfl ?_
      refine yb_iload (x := l3) rfl rfl ?_
      refine yb_iadd (x := (l1 * (6 : Int))) (y := l3) rfl ?_
      have r3 := h.1
      replace h := h.2
      refine yb_iald (j := ((l1 * (6 : Int)) + l3)) rfl xd_A15 (by decide) r3 (v := (d 15 ((l1 * (6 : Int)) + l3))) rfl ?_
      refine yb_iadd (x := l2) (y := (d 15 ((l1 * (6 : Int)) + l3))) rfl ?_
      refine yb_istore rfl rfl rfl ?_
      refine yb_iinc (x := l3) (n := 1) rfl rfl rfl rfl ?_
      refine yb_goto rfl rfl ?_
      exact h
theorem yk_108_0 {D L : Nat} {P : Int → xh_D → xd_E → Prop} {d : xh_D} {e : xd_E} {a1 : Int} {a2 : Int}   (hD : 1 ≤ D) (h : ((-2147483648 ≤ a1 ∧ a1 < 2147483648) ∧ ((-2147483648 ≤ (d 6 (4 : Int)) ∧ (d 6 (4 : Int)) < 2147483648) ∧ (((0 ≤ a1 ∧ a1 < (d 6 (4 : Int))) → ((-2147483648 ≤ a2 ∧ a2 < 2147483648) ∧ (((a2 < 0) → False) ∧ ((¬ a2 < 0) → (((a2 ≤ (5 : Int)) → ((0 ≤ a1 ∧ a1 < 9) ∧ (((a2 < 0 ∨ 4 < a2) → yC D 55 L [.ref 11, .int (xJ a1)] d e (fun x5 d6 e7 => P x5 d6 e7)) ∧ (a2 = 0 → P (d 12 a1) d e) ∧ (a2 = 1 → P (d 13 a1) d e) ∧ (a2 = 2 → P (d 14 a1) d e) ∧ (a2 = 3 → ((0 ≤ ((a1 * (9 : Int)) + (d 12 a1)) ∧ ((a1 * (9 : Int)) + (d 12 a1)) < 81) ∧ P (d 8 ((a1 * (9 : Int)) + (d 12 a1))) d e)) ∧ (a2 = 4 → ((0 ≤ (d 11 (5 : Int)) ∧ (d 11 (5 : Int)) < 2147483648) ∧ ((0 ≤ (((d 12 a1) + (9 : Int)) - ((d 11 (5 : Int)) % (9 : Int))) ∧ (((d 12 a1) + (9 : Int)) - ((d 11 (5 : Int)) % (9 : Int))) < 2147483648) ∧ P ((((d 12 a1) + (9 : Int)) - ((d 11 (5 : Int)) % (9 : Int))) % (9 : Int)) d e)))))) ∧ ((¬ a2 ≤ (5 : Int)) → False)))))) ∧ (¬ (0 ≤ a1 ∧ a1 < (d 6 (4 : Int))) → False))))) : yB D xm_c108 (yQi L P) L 0 [.ref 1, .int (xJ a1), .int (xJ a2), .double 0] [] d e := by
  refine yb_aload rfl rfl ?_
  refine yb_get (v := .ref 6) rfl (by decide) (by decide) (rfl) rfl ?_
  refine yb_iload (x := a1) rfl rfl ?_
  have r1 := h.1
  replace h := h.2
  have r2 := h.1
  replace h := h.2
  refine yb_callVz (As := [.int (xJ a1)]) (a := 6) rfl rfl rfl rfl rfl rfl rfl rfl (by decide) (by decide) (rfl) (by decide) (sp_21 (by omega) ⟨r1, r2⟩ (fun c => ?_) (fun c => ?_))
  · replace h := h.1 c
    show yB D xm_c108 _ L 4 [.ref 1, .int (xJ a1), .int (xJ a2), .double 0] [.int (xJ (1 : Int))] d e
    refine yb_if_eq (x := (1 : Int)) rfl rfl (by decide) (fun c => absurd c (by decide)) (fun _ => ?_)
    refine yb_iload (x := a2) rfl rfl ?_
    have r3 := h.1
    replace h := h.2
    refine yb_if_lt (x := a2) rfl rfl r3 (fun c => ?_) (fun c => ?_)
    · replace h := h.1 c
      exact h.elim
    · replace h := h.2 c
      refine yb_iload (x := a2) rfl rfl ?_
      refine yb_push (v := 5) rfl ?_
      refine yb_icmp_le (x := a2) (y := (5 : Int)) rfl rfl r3 (by decide) (fun c => ?_) (fun c => ?_)
      · replace h := h.1 c
        refine yb_aload rfl rfl ?_
        refine yb_get (v := .ref 11) rfl (by decide) (by decide) (rfl) rfl ?_
        refine yb_get (v := .ref 12) rfl (by decide) (by decide) (rfl) rfl ?_
        refine yb_iload (x := a1) rfl rfl ?_
        have r4 := h.1
        replace h := h.2
        refine yb_iald (j := a1) rfl xd_A12 (by decide) r4 (v := (d 12 a1)) rfl ?_
        refine yb_istore rfl rfl rfl ?_
        refine yb_iload (x := a2) rfl rfl ?_
        refine yb_table (x := a2) rfl rfl r3 (fun c => ?_) (fun c1 c2 => ?_)
        · replace h := h.1 c
          refine yb_aload rfl rfl ?_
          refine yb_get (v := .ref 11) rfl (by decide) (by decide) (rfl) rfl ?_
          refine yb_iload (x := a1) rfl rfl ?_
          refine yb_callVi (As := [.int (xJ a1)]) (a := 11) rfl rfl rfl rfl rfl rfl rfl rfl (by decide) (by decide) (rfl) (by decide) (yC_mono h (fun x5 d6 e7 h => ?_))
          exact yb_ret rfl h
        · rcases (show a2 = 0 ∨ a2 = 1 ∨ a2 = 2 ∨ a2 = 3 ∨ a2 = 4 by omega) with c | c | c | c | c
          · replace h := h.2.1 c
            refine ⟨_, by rw [c]; rfl, ?_⟩
            refine yb_iload (x := (d 12 a1)) rfl rfl ?_
            exact yb_ret rfl h
          · replace h := h.2.2.1 c
            refine ⟨_, by rw [c]; rfl, ?_⟩
            refine yb_aload rfl rfl ?_
            refine yb_get (v := .ref 11) rfl (by decide) (by decide) (rfl) rfl ?_
            refine yb_get (v := .ref 13) rfl (by decide) (by decide) (rfl) rfl ?_
            refine yb_iload (x := a1) rfl rfl ?_
            refine yb_iald (j := a1) rfl xd_A13 (by decide) r4 (v := (d 13 a1)) rfl ?_
            exact yb_ret rfl h
          · replace h := h.2.2.2.1 c
            refine ⟨_, by rw [c]; rfl, ?_⟩
            refine yb_aload rfl rfl ?_
            refine yb_get (v := .ref 11) rfl (by decide) (by decide) (rfl) rfl ?_
            refine yb_get (v := .ref 14) rfl (by decide) (by decide) (rfl) rfl ?_
            refine yb_iload (x := a1) rfl rfl ?_
            refine yb_iald (j := a1) rfl xd_A14 (by decide) r4 (v := (d 14 a1)) rfl ?_
            exact yb_ret rfl h
          · replace h := h.2.2.2.2.1 c
            refine ⟨_, by rw [c]; rfl, ?_⟩
            refine yb_aload rfl rfl ?_
            refine yb_get (v := .ref 6) rfl (by decide) (by decide) (rfl) rfl ?_
            refine yb_get (v := .ref 8) rfl (by decide) (by decide) (rfl) rfl ?_
            refine yb_iload (x := a1) rfl rfl ?_
            refine yb_push (v := 9) rfl ?_
            refine yb_imul (x := a1) (y := (9 : Int)) rfl ?_
            refine yb_iload (x := (d 12 a1)) rfl rfl ?_
            refine yb_iadd (x := (a1 * (9 : Int))) (y := (d 12 a1)) rfl ?_
            have r8 := h.1
            replace h := h.2
            refine yb_iald (j := ((a1 * (9 : Int)) + (d 12 a1))) rfl xd_A8 (by decide) r8 (v := (d 8 ((a1 * (9 : Int)) + (d 12 a1)))) rfl ?_
            exact yb_ret rfl h
          · replace h := h.2.2.2.2.2 c
            refine ⟨_, by rw [c]; rfl, ?_⟩
            refine yb_iload (x := (d 12 a1)) rfl rfl ?_
            refine yb_push (v := 9) rfl ?_
            refine yb_iadd (x := (d 12 a1)) (y := (9 : Int)) rfl ?_
            refine yb_aload rfl rfl ?_
            refine yb_get (v := .ref 11) rfl (by decide) (by decide) (rfl) rfl ?_
            refine yb_get (v := .int (xJ (d 11 (5 : Int)))) rfl (by decide) (by decide) (rfl) rfl ?_
            refine yb_push (v := 9) rfl ?_
            have r9 := h.1
            replace h := h.2
            refine yb_irem (x := (d 11 (5 : Int))) (y := (9 : Int)) rfl r9 (by decide) ?_
            refine yb_isub (x := ((d 12 a1) + (9 : Int))) (y := ((d 11 (5 : Int)) % (9 : Int))) rfl ?_
            refine yb_push (v := 9) rfl ?_
            have r10 := h.1
            replace h := h.2
            refine yb_irem (x := (((d 12 a1) + (9 : Int)) - ((d 11 (5 : Int)) % (9 : Int)))) (y := (9 : Int)) rfl r10 (by decide) ?_
            exact yb_ret rfl h
      · replace h := h.2 c
        exact h.elim
  · replace h := h.2 c
    show yB D xm_c108 _ L 4 [.ref 1, .int (xJ a1), .int (xJ a2), .double 0] [.int (xJ (0 : Int))] d e
    refine yb_if_eq (x := (0 : Int)) rfl rfl (by decide) (fun _ => ?_) (fun c => absurd (by decide) c)
    exact h.elim
theorem yk_114_0 {D L : Nat} {P : Int → xh_D → xd_E → Prop} {d : xh_D} {e : xd_E} {a1 : Int} {a2 : Int}   (hD : 2 ≤ D) (h : ((-2147483648 ≤ a1 ∧ a1 < 2147483648) ∧ ((-2147483648 ≤ a2 ∧ a2 < 2147483648) ∧ ((-2147483648 ≤ (d 6 (4 : Int)) ∧ (d 6 (4 : Int)) < 2147483648) ∧ ((((0 ≤ a1 ∧ a1 < (d 6 (4 : Int))) ∧ (0 ≤ a2 ∧ a2 < (d 6 (4 : Int))) ∧ ¬ a1 = a2) → yV D 46 L [.ref 111, .ref 6, .ref 11, .int (xJ a1), .int (xJ a2), .int (xJ (d 11 (5 : Int)))] d e (fun d4 e5 => yC D 47 L [.ref 111] d4 e5 (fun x6 d7 e8 => P x6 d7 e8))) ∧ (¬ ((0 ≤ a1 ∧ a1 < (d 6 (4 : Int))) ∧ (0 ≤ a2 ∧ a2 < (d 6 (4 : Int))) ∧ ¬ a1 = a2) → False)))))) : yB D xm_c114 (yQi L P) L 0 [.ref 1, .int (xJ a1), .int (xJ a2)] [] d e := by
  refine yb_aload rfl rfl ?_
  refine yb_get (v := .ref 6) rfl (by decide) (by decide) (rfl) rfl ?_
  refine yb_iload (x := a1) rfl rfl ?_
  refine yb_iload (x := a2) rfl rfl ?_
  have r1 := h.1
  replace h := h.2
  have r2 := h.1
  replace h := h.2
  have r3 := h.1
  replace h := h.2
  refine yb_callVz (As := [.int (xJ a1), .int (xJ a2)]) (a := 6) rfl rfl rfl rfl rfl rfl rfl rfl (by decide) (by decide) (rfl) (by decide) (sp_22 (by omega) ⟨r1, r2, r3⟩ (fun c => ?_) (fun c => ?_))
  · replace h := h.1 c
    show yB D xm_c114 _ L 5 [.ref 1, .int (xJ a1), .int (xJ a2)] [.int (xJ (1 : Int))] d e
    refine yb_if_ne (x := (1 : Int)) rfl rfl (by decide) (fun _ => ?_) (fun c => absurd c (by decide))
    refine yb_aload rfl rfl ?_
    refine yb_get (v := .ref 111) rfl (by decide) (by decide) (rfl) rfl ?_
    refine yb_aload rfl rfl ?_
    refine yb_get (v := .ref 6) rfl (by decide) (by decide) (rfl) rfl ?_
    refine yb_aload rfl rfl ?_
    refine yb_get (v := .ref 11) rfl (by decide) (by decide) (rfl) rfl ?_
    refine yb_iload (x := a1) rfl rfl ?_
    refine yb_iload (x := a2) rfl rfl ?_
    refine yb_aload rfl rfl ?_
    refine yb_get (v := .ref 11) rfl (by decide) (by decide) (rfl) rfl ?_
    refine yb_get (v := .int (xJ (d 11 (5 : Int)))) rfl (by decide) (by decide) (rfl) rfl ?_
    refine yb_callVv (As := [.ref 6, .ref 11, .int (xJ a1), .int (xJ a2), .int (xJ (d 11 (5 : Int)))]) (a := 111) rfl rfl rfl rfl rfl rfl rfl rfl (by decide) (by decide) (rfl) (by decide) (yV_mono h (fun d4 e5 h => ?_))
    refine yb_aload rfl rfl ?_
    refine yb_get (v := .ref 111) rfl (by decide) (by decide) (rfl) rfl ?_
    refine yb_callVi (As := []) (a := 111) rfl rfl rfl rfl rfl rfl rfl rfl (by decide) (by decide) (rfl) (by decide) (yC_mono h (fun x6 d7 e8 h => ?_))
    exact yb_ret rfl h
  · replace h := h.2 c
    show yB D xm_c114 _ L 5 [.ref 1, .int (xJ a1), .int (xJ a2)] [.int (xJ (0 : Int))] d e
    refine yb_if_ne (x := (0 : Int)) rfl rfl (by decide) (fun c => absurd (by decide) c) (fun _ => ?_)
    exact h.elim
theorem yk_142_0 {D L : Nat} {P : Int → xh_D → xd_E → Prop} {d : xh_D} {e : xd_E} {a1 : Int} {a2 : Int}   (hD : 2 ≤ D) (h : ((-2147483648 ≤ a1 ∧ a1 < 2147483648) ∧ ((-2147483648 ≤ a2 ∧ a2 < 2147483648) ∧ ((-2147483648 ≤ (d 6 (4 : Int)) ∧ (d 6 (4 : Int)) < 2147483648) ∧ ((((0 ≤ a1 ∧ a1 < (d 6 (4 : Int))) ∧ (0 ≤ a2 ∧ a2 < (d 6 (4 : Int))) ∧ ¬ a1 = a2) → yV D 63 L [.ref 127, .ref 11, .int (xJ (d 6 (4 : Int)))] d e (fun d4 e5 => yC D 67 L [.ref 127] d4 e5 (fun x6 d7 e8 => ((0 ≤ a1 ∧ a1 < 9) ∧ ((0 ≤ a2 ∧ a2 < 9) ∧ yV D 69 L [.ref 127, .int (xJ a1), .int (xJ (d7 12 a1)), .int (xJ (d7 12 a2))] d7 e8 (fun d11 e12 => yV D 69 L [.ref 127, .int (xJ a2), .int (xJ (d11 12 a2)), .int (xJ (d11 12 a1))] d11 e12 (fun d13 e14 => yC D 67 L [.ref 127] d13 e14 (fun x15 d16 e17 => P (x6 - x15) d16 e17)))))))) ∧ (¬ ((0 ≤ a1 ∧ a1 < (d 6 (4 : Int))) ∧ (0 ≤ a2 ∧ a2 < (d 6 (4 : Int))) ∧ ¬ a1 = a2) → False)))))) : yB D xm_c142 (yQi L P) L 0 [.ref 1, .int (xJ a1), .int (xJ a2), .double 0] [] d e := by
  refine yb_aload rfl rfl ?_
  refine yb_get (v := .ref 6) rfl (by decide) (by decide) (rfl) rfl ?_
  refine yb_iload (x := a1) rfl rfl ?_
  refine yb_iload (x := a2) rfl rfl ?_
  have r1 := h.1
  replace h := h.2
  have r2 := h.1
  replace h := h.2
  have r3 := h.1
  replace h := h.2
  refine yb_callVz (As := [.int (xJ a1), .int (xJ a2)]) (a := 6) rfl rfl rfl rfl rfl rfl rfl rfl (by decide) (by decide) (rfl) (by decide) (sp_22 (by omega) ⟨r1, r2, r3⟩ (fun c => ?_) (fun c => ?_))
  · replace h := h.1 c
    show yB D xm_c142 _ L 5 [.ref 1, .int (xJ a1), .int (xJ a2), .double 0] [.int (xJ (1 : Int))] d e
    refine yb_if_ne (x := (1 : Int)) rfl rfl (by decide) (fun _ => ?_) (fun c => absurd c (by decide))
    refine yb_aload rfl rfl ?_
    refine yb_get (v := .ref 127) rfl (by decide) (by decide) (rfl) rfl ?_
    refine yb_aload rfl rfl ?_
    refine yb_get (v := .ref 11) rfl (by decide) (by decide) (rfl) rfl ?_
    refine yb_aload rfl rfl ?_
    refine yb_get (v := .ref 6) rfl (by decide) (by decide) (rfl) rfl ?_
    refine yb_get (v := .int (xJ (d 6 (4 : Int)))) rfl (by decide) (by decide) (rfl) rfl ?_
    refine yb_callVv (As := [.ref 11, .int (xJ (d 6 (4 : Int)))]) (a := 127) rfl rfl rfl rfl rfl rfl rfl rfl (by decide) (by decide) (rfl) (by decide) (yV_mono h (fun d4 e5 h => ?_))
    refine yb_aload rfl rfl ?_
    refine yb_get (v := .ref 127) rfl (by decide) (by decide) (rfl) rfl ?_
    refine yb_callVi (As := []) (a := 127) rfl rfl rfl rfl rfl rfl rfl rfl (by decide) (by decide) (rfl) (by decide) (yC_mono h (fun x6 d7 e8 h => ?_))
    refine yb_istore rfl rfl rfl ?_
    refine yb_aload rfl rfl ?_
    refine yb_get (v := .ref 127) rfl (by decide) (by decide) (rfl) rfl ?_
    refine yb_iload (x := a1) rfl rfl ?_
    refine yb_aload rfl rfl ?_
    refine yb_get (v := .ref 11) rfl (by decide) (by decide) (rfl) rfl ?_
    refine yb_get (v := .ref 12) rfl (by decide) (by decide) (rfl) rfl ?_
    refine yb_iload (x := a1) rfl rfl ?_
    have r9 := h.1
    replace h := h.2
    refine yb_iald (j := a1) rfl xd_A12 (by decide) r9 (v := (d7 12 a1)) rfl ?_
    refine yb_aload rfl rfl ?_
    refine yb_get (v := .ref 11) rfl (by decide) (by decide) (rfl) rfl ?_
    refine yb_get (v := .ref 12) rfl (by decide) (by decide) (rfl) rfl ?_
    refine yb_iload (x := a2) rfl rfl ?_
    have r10 := h.1
    replace h := h.2
    refine yb_iald (j := a2) rfl xd_A12 (by decide) r10 (v := (d7 12 a2)) rfl ?_
    refine yb_callVv (As := [.int (xJ a1), .int (xJ (d7 12 a1)), .int (xJ (d7 12 a2))]) (a := 127) rfl rfl rfl rfl rfl rfl rfl rfl (by decide) (by decide) (rfl) (by decide) (yV_mono h (fun d11 e12 h => ?_))
    refine yb_aload rfl rfl ?_
    refine yb_get (v := .ref 127) rfl (by decide) (by decide) (rfl) rfl ?_
    refine yb_iload (x := a2) rfl rfl ?_
    refine yb_aload rfl rfl ?_
    refine yb_get (v := .ref 11) rfl (by decide) (by decide) (rfl) rfl ?_
    refine yb_get (v := .ref 12) rfl (by decide) (by decide) (rfl) rfl ?_
    refine yb_iload (x := a2) rfl rfl ?_
    refine yb_iald (j := a2) rfl xd_A12 (by decide) r10 (v := (d11 12 a2)) rfl ?_
    refine yb_aload rfl rfl ?_
    refine yb_get (v := .ref 11) rfl (by decide) (by decide) (rfl) rfl ?_
    refine yb_get (v := .ref 12) rfl (by decide) (by decide) (rfl) rfl ?_
    refine yb_iload (x := a1) rfl rfl ?_
    refine yb_iald (j := a1) rfl xd_A12 (by decide) r9 (v := (d11 12 a1)) rfl ?_
    refine yb_callVv (As := [.int (xJ a2), .int (xJ (d11 12 a2)), .int (xJ (d11 12 a1))]) (a := 127) rfl rfl rfl rfl rfl rfl rfl rfl (by decide) (by decide) (rfl) (by decide) (yV_mono h (fun d13 e14 h => ?_))
    refine yb_iload (x := x6) rfl rfl ?_
    refine yb_aload rfl rfl ?_
    refine yb_get (v := .ref 127) rfl (by decide) (by decide) (rfl) rfl ?_
    refine yb_callVi (As := []) (a := 127) rfl rfl rfl rfl rfl rfl rfl rfl (by decide) (by decide) (rfl) (by show (1 : Nat) ≤ 8; decide) (yC_mono h (fun x15 d16 e17 h => ?_))
    refine yb_isub (x := x6) (y := x15) rfl ?_
    exact yb_ret rfl h
  · replace h := h.2 c
    show yB D xm_c142 _ L 5 [.ref 1, .int (xJ a1), .int (xJ a2), .double 0] [.int (xJ (0 : Int))] d e
    refine yb_if_ne (x := (0 : Int)) rfl rfl (by decide) (fun c => absurd (by decide) c) (fun _ => ?_)
    exact h.elim
theorem yk_169_0 {D L : Nat} {P : Int → xh_D → xd_E → Prop} {d : xh_D} {e : xd_E} {a1 : Int}   (h : ((-2147483648 ≤ a1 ∧ a1 < 2147483648) ∧ (((a1 < 0) → False) ∧ ((¬ a1 < 0) → ((-2147483648 ≤ (d 4 (1 : Int)) ∧ (d 4 (1 : Int)) < 2147483648) ∧ (((a1 < (d 4 (1 : Int))) → ((0 ≤ a1 ∧ a1 < 12) ∧ P (d 5 a1) d e)) ∧ ((¬ a1 < (d 4 (1 : Int))) → False))))))) : yB D xm_c169 (yQi L P) L 0 [.ref 1, .int (xJ a1)] [] d e := by
  refine yb_iload (x := a1) rfl rfl ?_
  have r1 := h.1
  replace h := h.2
  refine yb_if_lt (x := a1) rfl rfl r1 (fun c => ?_) (fun c => ?_)
  · replace h := h.1 c
    exact h.elim
  · replace h := h.2 c
    refine yb_iload (x := a1) rfl rfl ?_
    refine yb_aload rfl rfl ?_
    refine yb_get (v := .ref 4) rfl (by decide) (by decide) (rfl) rfl ?_
    refine yb_get (v := .int (xJ (d 4 (1 : Int)))) rfl (by decide) (by decide) (rfl) rfl ?_
    have r2 := h.1
    replace h := h.2
    refine yb_icmp_lt (x := a1) (y := (d 4 (1 : Int))) rfl rfl r1 r2 (fun c => ?_) (fun c => ?_)
    · replace h := h.1 c
      refine yb_aload rfl rfl ?_
      refine yb_get (v := .ref 4) rfl (by decide) (by decide) (rfl) rfl ?_
      refine yb_get (v := .ref 5) rfl (by decide) (by decide) (rfl) rfl ?_
      refine yb_iload (x := a1) rfl rfl ?_
      have r3 := h.1
      replace h := h.2
      refine yb_iald (j := a1) rfl xd_A5 (by decide) r3 (v := (d 5 a1)) rfl ?_
      exact yb_ret rfl h
    · replace h := h.2 c
      exact h.elim
