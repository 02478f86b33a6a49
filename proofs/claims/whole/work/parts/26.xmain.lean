/-! BLOCKS of methods, out of blk2.py. -/
theorem yk_98_0 {D L : Nat} {P : Int → xh_D → xd_E → Prop} {d : xh_D} {e : xd_E} {a1 : Int}   (hD : 1 ≤ D) (h : ((-2147483648 ≤ ((d 2 (1 : Int)) + (4 : Int)) ∧ ((d 2 (1 : Int)) + (4 : Int)) < 2147483648) ∧ ((((d 2 (1 : Int)) + (4 : Int) ≤ 80) → yB D xm_c98 (yQi L P) L 9 [.ref 1, .int (xJ a1), .int (xJ (24 : Int))] [] d e) ∧ (¬ ((d 2 (1 : Int)) + (4 : Int) ≤ 80) → P (-1 : Int) d e)))) : yB D xm_c98 (yQi L P) L 0 [.ref 1, .int (xJ a1), .double 0] [] d e := by
  refine yb_aload rfl rfl ?_
  refine yb_get (v := .ref 2) rfl (by decide) (by decide) (rfl) rfl ?_
  refine yb_push (v := 4) rfl ?_
  have r1 := h.1
  replace h := h.2
  refine yb_callVz (As := [.int (xJ (4 : Int))]) (a := 2) rfl rfl rfl rfl rfl rfl rfl rfl (by decide) (by decide) (rfl) (by decide) (sp_73 (by omega) r1 (fun c => ?_) (fun c => ?_))
  · replace h := h.1 c
    show yB D xm_c98 _ L 4 [.ref 1, .int (xJ a1), .double 0] [.int (xJ (1 : Int))] d e
    refine yb_if_ne (x := (1 : Int)) rfl rfl (by decide) (fun _ => ?_) (fun c => absurd c (by decide))
    refine yb_push (v := 24) rfl ?_
    refine yb_istore rfl rfl rfl ?_
    exact h
  · replace h := h.2 c
    show yB D xm_c98 _ L 4 [.ref 1, .int (xJ a1), .double 0] [.int (xJ (0 : Int))] d e
    refine yb_if_ne (x := (0 : Int)) rfl rfl (by decide) (fun c => absurd (by decide) c) (fun _ => ?_)
    refine yb_push (v := (-1)) rfl ?_
    exact yb_ret rfl h
theorem yk_98_9 {D L : Nat} {P : Int → xh_D → xd_E → Prop} {d : xh_D} {e : xd_E}  {l1 : Int} {l2 : Int}  (hD : 1 ≤ D) (h : ((-2147483648 ≤ l2 ∧ l2 < 2147483648) ∧ (((l2 < 0) → P (d 2 (1 : Int)) d e) ∧ ((¬ l2 < 0) → ((0 ≤ (d 2 (1 : Int)) ∧ (d 2 (1 : Int)) < 80) ∧ yB D xm_c98 (yQi L P) L 9 [.ref 1, .int (xJ l1), .int (xJ (l2 + (-8)))] [] (xs (xs d 3 (d 2 (1 : Int)) (xi_and (xi_ushr l1 l2) (255 : Int))) 2 (1 : Int) ((d 2 (1 : Int)) + 1)) e))))) : yB D xm_c98 (yQi L P) L 9 [.ref 1, .int (xJ l1), .int (xJ l2)] [] d e := by
  refine yb_iload (x := l2) rfl rfl ?_
  have r1 := h.1
  replace h := h.2
  refine yb_if_lt (x := l2) rfl rfl r1 (fun c => ?_) (fun c => ?_)
  · replace h := h.1 c
    refine yb_aload rfl rfl ?_
    refine yb_get (v := .ref 2) rfl (by decide) (by decide) (rfl) rfl ?_
    refine yb_get (v := .int (xJ (d 2 (1 : Int)))) rfl (by decide) (by decide) (rfl) rfl ?_
    exact yb_ret rfl h
  · replace h := h.2 c
    refine yb_aload rfl rfl ?_
    refine yb_get (v := .ref 2) rfl (by decide) (by decide) (rfl) rfl ?_
    refine yb_iload (x := l1) rfl rfl ?_
    refine yb_iload (x := l2) rfl rfl ?_
    refine yb_iushr (x := l1) (y := l2) rfl ?_
    refine yb_push (v := 255) rfl ?_
    refine yb_iand (x := (xi_ushr l1 l2)) (y := (255 : Int)) rfl ?_
    have r2 := h.1
    replace h := h.2
    refine yb_callVv (As := [.int (xJ (xi_and (xi_ushr l1 l2) (255 : Int)))]) (a := 2) rfl rfl rfl rfl rfl rfl rfl rfl (by decide) (by decide) (rfl) (by decide) (sp_74 (by omega) r2 ?_)
    show yB D xm_c98 _ L 19 [.ref 1, .int (xJ l1), .int (xJ l2)] [] (xs (xs d 3 (d 2 (1 : Int)) (xi_and (xi_ushr l1 l2) (255 : Int))) 2 (1 : Int) ((d 2 (1 : Int)) + 1)) e
    refine yb_iinc (x := l2) (n := (-8)) rfl rfl rfl rfl ?_
    refine yb_goto rfl rfl ?_
    exact h
theorem yk_99_0 {D L : Nat} {P1 P0 : xh_D → xd_E → Prop} {d : xh_D} {e : xd_E} {a1 : Int}   (h : ((-2147483648 ≤ a1 ∧ a1 < 2147483648) ∧ (((a1 < 0) → P0 d e) ∧ ((¬ a1 < 0) → ((-2147483648 ≤ (d 2 (1 : Int)) ∧ (d 2 (1 : Int)) < 2147483648) ∧ (((a1 ≤ (d 2 (1 : Int))) → P1 (xs d 2 (1 : Int) a1) e) ∧ ((¬ a1 ≤ (d 2 (1 : Int))) → P0 d e))))))) : yB D xm_c99 (yQz L P1 P0) L 0 [.ref 1, .int (xJ a1)] [] d e := by
  refine yb_iload (x := a1) rfl rfl ?_
  have r1 := h.1
  replace h := h.2
  refine yb_if_lt (x := a1) rfl rfl r1 (fun c => ?_) (fun c => ?_)
  · replace h := h.1 c
    refine yb_push (v := 0) rfl ?_
    exact yb_ret0 rfl h
  · replace h := h.2 c
    refine yb_iload (x := a1) rfl rfl ?_
    refine yb_aload rfl rfl ?_
    refine yb_get (v := .ref 2) rfl (by decide) (by decide) (rfl) rfl ?_
    refine yb_get (v := .int (xJ (d 2 (1 : Int)))) rfl (by decide) (by decide) (rfl) rfl ?_
    have r2 := h.1
    replace h := h.2
    refine yb_icmp_le (x := a1) (y := (d 2 (1 : Int))) rfl rfl r1 r2 (fun c => ?_) (fun c => ?_)
    · replace h := h.1 c
      refine yb_aload rfl rfl ?_
      refine yb_get (v := .ref 2) rfl (by decide) (by decide) (rfl) rfl ?_
      refine yb_iload (x := a1) rfl rfl ?_
      refine yb_put (z := a1) (k := 1) rfl rfl (by decide) (by decide) (rfl) (Nat.le_of_ble_eq_true rfl) rfl (rfl) ?_
      refine yb_push (v := 1) rfl ?_
      exact yb_ret1 rfl h
    · replace h := h.2 c
      refine yb_push (v := 0) rfl ?_
      exact yb_ret0 rfl h
theorem yk_100_0 {D L : Nat} {P : Int → xh_D → xd_E → Prop} {d : xh_D} {e : xd_E}    (h : ((-2147483648 ≤ (d 2 (1 : Int)) ∧ (d 2 (1 : Int)) < 2147483648) ∧ (((¬ (d 2 (1 : Int)) = 0) → yC D 101 L [.ref 1] d e (fun x2 d3 e4 => ((-2147483648 ≤ x2 ∧ x2 < 2147483648) ∧ (((¬ x2 = (-1 : Int)) → P ((-1 : Int) - x2) (xs d3 2 (1 : Int) (0 : Int)) e4) ∧ ((x2 = (-1 : Int)) → yC D 102 L [.ref 1] d3 e4 (fun x6 d7 e8 => P x6 (xs d7 2 (1 : Int) (0 : Int)) e8)))))) ∧ (((d 2 (1 : Int)) = 0) → P (0 : Int) d e)))) : yB D xm_c100 (yQi L P) L 0 [.ref 1, .double 0, .double 0] [] d e := by
  refine yb_aload rfl rfl ?_
  refine yb_get (v := .ref 2) rfl (by decide) (by decide) (rfl) rfl ?_
  refine yb_get (v := .int (xJ (d 2 (1 : Int)))) rfl (by decide) (by decide) (rfl) rfl ?_
  have r1 := h.1
  replace h := h.2
  refine yb_if_ne (x := (d 2 (1 : Int))) rfl rfl r1 (fun c => ?_) (fun c => ?_)
  · replace h := h.1 c
    refine yb_aload rfl rfl ?_
    refine yb_callVi (As := []) (a := 1) rfl rfl rfl rfl rfl rfl rfl rfl (by decide) (by decide) (rfl) (by decide) (yC_mono h (fun x2 d3 e4 h => ?_))
    refine yb_istore rfl rfl rfl ?_
    refine yb_iload (x := x2) rfl rfl ?_
    refine yb_push (v := (-1)) rfl ?_
    have r5 := h.1
    replace h := h.2
    refine yb_icmp_ne (x := x2) (y := (-1 : Int)) rfl rfl r5 (by decide) (fun c => ?_) (fun c => ?_)
    · replace h := h.1 c
      refine yb_push (v := (-1)) rfl ?_
      refine yb_iload (x := x2) rfl rfl ?_
      refine yb_isub (x := (-1 : Int)) (y := x2) rfl ?_
      refine yb_istore rfl rfl rfl ?_
      refine yb_aload rfl rfl ?_
      refine yb_get (v := .ref 2) rfl (by decide) (by decide) (rfl) rfl ?_
      refine yb_push (v := 0) rfl ?_
      refine yb_put (z := (0 : Int)) (k := 1) rfl rfl (by decide) (by decide) (rfl) (Nat.le_of_ble_eq_true rfl) rfl (rfl) ?_
      refine yb_iload (x := ((-1 : Int) - x2)) rfl rfl ?_
      exact yb_ret rfl h
    · replace h := h.2 c
      refine yb_aload rfl rfl ?_
      refine yb_callVi (As := []) (a := 1) rfl rfl rfl rfl rfl rfl rfl rfl (by decide) (by decide) (rfl) (by decide) (yC_mono h (fun x6 d7 e8 h => ?_))
      refine yb_goto rfl rfl ?_
      refine yb_istore rfl rfl rfl ?_
      refine yb_aload rfl rfl ?_
      refine yb_get (v := .ref 2) rfl (by decide) (by decide) (rfl) rfl ?_
      refine yb_push (v := 0) rfl ?_
      refine yb_put (z := (0 : Int)) (k := 1) rfl rfl (by decide) (by decide) (rfl) (Nat.le_of_ble_eq_true rfl) rfl (rfl) ?_
      refine yb_iload (x := x6) rfl rfl ?_
      exact yb_ret rfl h
  · replace h := h.2 c
    refine yb_push (v := 0) rfl ?_
    exact yb_ret rfl h
theorem yk_101_0 {D L : Nat} {P : Int → xh_D → xd_E → Prop} {d : xh_D} {e : xd_E}    (hD : 1 ≤ D) (h : ((-2147483648 ≤ (d 2 (1 : Int)) ∧ (d 2 (1 : Int)) < 2147483648) ∧ yB D xm_c101 (yQi L P) L 18 [.ref 1, .int (xJ ((9 : Int) - (d 6 (4 : Int)))), .int (xJ (0 : Int)), .int (xJ (-1 : Int)), .int (xJ (min (d 2 (1 : Int)) (76 : Int))), .int (xJ (0 : Int)), .double 0] [] d e)) : yB D xm_c101 (yQi L P) L 0 [.ref 1, .double 0, .double 0, .double 0, .double 0, .double 0, .double 0] [] d e := by
  refine yb_push (v := 9) rfl ?_
  refine yb_aload rfl rfl ?_
  refine yb_get (v := .ref 6) rfl (by decide) (by decide) (rfl) rfl ?_
  refine yb_get (v := .int (xJ (d 6 (4 : Int)))) rfl (by decide) (by decide) (rfl) rfl ?_
  refine yb_isub (x := (9 : Int)) (y := (d 6 (4 : Int))) rfl ?_
  refine yb_istore rfl rfl rfl ?_
  refine yb_push (v := 0) rfl ?_
  refine yb_istore rfl rfl rfl ?_
  refine yb_push (v := (-1)) rfl ?_
  refine yb_istore rfl rfl rfl ?_
  refine yb_aload rfl rfl ?_
  refine yb_get (v := .ref 2) rfl (by decide) (by decide) (rfl) rfl ?_
  refine yb_get (v := .int (xJ (d 2 (1 : Int)))) rfl (by decide) (by decide) (rfl) rfl ?_
  refine yb_push (v := 76) rfl ?_
  have r1 := h.1
  replace h := h.2
  refine yb_callSi (As := [.int (xJ (d 2 (1 : Int))), .int (xJ (76 : Int))]) rfl rfl rfl rfl rfl rfl rfl rfl (by decide) (sp_5 (by omega) ⟨r1, (by show (-2147483648 ≤ (76 : Int) ∧ (76 : Int) < 2147483648); decide)⟩ ?_)
  show yB D xm_c101 _ L 15 [.ref 1, .int (xJ ((9 : Int) - (d 6 (4 : Int)))), .int (xJ (0 : Int)), .int (xJ (-1 : Int)), .double 0, .double 0, .double 0] [.int (xJ (min (d 2 (1 : Int)) (76 : Int)))] d e
  refine yb_istore rfl rfl rfl ?_
  refine yb_push (v := 0) rfl ?_
  refine yb_istore rfl rfl rfl ?_
  exact h
theorem yk_101_18 {D L : Nat} {P : Int → xh_D → xd_E → Prop} {d : xh_D} {e : xd_E}  {l1 : Int} {l2 : Int} {l3 : Int} {l4 : Int} {l5 : Int}  (hD : 1 ≤ D) (h : ((-2147483648 ≤ l5 ∧ l5 < 2147483648) ∧ ((-2147483648 ≤ l4 ∧ l4 < 2147483648) ∧ (((l4 ≤ l5) → ((-2147483648 ≤ (d 2 (1 : Int)) ∧ (d 2 (1 : Int)) < 2147483648) ∧ ((((d 2 (1 : Int)) ≤ (76 : Int)) → ((-2147483648 ≤ l2 ∧ l2 < 2147483648) ∧ ((((2 : Int) ≤ l2) → P (-1 : Int) d e) ∧ ((¬ (2 : Int) ≤ l2) → P (d 2 (1 : Int)) d e)))) ∧ ((¬ (d 2 (1 : Int)) ≤ (76 : Int)) → P (76 : Int) d e)))) ∧ ((¬ l4 ≤ l5) → (xt_ok d ∧ ((-2147483648 ≤ l2 ∧ l2 < 2147483648) ∧ ((((2 : Int) ≤ l2) → ((-2147483648 ≤ (xt_at d l5) ∧ (xt_at d l5) < 2147483648) ∧ (((¬ (xt_at d l5) = (59 : Int)) → ((((117 : Int) < (xt_at d l5)) → P l5 d e) ∧ ((¬ (117 : Int) < (xt_at d l5)) → ((-2147483648 ≤ ((xt_at d l5) - (112 : Int)) ∧ ((xt_at d l5) - (112 : Int)) < 2147483648) ∧ ((-2147483648 ≤ l3 ∧ l3 < 2147483648) ∧ (((((xt_at d l5) - (112 : Int)) ≤ l3) → P l5 d e) ∧ ((¬ ((xt_at d l5) - (112 : Int)) ≤ l3) → yB D xm_c101 (yQi L P) L 18 [.ref 1, .int (xJ l1), .int (xJ l2), .int (xJ ((xt_at d l5) - (112 : Int))), .int (xJ l4), .int (xJ (l5 + 1)), .double 0] [] d e))))))) ∧ (((xt_at d l5) = (59 : Int)) → yB D xm_c101 (yQi L P) L 18 [.ref 1, .int (xJ (l1 + (-1))), .int (xJ (0 : Int)), .int (xJ (-1 : Int)), .int (xJ l4), .int (xJ (l5 + 1)), .double 0] [] d e)))) ∧ ((¬ (2 : Int) ≤ l2) → ((-2147483648 ≤ (xt_at d l5) ∧ (xt_at d l5) < 2147483648) ∧ (((48 ≤ (xt_at d l5) ∧ (xt_at d l5) ≤ 56) → (((¬ l2 = 0) → yB D xm_c101 (yQi L P) L 18 [.ref 1, .int (xJ l1), .int (xJ (l2 + 1)), .int (xJ l3), .int (xJ l4), .int (xJ (l5 + 1)), .double 0] [] d e) ∧ ((l2 = 0) → ((-2147483648 ≤ l1 ∧ l1 < 2147483648) ∧ (((¬ l1 = 0) → yB D xm_c101 (yQi L P) L 18 [.ref 1, .int (xJ l1), .int (xJ (l2 + 1)), .int (xJ l3), .int (xJ l4), .int (xJ (l5 + 1)), .double 0] [] d e) ∧ ((l1 = 0) → P l5 d e)))))) ∧ (¬ (48 ≤ (xt_at d l5) ∧ (xt_at d l5) ≤ 56) → P l5 d e)))))))))))) : yB D xm_c101 (yQi L P) L 18 [.ref 1, .int (xJ l1), .int (xJ l2), .int (xJ l3), .int (xJ l4), .int (xJ l5), .double 0] [] d e := by
  refine yb_iload (x := l5) rfl rfl ?_
  refine yb_iload (x := l4) rfl rfl ?_
  have r1 := h.1
  replace h := h.2
  have r2 := h.1
  replace h := h.2
  refine yb_icmp_ge (x := l5) (y := l4) rfl rfl r1 r2 (fun c => ?_) (fun c => ?_)
  · replace h := h.1 c
    refine yb_aload rfl rfl ?_
    refine yb_get (v := .ref 2) rfl (by decide) (by decide) (rfl) rfl ?_
    refine yb_get (v := .int (xJ (d 2 (1 : Int)))) rfl (by decide) (by decide) (rfl) rfl ?_
    refine yb_push (v := 76) rfl ?_
    have r3 := h.1
    replace h := h.2
    refine yb_icmp_le (x := (d 2 (1 : Int))) (y := (76 : Int)) rfl rfl r3 (by decide) (fun c => ?_) (fun c => ?_)
    · replace h := h.1 c
      refine yb_iload (x := l2) rfl rfl ?_
      refine yb_push (v := 2) rfl ?_
      have r4 := h.1
      replace h := h.2
      refine yb_icmp_ge (x := l2) (y := (2 : Int)) rfl rfl r4 (by decide) (fun c => ?_) (fun c => ?_)
      · replace h := h.1 c
        refine yb_push (v := (-1)) rfl ?_
        exact yb_ret rfl h
      · replace h := h.2 c
        refine yb_aload rfl rfl ?_
        refine yb_get (v := .ref 2) rfl (by decide) (by decide) (rfl) rfl ?_
        refine yb_get (v := .int (xJ (d 2 (1 : Int)))) rfl (by decide) (by decide) (rfl) rfl ?_
        refine yb_goto rfl rfl ?_
        exact yb_ret rfl h
    · replace h := h.2 c
      refine yb_push (v := 76) rfl ?_
      exact yb_ret rfl h
  · replace h := h.2 c
    refine yb_aload rfl rfl ?_
    refine yb_get (v := .ref 2) rfl (by decide) (by decide) (rfl) rfl ?_
    refine yb_iload (x := l5) rfl rfl ?_
    have r5 := h.1
    replace h := h.2
    refine yb_callVi (As := [.int (xJ l5)]) (a := 2) rfl rfl rfl rfl rfl rfl rfl rfl (by decide) (by decide) (rfl) (by decide) (sp_75 (by omega) ⟨r1, r5⟩ ?_)
    show yB D xm_c101 _ L 25 [.ref 1, .int (xJ l1), .int (xJ l2), .int (xJ l3), .int (xJ l4), .int (xJ l5), .double 0] [.int (xJ (xt_at d l5))] d e
    refine yb_istore rfl rfl rfl ?_
    refine yb_iload (x := l2) rfl rfl ?_
    refine yb_push (v := 2) rfl ?_
    have r6 := h.1
    replace h := h.2
    refine yb_icmp_ge (x := l2) (y := (2 : Int)) rfl rfl r6 (by decide) (fun c => ?_) (fun c => ?_)
    · replace h := h.1 c
      refine yb_iload (x := (xt_at d l5)) rfl rfl ?_
      refine yb_push (v := 59) rfl ?_
      have r7 := h.1
      replace h := h.2
      refine yb_icmp_ne (x := (xt_at d l5)) (y := (59 : Int)) rfl rfl r7 (by decide) (fun c => ?_) (fun c => ?_)
      · replace h := h.1 c
        refine yb_iload (x := (xt_at d l5)) rfl rfl ?_
        refine yb_push (v := 117) rfl ?_
        refine yb_icmp_gt (x := (xt_at d l5)) (y := (117 : Int)) rfl rfl r7 (by decide) (fun c => ?_) (fun c => ?_)
        · replace h := h.1 c
          refine yb_iload (x := l5) rfl rfl ?_
          exact yb_ret rfl h
        · replace h := h.2 c
          refine yb_iload (x := (xt_at d l5)) rfl rfl ?_
          refine yb_push (v := 112) rfl ?_
          refine yb_isub (x := (xt_at d l5)) (y := (112 : Int)) rfl ?_
          refine yb_iload (x := l3) rfl rfl ?_
          have r8 := h.1
          replace h := h.2
          have r9 := h.1
          replace h := h.2
          refine yb_icmp_le (x := ((xt_at d l5) - (112 : Int))) (y := l3) rfl rfl r8 r9 (fun c => ?_) (fun c => ?_)
          · replace h := h.1 c
            refine yb_iload (x := l5) rfl rfl ?_
            exact yb_ret rfl h
          · replace h := h.2 c
            refine yb_iload (x := (xt_at d l5)) rfl rfl ?_
            refine yb_push (v := 112) rfl ?_
            refine yb_isub (x := (xt_at d l5)) (y := (112 : Int)) rfl ?_
            refine yb_istore rfl rfl rfl ?_
            refine yb_goto rfl rfl ?_
            refine yb_iinc (x := l5) (n := 1) rfl rfl rfl rfl ?_
            refine yb_goto rfl rfl ?_
            refine yb_forget (dl := [.ref 1, .int (xJ l1), .int (xJ l2), .int (xJ ((xt_at d l5) - (112 : Int))), .int (xJ l4), .int (xJ (l5 + 1)), .double 0]) ⟨Or.inl rfl, ⟨Or.inl rfl, ⟨Or.inl rfl, ⟨Or.inl rfl, ⟨Or.inl rfl, ⟨Or.inl rfl, ⟨Or.inr ⟨rfl, rfl⟩, trivial⟩⟩⟩⟩⟩⟩⟩ ?_
            exact h
      · replace h := h.2 c
        refine yb_push (v := 0) rfl ?_
        refine yb_istore rfl rfl rfl ?_
        refine yb_push (v := (-1)) rfl ?_
        refine yb_istore rfl rfl rfl ?_
        refine yb_iinc (x := l1) (n := (-1)) rfl rfl rfl rfl ?_
        refine yb_goto rfl rfl ?_
        refine yb_iinc (x := l5) (n := 1) rfl rfl rfl rfl ?_
        refine yb_goto rfl rfl ?_
        refine yb_forget (dl := [.ref 1, .int (xJ (l1 + (-1))), .int (xJ (0 : Int)), .int (xJ (-1 : Int)), .int (xJ l4), .int (xJ (l5 + 1)), .double 0]) ⟨Or.inl rfl, ⟨Or.inl rfl, ⟨Or.inl rfl, ⟨Or.inl rfl, ⟨Or.inl rfl, ⟨Or.inl rfl, ⟨Or.inr ⟨rfl, rfl⟩, trivial⟩⟩⟩⟩⟩⟩⟩ ?_
        exact h
    · replace h := h.2 c
      refine yb_iload (x := (xt_at d l5)) rfl rfl ?_
      have r10 := h.1
      replace h := h.2
      refine yb_callSz (As := [.int (xJ (xt_at d l5))]) rfl rfl rfl rfl rfl rfl rfl rfl (by decide) (sp_170 (by omega) r10 (fun c => ?_) (fun c => ?_))
      · replace h := h.1 c
        show yB D xm_c101 _ L 31 [.ref 1, .int (xJ l1), .int (xJ l2), .int (xJ l3), .int (xJ l4), .int (xJ l5), .int (xJ (xt_at d l5))] [.int (xJ (1 : Int))] d e
        refine yb_if_eq (x := (1 : Int)) rfl rfl (by decide) (fun c => absurd c (by decide)) (fun _ => ?_)
        refine yb_iload (x := l2) rfl rfl ?_
        refine yb_if_ne (x := l2) rfl rfl r6 (fun c => ?_) (fun c => ?_)
        · replace h := h.1 c
          refine yb_iinc (x := l2) (n := 1) rfl rfl rfl rfl ?_
          refine yb_goto rfl rfl ?_
          refine yb_iinc (x := l5) (n := 1) rfl rfl rfl rfl ?_
          refine yb_goto rfl rfl ?_
          refine yb_forget (dl := [.ref 1, .int (xJ l1), .int (xJ (l2 + 1)), .int (xJ l3), .int (xJ l4), .int (xJ (l5 + 1)), .double 0]) ⟨Or.inl rfl, ⟨Or.inl rfl, ⟨Or.inl rfl, ⟨Or.inl rfl, ⟨Or.inl rfl, ⟨Or.inl rfl, ⟨Or.inr ⟨rfl, rfl⟩, trivial⟩⟩⟩⟩⟩⟩⟩ ?_
          exact h
        · replace h := h.2 c
          refine yb_iload (x := l1) rfl rfl ?_
          have r11 := h.1
          replace h := h.2
          refine yb_if_ne (x := l1) rfl rfl r11 (fun c => ?_) (fun c => ?_)
          · replace h := h.1 c
            refine yb_iinc (x := l2) (n := 1) rfl rfl rfl rfl ?_
            refine yb_goto rfl rfl ?_
            refine yb_iinc (x := l5) (n := 1) rfl rfl rfl rfl ?_
            refine yb_goto rfl rfl ?_
            refine yb_forget (dl := [.ref 1, .int (xJ l1), .int (xJ (l2 + 1)), .int (xJ l3), .int (xJ l4), .int (xJ (l5 + 1)), .double 0]) ⟨Or.inl rfl, ⟨Or.inl rfl, ⟨Or.inl rfl, ⟨Or.inl rfl, ⟨Or.inl rfl, ⟨Or.inl rfl, ⟨Or.inr ⟨rfl, rfl⟩, trivial⟩⟩⟩⟩⟩⟩⟩ ?_
            exact h
          · replace h := h.2 c
            refine yb_iload (x := l5) rfl rfl ?_
            exact yb_ret rfl h
      · replace h := h.2 c
        show yB D xm_c101 _ L 31 [.ref 1, .int (xJ l1), .int (xJ l2), .int (xJ l3), .int (xJ l4), .int (xJ l5), .int (xJ (xt_at d l5))] [.int (xJ (0 : Int))] d e
        refine yb_if_eq (x := (0 : Int)) rfl rfl (by decide) (fun _ => ?_) (fun c => absurd (by decide) c)
        refine yb_iload (x := l5) rfl rfl ?_
        exact yb_ret rfl h
theorem yk_102_0 {D L : Nat} {P : Int → xh_D → xd_E → Prop} {d : xh_D} {e : xd_E}    (h : yB D xm_c102 (yQi L P) L 4 [.ref 1, .int (xJ (0 : Int)), .int (xJ (0 : Int))] [] d e) : yB D xm_c102 (yQi L P) L 0 [.ref 1, .double 0, .double 0] [] d e := by
  refine yb_push (v := 0) rfl ?_
  refine yb_istore rfl rfl rfl ?_
  refine yb_push (v := 0) rfl ?_
  refine yb_istore rfl rfl rfl ?_
  exact h
theorem yk_102_4 {D L : Nat} {P : Int → xh_D → xd_E → Prop} {d : xh_D} {e : xd_E}  {l1 : Int} {l2 : Int}  (hD : 2 ≤ D) (h : ((-2147483648 ≤ l2 ∧ l2 < 2147483648) ∧ ((-2147483648 ≤ (d 2 (1 : Int)) ∧ (d 2 (1 : Int)) < 2147483648) ∧ ((((d 2 (1 : Int)) ≤ l2) → P l1 (xs d 23 (4 : Int) (0 : Int)) e) ∧ ((¬ (d 2 (1 : Int)) ≤ l2) → ((-2147483648 ≤ (l2 - 1) ∧ (l2 - 1) < 2147483648) ∧ (xt_ok d ∧ (((l2 = 0 ∨ xt_at d (l2 - 1) = 59) → ((-2147483648 ≤ (l2 + (1 : Int)) ∧ (l2 + (1 : Int)) < 2147483648) ∧ yC D 103 L [.ref 1, .int (xJ (l2 + (2 : Int)))] d e (fun x6 d7 e8 => ((0 ≤ (d7 6 (4 : Int)) ∧ (d7 6 (4 : Int)) < 9) ∧ yB D xm_c102 (yQi L P) L 4 [.ref 1, .int (xJ (l1 + 1)), .int (xJ (l2 + 1))] [] (xs (xs (xs (xs d7 12 (d7 6 (4 : Int)) (xt_dig d l2)) 13 (d7 6 (4 : Int)) (xt_dig d (l2 + (1 : Int)))) 14 (d7 6 (4 : Int)) x6) 6 (4 : Int) ((d7 6 (4 : Int)) + 1)) e8)))) ∧ (¬ (l2 = 0 ∨ xt_at d (l2 - 1) = 59) → yB D xm_c102 (yQi L P) L 4 [.ref 1, .int (xJ l1), .int (xJ (l2 + 1))] [] d e))))))))) : yB D xm_c102 (yQi L P) L 4 [.ref 1, .int (xJ l1), .int (xJ l2)] [] d e := by
  refine yb_iload (x := l2) rfl rfl ?_
  refine yb_aload rfl rfl ?_
  refine yb_get (v := .ref 2) rfl (by decide) (by decide) (rfl) rfl ?_
  refine yb_get (v := .int (xJ (d 2 (1 : Int)))) rfl (by decide) (by decide) (rfl) rfl ?_
  have r1 := h.1
  replace h := h.2
  have r2 := h.1
  replace h := h.2
  refine yb_icmp_ge (x := l2) (y := (d 2 (1 : Int))) rfl rfl r1 r2 (fun c => ?_) (fun c => ?_)
  · replace h := h.1 c
    refine yb_aload rfl rfl ?_
    refine yb_get (v := .ref 23) rfl (by decide) (by decide) (rfl) rfl ?_
    refine yb_callVv (As := []) (a := 23) rfl rfl rfl rfl rfl rfl rfl rfl (by decide) (by decide) (rfl) (by decide) (sp_19 (by omega) ?_)
    show yB D xm_c102 _ L 37 [.ref 1, .int (xJ l1), .int (xJ l2)] [] (xs d 23 (4 : Int) (0 : Int)) e
    refine yb_iload (x := l1) rfl rfl ?_
    exact yb_ret rfl h
  · replace h := h.2 c
    refine yb_aload rfl rfl ?_
    refine yb_get (v := .ref 2) rfl (by decide) (by decide) (rfl) rfl ?_
    refine yb_iload (x := l2) rfl rfl ?_
    have r3 := h.1
    replace h := h.2
    have r4 := h.1
    replace h := h.2
    refine yb_callVz (As := [.int (xJ l2)]) (a := 2) rfl rfl rfl rfl rfl rfl rfl rfl (by decide) (by decide) (rfl) (by decide) (sp_77 (by omega) ⟨r1, r3, r4⟩ (fun c => ?_) (fun c => ?_))
    · replace h := h.1 c
      show yB D xm_c102 _ L 13 [.ref 1, .int (xJ l1), .int (xJ l2)] [.int (xJ (1 : Int))] d e
      refine yb_if_eq (x := (1 : Int)) rfl rfl (by decide) (fun c => absurd c (by decide)) (fun _ => ?_)
      refine yb_aload rfl rfl ?_
      refine yb_aload rfl rfl ?_
      refine yb_get (v := .ref 2) rfl (by decide) (by decide) (rfl) rfl ?_
      refine yb_iload (x := l2) rfl rfl ?_
      refine yb_callVi (As := [.int (xJ l2)]) (a := 2) rfl rfl rfl rfl rfl rfl rfl rfl (by decide) (by decide) (rfl) (by show (1 : Nat) ≤ 8; decide) (sp_76 (by omega) ⟨r1, r4⟩ ?_)
      show yB D xm_c102 _ L 19 [.ref 1, .int (xJ l1), .int (xJ l2)] [.int (xJ (xt_dig d l2)), .ref 1] d e
      refine yb_aload rfl rfl ?_
      refine yb_get (v := .ref 2) rfl (by decide) (by decide) (rfl) rfl ?_
      refine yb_iload (x := l2) rfl rfl ?_
      refine yb_push (v := 1) rfl ?_
      refine yb_iadd (x := l2) (y := (1 : Int)) rfl ?_
      have r5 := h.1
      replace h := h.2
      refine yb_callVi (As := [.int (xJ (l2 + (1 : Int)))]) (a := 2) rfl rfl rfl rfl rfl rfl rfl rfl (by decide) (by decide) (rfl) (by show (2 : Nat) ≤ 8; decide) (sp_76 (by omega) ⟨r5, r4⟩ ?_)
      show yB D xm_c102 _ L 25 [.ref 1, .int (xJ l1), .int (xJ l2)] [.int (xJ (xt_dig d (l2 + (1 : Int)))), .int (xJ (xt_dig d l2)), .ref 1] d e
      refine yb_aload rfl rfl ?_
      refine yb_iload (x := l2) rfl rfl ?_
      refine yb_push (v := 2) rfl ?_
      refine yb_iadd (x := l2) (y := (2 : Int)) rfl ?_
      refine yb_callVi (As := [.int (xJ (l2 + (2 : Int)))]) (a := 1) rfl rfl rfl rfl rfl rfl rfl rfl (by decide) (by decide) (rfl) (by show (3 : Nat) ≤ 8; decide) (yC_mono h (fun x6 d7 e8 h => ?_))
      have r9 := h.1
      replace h := h.2
      refine yb_callVv (As := [.int (xJ (xt_dig d l2)), .int (xJ (xt_dig d (l2 + (1 : Int)))), .int (xJ x6)]) (a := 1) rfl rfl rfl rfl rfl rfl rfl rfl (by decide) (by decide) (rfl) (by decide) (sp_104 (by omega) r9 ?_)
      show yB D xm_c102 _ L 31 [.ref 1, .int (xJ l1), .int (xJ l2)] [] (xs (xs (xs (xs d7 12 (d7 6 (4 : Int)) (xt_dig d l2)) 13 (d7 6 (4 : Int)) (xt_dig d (l2 + (1 : Int)))) 14 (d7 6 (4 : Int)) x6) 6 (4 : Int) ((d7 6 (4 : Int)) + 1)) e8
      refine yb_iinc (x := l1) (n := 1) rfl rfl rfl rfl ?_
      refine yb_iinc (x := l2) (n := 1) rfl rfl rfl rfl ?_
      refine yb_goto rfl rfl ?_
      exact h
    · replace h := h.2 c
      show yB D xm_c102 _ L 13 [.ref 1, .int (xJ l1), .int (xJ l2)] [.int (xJ (0 : Int))] d e
      refine yb_if_eq (x := (0 : Int)) rfl rfl (by decide) (fun _ => ?_) (fun c => absurd (by decide) c)
      refine yb_iinc (x := l2) (n := 1) rfl rfl rfl rfl ?_
      refine yb_goto rfl rfl ?_
      exact h
theorem yk_103_0 {D L : Nat} {P : Int → xh_D → xd_E → Prop} {d : xh_D} {e : xd_E} {a1 : Int}   (h : yB D xm_c103 (yQi L P) L 4 [.ref 1, .double 0, .int (xJ (0 : Int)), .int (xJ a1)] [] d e) : yB D xm_c103 (yQi L P) L 0 [.ref 1, .int (xJ a1), .double 0, .double 0] [] d e := by
  refine yb_push (v := 0) rfl ?_
  refine yb_istore rfl rfl rfl ?_
  refine yb_iload (x := a1) rfl rfl ?_
  refine yb_istore rfl rfl rfl ?_
  refine yb_forget (dl := [.ref 1, .double 0, .int (xJ (0 : Int)), .int (xJ a1)]) ⟨Or.inl rfl, ⟨Or.inr ⟨rfl, rfl⟩, ⟨Or.inl rfl, ⟨Or.inl rfl, trivial⟩⟩⟩⟩ ?_
  exact h
theorem yk_103_4 {D L : Nat} {P : Int → xh_D → xd_E → Prop} {d : xh_D} {e : xd_E}  {l2 : Int} {l3 : Int}  (hD : 1 ≤ D) (h : ((-2147483648 ≤ l3 ∧ l3 < 2147483648) ∧ ((-2147483648 ≤ (d 2 (1 : Int)) ∧ (d 2 (1 : Int)) < 2147483648) ∧ ((((d 2 (1 : Int)) ≤ l3) → P l2 d e) ∧ ((¬ (d 2 (1 : Int)) ≤ l3) → (xt_ok d ∧ ((-2147483648 ≤ (xt_at d l3) ∧ (xt_at d l3) < 2147483648) ∧ ((((xt_at d l3) = (59 : Int)) → P l2 d e) ∧ ((¬ (xt_at d l3) = (59 : Int)) → (∀ v5, v5 = (xi_or l2 (xi_shl (1 : Int) ((xt_at d l3) - (112 : Int)))) → yB D xm_c103 (yQi L P) L 4 [.ref 1, .double 0, .int (xJ v5), .int (xJ (l3 + 1))] [] d e)))))))))) : yB D xm_c103 (yQi L P) L 4 [.ref 1, .double 0, .int (xJ l2), .int (xJ l3)] [] d e := by
  refine yb_iload (x := l3) rfl rfl ?_
  refine yb_aload rfl rfl ?_
  refine yb_get (v := .ref 2) rfl (by decide) (by decide) (rfl) rfl ?_
  refine yb_get (v := .int (xJ (d 2 (1 : Int)))) rfl (by decide) (by decide) (rfl) rfl ?_
  have r1 := h.1
  replace h := h.2
  have r2 := h.1
  replace h := h.2
  refine yb_icmp_ge (x := l3) (y := (d 2 (1 : Int))) rfl rfl r1 r2 (fun c => ?_) (fun c => ?_)
  · replace h := h.1 c
    refine yb_iload (x := l2) rfl rfl ?_
    exact yb_ret rfl h
  · replace h := h.2 c
    refine yb_aload rfl rfl ?_
    refine yb_get (v := .ref 2) rfl (by decide) (by decide) (rfl) rfl ?_
    refine yb_iload (x := l3) rfl rfl ?_
    have r3 := h.1
    replace h := h.2
    refine yb_callVi (As := [.int (xJ l3)]) (a := 2) rfl rfl rfl rfl rfl rfl rfl rfl (by decide) (by decide) (rfl) (by decide) (sp_75 (by omega) ⟨r1, r3⟩ ?_)
    show yB D xm_c103 _ L 13 [.ref 1, .double 0, .int (xJ l2), .int (xJ l3)] [.int (xJ (xt_at d l3))] d e
    refine yb_push (v := 59) rfl ?_
    have r4 := h.1
    replace h := h.2
    refine yb_icmp_eq (x := (xt_at d l3)) (y := (59 : Int)) rfl rfl r4 (by decide) (fun c => ?_) (fun c => ?_)
    · replace h := h.1 c
      refine yb_iload (x := l2) rfl rfl ?_
      exact yb_ret rfl h
    · replace h := h.2 c
      refine yb_iload (x := l2) rfl rfl ?_
      refine yb_push (v := 1) rfl ?_
      refine yb_aload rfl rfl ?_
      refine yb_get (v := .ref 2) rfl (by decide) (by decide) (rfl) rfl ?_
      refine yb_iload (x := l3) rfl rfl ?_
      refine yb_callVi (As := [.int (xJ l3)]) (a := 2) rfl rfl rfl rfl rfl rfl rfl rfl (by decide) (by decide) (rfl) (by show (2 : Nat) ≤ 8; decide) (sp_75 (by omega) ⟨r1, r3⟩ ?_)
      show yB D xm_c103 _ L 21 [.ref 1, .double 0, .int (xJ l2), .int (xJ l3)] [.int (xJ (xt_at d l3)), .int (xJ (1 : Int)), .int (xJ l2)] d e
      refine yb_push (v := 112) rfl ?_
      refine yb_isub (x := (xt_at d l3)) (y := (112 : Int)) rfl ?_
      refine yb_ishl (x := (1 : Int)) (y := ((xt_at d l3) - (112 : Int))) rfl ?_
      refine yb_ior (x := l2) (y := (xi_shl (1 : Int) ((xt_at d l3) - (112 : Int)))) rfl ?_
      replace h := h _ rfl
      refine yb_istore rfl rfl rfl ?_
      refine yb_iinc (x := l3) (n := 1) rfl rfl rfl rfl ?_
      refine yb_goto rfl rfl ?_
      exact h
theorem yk_105_0 {D L : Nat} {P : Int → xh_D → xd_E → Prop} {d : xh_D} {e : xd_E} {a1 : Int}   (hD : 1 ≤ D) (h : ((-2147483648 ≤ a1 ∧ a1 < 2147483648) ∧ ((-2147483648 ≤ (d 6 (4 : Int)) ∧ (d 6 (4 : Int)) < 2147483648) ∧ (((0 ≤ a1 ∧ a1 < (d 6 (4 : Int))) → yC D 78 L [.ref 2, .int (xJ (d 6 (4 : Int)))] d e (fun x3 d4 e5 => ((-2147483648 ≤ x3 ∧ x3 < 2147483648) ∧ (((¬ x3 = (-1 : Int)) → yB D xm_c105 (yQi L P) L 27 [.ref 1, .int (xJ a1), .int (xJ ((-1 : Int) - x3)), .double 0, .int (xJ (0 : Int))] [] d4 e5) ∧ ((x3 = (-1 : Int)) → yB D xm_c105 (yQi L P) L 27 [.ref 1, .int (xJ a1), .int (xJ (d4 6 (4 : Int))), .double 0, .int (xJ (0 : Int))] [] d4 e5))))) ∧ (¬ (0 ≤ a1 ∧ a1 < (d 6 (4 : Int))) → P (-100 : Int) (xs d 2 (1 : Int) (0 : Int)) e))))) : yB D xm_c105 (yQi L P) L 0 [.ref 1, .int (xJ a1), .double 0, .double 0, .double 0] [] d e := by
  refine yb_push (v := (-100)) rfl ?_
  refine yb_istore rfl rfl rfl ?_
  refine yb_aload rfl rfl ?_
  refine yb_get (v := .ref 6) rfl (by decide) (by decide) (rfl) rfl ?_
  refine yb_iload (x := a1) rfl rfl ?_
  have r1 := h.1
  replace h := h.2
  have r2 := h.1
  replace h := h.2
  refine yb_callVz (As := [.int (xJ a1)]) (a := 6) rfl rfl rfl rfl rfl rfl rfl rfl (by decide) (by decide) (rfl) (by decide) (sp_21 (by omega) ⟨r1, r2⟩ (fun c => ?_) (fun c => ?_))
  · replace h := h.1 c
    show yB D xm_c105 _ L 6 [.ref 1, .int (xJ a1), .int (xJ (-100 : Int)), .double 0, .double 0] [.int (xJ (1 : Int))] d e
    refine yb_if_eq (x := (1 : Int)) rfl rfl (by decide) (fun c => absurd c (by decide)) (fun _ => ?_)
    refine yb_aload rfl rfl ?_
    refine yb_get (v := .ref 2) rfl (by decide) (by decide) (rfl) rfl ?_
    refine yb_aload rfl rfl ?_
    refine yb_get (v := .ref 6) rfl (by decide) (by decide) (rfl) rfl ?_
    refine yb_get (v := .int (xJ (d 6 (4 : Int)))) rfl (by decide) (by decide) (rfl) rfl ?_
    refine yb_callVi (As := [.int (xJ (d 6 (4 : Int)))]) (a := 2) rfl rfl rfl rfl rfl rfl rfl rfl (by decide) (by decide) (rfl) (by decide) (yC_mono h (fun x3 d4 e5 h => ?_))
    refine yb_istore rfl rfl rfl ?_
    refine yb_iload (x := x3) rfl rfl ?_
    refine yb_push (v := (-1)) rfl ?_
    have r6 := h.1
    replace h := h.2
    refine yb_icmp_ne (x := x3) (y := (-1 : Int)) rfl rfl r6 (by decide) (fun c => ?_) (fun c => ?_)
    · replace h := h.1 c
      refine yb_push (v := (-1)) rfl ?_
      refine yb_iload (x := x3) rfl rfl ?_
      refine yb_isub (x := (-1 : Int)) (y := x3) rfl ?_
      refine yb_istore rfl rfl rfl ?_
      refine yb_push (v := 0) rfl ?_
      refine yb_istore rfl rfl rfl ?_
      refine yb_forget (dl := [.ref 1, .int (xJ a1), .int (xJ ((-1 : Int) - x3)), .double 0, .int (xJ (0 : Int))]) ⟨Or.inl rfl, ⟨Or.inl rfl, ⟨Or.inl rfl, ⟨Or.inr ⟨rfl, rfl⟩, ⟨Or.inl rfl, trivial⟩⟩⟩⟩⟩ ?_
      exact h
    · replace h := h.2 c
      refine yb_aload rfl rfl ?_
      refine yb_get (v := .ref 6) rfl (by decide) (by decide) (rfl) rfl ?_
      refine yb_get (v := .int (xJ (d4 6 (4 : Int)))) rfl (by decide) (by decide) (rfl) rfl ?_
      refine yb_goto rfl rfl ?_
      refine yb_istore rfl rfl rfl ?_
      refine yb_push (v := 0) rfl ?_
      refine yb_istore rfl rfl rfl ?_
      refine yb_forget (dl := [.ref 1, .int (xJ a1), .int (xJ (d4 6 (4 : Int))), .double 0, .int (xJ (0 : Int))]) ⟨Or.inl rfl, ⟨Or.inl rfl, ⟨Or.inl rfl, ⟨Or.inr ⟨rfl, rfl⟩, ⟨Or.inl rfl, trivial⟩⟩⟩⟩⟩ ?_
      exact h
  · replace h := h.2 c
    show yB D xm_c105 _ L 6 [.ref 1, .int (xJ a1), .int (xJ (-100 : Int)), .double 0, .double 0] [.int (xJ (0 : Int))] d e
    refine yb_if_eq (x := (0 : Int)) rfl rfl (by decide) (fun _ => ?_) (fun c => absurd (by decide) c)
    refine yb_aload rfl rfl ?_
    refine yb_get (v := .ref 2) rfl (by decide) (by decide) (rfl) rfl ?_
    refine yb_push (v := 0) rfl ?_
    refine yb_put (z := (0 : Int)) (k := 1) rfl rfl (by decide) (by decide) (rfl) (Nat.le_of_ble_eq_true rfl) rfl (rfl) ?_
    refine yb_iload (x := (-100 : Int)) rfl rfl ?_
    exact yb_ret rfl h
theorem yk_105_27 {D L : Nat} {P : Int → xh_D → xd_E → Prop} {d : xh_D} {e : xd_E}  {l1 : Int} {l2 : Int} {l4 : Int}  (hD : 2 ≤ D) (h : ((-2147483648 ≤ l4 ∧ l4 < 2147483648) ∧ ((-2147483648 ≤ l2 ∧ l2 < 2147483648) ∧ (((l2 ≤ l4) → P l2 (xs d 2 (1 : Int) (0 : Int)) e) ∧ ((¬ l2 ≤ l4) → (xt_ok d ∧ ((0 ≤ ((l1 * (9 : Int)) + l4) ∧ ((l1 * (9 : Int)) + l4) < 81) ∧ yB D xm_c105 (yQi L P) L 27 [.ref 1, .int (xJ l1), .int (xJ l2), .double 0, .int (xJ (l4 + 1))] [] (xs d 7 ((l1 * (9 : Int)) + l4) (xt_dig d l4)) e))))))) : yB D xm_c105 (yQi L P) L 27 [.ref 1, .int (xJ l1), .int (xJ l2), .double 0, .int (xJ l4)] [] d e := by
  refine yb_iload (x := l4) rfl rfl ?_
  refine yb_iload (x := l2) rfl rfl ?_
  have r1 := h.1
  replace h := h.2
  have r2 := h.1
  replace h := h.2
  refine yb_icmp_ge (x := l4) (y := l2) rfl rfl r1 r2 (fun c => ?_) (fun c => ?_)
  · replace h := h.1 c
    refine yb_aload rfl rfl ?_
    refine yb_get (v := .ref 2) rfl (by decide) (by decide) (rfl) rfl ?_
    refine yb_push (v := 0) rfl ?_
    refine yb_put (z := (0 : Int)) (k := 1) rfl rfl (by decide) (by decide) (rfl) (Nat.le_of_ble_eq_true rfl) rfl (rfl) ?_
    refine yb_iload (x := l2) rfl rfl ?_
    exact yb_ret rfl h
  · replace h := h.2 c
    refine yb_aload rfl rfl ?_
    refine yb_get (v := .ref 6) rfl (by decide) (by decide) (rfl) rfl ?_
    refine yb_get (v := .ref 7) rfl (by decide) (by decide) (rfl) rfl ?_
    refine yb_iload (x := l1) rfl rfl ?_
    refine yb_push (v := 9) rfl ?_
    refine yb_imul (x := l1) (y := (9 : Int)) rfl ?_
    refine yb_iload (x := l4) rfl rfl ?_
    refine yb_iadd (x := (l1 * (9 : Int))) (y := l4) rfl ?_
    refine yb_aload rfl rfl ?_
    refine yb_get (v := .ref 2) rfl (by decide) (by decide) (rfl) rfl ?_
    refine yb_iload (x := l4) rfl rfl ?_
    have r3 := h.1
    replace h := h.2
    refine yb_callVi (As := [.int (xJ l4)]) (a := 2) rfl rfl rfl rfl rfl rfl rfl rfl (by decide) (by decide) (rfl) (by show (2 : Nat) ≤ 8; decide) (sp_76 (by omega) ⟨r1, r3⟩ ?_)
    show yB D xm_c105 _ L 42 [.ref 1, .int (xJ l1), .int (xJ l2), .double 0, .int (xJ l4)] [.int (xJ (xt_dig d l4)), .int (xJ ((l1 * (9 : Int)) + l4)), .ref 7] d e
    have r4 := h.1
    replace h := h.2
    refine yb_iast (j := ((l1 * (9 : Int)) + l4)) (x := (xt_dig d l4)) rfl xd_A7 (by decide) r4 ?_
    refine yb_iinc (x := l4) (n := 1) rfl rfl rfl rfl ?_
    refine yb_goto rfl rfl ?_
    exact h
theorem yk_106_0 {D L : Nat} {P : Int → xh_D → xd_E → Prop} {d : xh_D} {e : xd_E} {a1 : Int}   (hD : 1 ≤ D) (h : ((-2147483648 ≤ a1 ∧ a1 < 2147483648) ∧ ((-2147483648 ≤ (d 6 (4 : Int)) ∧ (d 6 (4 : Int)) < 2147483648) ∧ (((0 ≤ a1 ∧ a1 < (d 6 (4 : Int))) → yC D 78 L [.ref 2, .int (xJ (9 : Int))] d e (fun x3 d4 e5 => ((-2147483648 ≤ x3 ∧ x3 < 2147483648) ∧ (((¬ x3 = (-1 : Int)) → yB D xm_c106 (yQi L P) L 23 [.ref 1, .int (xJ a1), .int (xJ ((-1 : Int) - x3)), .double 0, .int (xJ (0 : Int))] [] d4 e5) ∧ ((x3 = (-1 : Int)) → yB D xm_c106 (yQi L P) L 23 [.ref 1, .int (xJ a1), .int (xJ (9 : Int)), .double 0, .int (xJ (0 : Int))] [] d4 e5))))) ∧ (¬ (0 ≤ a1 ∧ a1 < (d 6 (4 : Int))) → P (-100 : Int) (xs d 2 (1 : Int) (0 : Int)) e))))) : yB D xm_c106 (yQi L P) L 0 [.ref 1, .int (xJ a1), .double 0, .double 0, .double 0] [] d e := by
  refine yb_push (v := (-100)) rfl ?_
  refine yb_istore rfl rfl rfl ?_
  refine yb_aload rfl rfl ?_
  refine yb_get (v := .ref 6) rfl (by decide) (by decide) (rfl) rfl ?_
  refine yb_iload (x := a1) rfl rfl ?_
  have r1 := h.1
  replace h := h.2
  have r2 := h.1
  replace h := h.2
  refine yb_callVz (As := [.int (xJ a1)]) (a := 6) rfl rfl rfl rfl rfl rfl rfl rfl (by decide) (by decide) (rfl) (by decide) (sp_21 (by omega) ⟨r1, r2⟩ (fun c => ?_) (fun c => ?_))
  · replace h := h.1 c
    show yB D xm_c106 _ L 6 [.ref 1, .int (xJ a1), .int (xJ (-100 : Int)), .double 0, .double 0] [.int (xJ (1 : Int))] d e
    refine yb_if_eq (x := (1 : Int)) rfl rfl (by decide) (fun c => absurd c (by decide)) (fun _ => ?_)
    refine yb_aload rfl rfl ?_
    refine yb_get (v := .ref 2) rfl (by decide) (by decide) (rfl) rfl ?_
    refine yb_push (v := 9) rfl ?_
    refine yb_callVi (As := [.int (xJ (9 : Int))]) (a := 2) rfl rfl rfl rfl rfl rfl rfl rfl (by decide) (by decide) (rfl) (by decide) (yC_mono h (fun x3 d4 e5 h => ?_))
    refine yb_istore rfl rfl rfl ?_
    refine yb_iload (x := x3) rfl rfl ?_
    refine yb_push (v := (-1)) rfl ?_
    have r6 := h.1
    replace h := h.2
    refine yb_icmp_ne (x := x3) (y := (-1 : Int)) rfl rfl r6 (by decide) (fun c => ?_) (fun c => ?_)
    · replace h := h.1 c
      refine yb_push (v := (-1)) rfl ?_
      refine yb_iload (x := x3) rfl rfl ?_
      refine yb_isub (x := (-1 : Int)) (y := x3) rfl ?_
      refine yb_istore rfl rfl rfl ?_
      refine yb_push (v := 0) rfl ?_
      refine yb_istore rfl rfl rfl ?_
      refine yb_forget (dl := [.ref 1, .int (xJ a1), .int (xJ ((-1 : Int) - x3)), .double 0, .int (xJ (0 : Int))]) ⟨Or.inl rfl, ⟨Or.inl rfl, ⟨Or.inl rfl, ⟨Or.inr ⟨rfl, rfl⟩, ⟨Or.inl rfl, trivial⟩⟩⟩⟩⟩ ?_
      exact h
    · replace h := h.2 c
      refine yb_push (v := 9) rfl ?_
      refine yb_goto rfl rfl ?_
      refine yb_istore rfl rfl rfl ?_
      refine yb_push (v := 0) rfl ?_
      refine yb_istore rfl rfl rfl ?_
      refine yb_forget (dl := [.ref 1, .int (xJ a1), .int (xJ (9 : Int)), .double 0, .int (xJ (0 : Int))]) ⟨Or.inl rfl, ⟨Or.inl rfl, ⟨Or.inl rfl, ⟨Or.inr ⟨rfl, rfl⟩, ⟨Or.inl rfl, trivial⟩⟩⟩⟩⟩ ?_
      exact h
  · replace h := h.2 c
    show yB D xm_c106 _ L 6 [.ref 1, .int (xJ a1), .int (xJ (-100 : Int)), .double 0, .double 0] [.int (xJ (0 : Int))] d e
    refine yb_if_eq (x := (0 : Int)) rfl rfl (by decide) (fun _ => ?_) (fun c => absurd (by decide) c)
    refine yb_aload rfl rfl ?_
    refine yb_get (v := .ref 2) rfl (by decide) (by decide) (rfl) rfl ?_
    refine yb_push (v := 0) rfl ?_
    refine yb_put (z := (0 : Int)) (k := 1) rfl rfl (by decide) (by decide) (rfl) (Nat.le_of_ble_eq_true rfl) rfl (rfl) ?_
    refine yb_iload (x := (-100 : Int)) rfl rfl ?_
    exact yb_ret rfl h
theorem yk_106_23 {D L : Nat} {P : Int → xh_D → xd_E → Prop} {d : xh_D} {e : xd_E}  {l1 : Int} {l2 : Int} {l4 : Int}  (hD : 2 ≤ D) (h : ((-2147483648 ≤ l4 ∧ l4 < 2147483648) ∧ ((-2147483648 ≤ l2 ∧ l2 < 2147483648) ∧ (((l2 ≤ l4) → P l2 (xs d 2 (1 : Int) (0 : Int)) e) ∧ ((¬ l2 ≤ l4) → (xt_ok d ∧ ((0 ≤ ((l1 * (9 : Int)) + l4) ∧ ((l1 * (9 : Int)) + l4) < 81) ∧ yB D xm_c106 (yQi L P) L 23 [.ref 1, .int (xJ l1), .int (xJ l2), .double 0, .int (xJ (l4 + 1))] [] (xs d 8 ((l1 * (9 : Int)) + l4) (xt_dig d l4)) e))))))) : yB D xm_c106 (yQi L P) L 23 [.ref 1, .int (xJ l1), .int (xJ l2), .double 0, .int (xJ l4)] [] d e := by
  refine yb_iload (x := l4) rfl rfl ?_
  refine yb_iload (x := l2) rfl rfl ?_
  have r1 := h.1
  replace h := h.2
  have r2 := h.1
  replace h := h.2
  refine yb_icmp_ge (x := l4) (y := l2) rfl rfl r1 r2 (fun c => ?_) (fun c => ?_)
  · replace h := h.1 c
    refine yb_aload rfl rfl ?_
    refine yb_get (v := .ref 2) rfl (by decide) (by decide) (rfl) rfl ?_
    refine yb_push (v := 0) rfl ?_
    refine yb_put (z := (0 : Int)) (k := 1) rfl rfl (by decide) (by decide) (rfl) (Nat.le_of_ble_eq_true rfl) rfl (rfl) ?_
    refine yb_iload (x := l2) rfl rfl ?_
    exact yb_ret rfl h
  · replace h := h.2 c
    refine yb_aload rfl rfl ?_
    refine yb_get (v := .ref 6) rfl (by decide) (by decide) (rfl) rfl ?_
    refine yb_get (v := .ref 8) rfl (by decide) (by decide) (rfl) rfl ?_
    refine yb_iload (x := l1) rfl rfl ?_
    refine yb_push (v := 9) rfl ?_
    refine yb_imul (x := l1) (y := (9 : Int)) rfl ?_
    refine yb_iload (x := l4) rfl rfl ?_
    refine yb_iadd (x := (l1 * (9 : Int))) (y := l4) rfl ?_
    refine yb_aload rfl rfl ?_
    refine yb_get (v := .ref 2) rfl (by decide) (by decide) (rfl) rfl ?_
    refine yb_iload (x := l4) rfl rfl ?_
    have r3 := h.1
    replace h := h.2
    refine yb_callVi (As := [.int (xJ l4)]) (a := 2) rfl rfl rfl rfl rfl rfl rfl rfl (by decide) (by decide) (rfl) (by show (2 : Nat) ≤ 8; decide) (sp_76 (by omega) ⟨r1, r3⟩ ?_)
    show yB D xm_c106 _ L 38 [.ref 1, .int (xJ l1), .int (xJ l2), .double 0, .int (xJ l4)] [.int (xJ (xt_dig d l4)), .int (xJ ((l1 * (9 : Int)) + l4)), .ref 8] d e
    have r4 := h.1
    replace h := h.2
    refine yb_iast (j := ((l1 * (9 : Int)) + l4)) (x := (xt_dig d l4)) rfl xd_A8 (by decide) r4 ?_
    refine yb_iinc (x := l4) (n := 1) rfl rfl rfl rfl ?_
    refine yb_goto rfl rfl ?_
    exact h
theorem yk_107_0 {D L : Nat} {P : Int → xh_D → xd_E → Prop} {d : xh_D} {e : xd_E}    (h : yC D 34 L [.ref 111, .ref 2] d e (fun x1 d2 e3 => ((-2147483648 ≤ x1 ∧ x1 < 2147483648) ∧ (((¬ x1 = (-1 : Int)) → P ((-1 : Int) - x1) (xs d2 2 (1 : Int) (0 : Int)) e3) ∧ ((x1 = (-1 : Int)) → P (0 : Int) (xs d2 2 (1 : Int) (0 : Int)) e3))))) : yB D xm_c107 (yQi L P) L 0 [.ref 1, .double 0] [] d e := by
  refine yb_aload rfl rfl ?_
  refine yb_get (v := .ref 111) rfl (by decide) (by decide) (rfl) rfl ?_
  refine yb_aload rfl rfl ?_
  refine yb_get (v := .ref 2) rfl (by decide) (by decide) (rfl) rfl ?_
  refine yb_callVi (As := [.ref 2]) (a := 111) rfl rfl rfl rfl rfl rfl rfl rfl (by decide) (by decide) (rfl) (by decide) (yC_mono h (fun x1 d2 e3 h => ?_))
  refine yb_istore rfl rfl rfl ?_
  refine yb_aload rfl rfl ?_
  refine yb_get (v := .ref 2) rfl (by decide) (by decide) (rfl) rfl ?_
  refine yb_push (v := 0) rfl ?_
  refine yb_put (z := (0 : Int)) (k := 1) rfl rfl (by decide) (by decide) (rfl) (Nat.le_of_ble_eq_true rfl) rfl (rfl) ?_
  refine yb_iload (x := x1) rfl rfl ?_
  refine yb_push (v := (-1)) rfl ?_
  have r4 := h.1
  replace h := h.2
  refine yb_icmp_ne (x := x1) (y := (-1 : Int)) rfl rfl r4 (by decide) (fun c => ?_) (fun c => ?_)
  · replace h := h.1 c
    refine yb_push (v := (-1)) rfl ?_
    refine yb_iload (x := x1) rfl rfl ?_
    refine yb_isub (x := (-1 : Int)) (y := x1) rfl ?_
    exact yb_ret rfl h
  · replace h := h.2 c
    refine yb_push (v := 0) rfl ?_
    refine yb_goto rfl rfl ?_
    exact yb_ret rfl h
theorem yk_109_0 {D L : Nat} {P : Int → xh_D → xd_E → Prop} {d : xh_D} {e : xd_E} {a1 : Int} {a2 : Int}   (hD : 2 ≤ D) (h : ((-2147483648 ≤ a1 ∧ a1 < 2147483648) ∧ ((-2147483648 ≤ a2 ∧ a2 < 2147483648) ∧ ((-2147483648 ≤ (d 6 (4 : Int)) ∧ (d 6 (4 : Int)) < 2147483648) ∧ ((((0 ≤ a1 ∧ a1 < (d 6 (4 : Int))) ∧ (0 ≤ a2 ∧ a2 < (d 6 (4 : Int))) ∧ ¬ a1 = a2) → ((0 ≤ ((a1 * (9 : Int)) + a2) ∧ ((a1 * (9 : Int)) + a2) < 81) ∧ P (d 7 ((a1 * (9 : Int)) + a2)) d e)) ∧ (¬ ((0 ≤ a1 ∧ a1 < (d 6 (4 : Int))) ∧ (0 ≤ a2 ∧ a2 < (d 6 (4 : Int))) ∧ ¬ a1 = a2) → P (-1 : Int) d e)))))) : yB D xm_c109 (yQi L P) L 0 [.ref 1, .int (xJ a1), .int (xJ a2)] [] d e := by
  refine yb_aload rfl rfl ?_
  refine yb_get (v := .ref 6) rfl (by decide) (by decide) (rfl) rfl ?_
  refine yb_iload (x := a1) rfl rfl ?_
  refine yb_iload (x := a2) rfl rfl ?_
  have r1 := h.1
  replace h := h.2
  have r2 := h.1
  replace h := h.2
  have r3 := h.1
  replace h := h.2
  refine yb_callVz (As := [.int (xJ a1), .int (xJ a2)]) (a := 6) rfl rfl rfl rfl rfl rfl rfl rfl (by decide) (by decide) (rfl) (by decide) (sp_22 (by omega) ⟨r1, r2, r3⟩ (fun c => ?_) (fun c => ?_))
  · replace h := h.1 c
    show yB D xm_c109 _ L 5 [.ref 1, .int (xJ a1), .int (xJ a2)] [.int (xJ (1 : Int))] d e
    refine yb_if_eq (x := (1 : Int)) rfl rfl (by decide) (fun c => absurd c (by decide)) (fun _ => ?_)
    refine yb_aload rfl rfl ?_
    refine yb_get (v := .ref 6) rfl (by decide) (by decide) (rfl) rfl ?_
    refine yb_get (v := .ref 7) rfl (by decide) (by decide) (rfl) rfl ?_
    refine yb_iload (x := a1) rfl rfl ?_
    refine yb_push (v := 9) rfl ?_
    refine yb_imul (x := a1) (y := (9 : Int)) rfl ?_
    refine yb_iload (x := a2) rfl rfl ?_
    refine yb_iadd (x := (a1 * (9 : Int))) (y := a2) rfl ?_
    have r4 := h.1
    replace h := h.2
    refine yb_iald (j := ((a1 * (9 : Int)) + a2)) rfl xd_A7 (by decide) r4 (v := (d 7 ((a1 * (9 : Int)) + a2))) rfl ?_
    refine yb_goto rfl rfl ?_
    exact yb_ret rfl h
  · replace h := h.2 c
    show yB D xm_c109 _ L 5 [.ref 1, .int (xJ a1), .int (xJ a2)] [.int (xJ (0 : Int))] d e
    refine yb_if_eq (x := (0 : Int)) rfl rfl (by decide) (fun _ => ?_) (fun c => absurd (by decide) c)
    refine yb_push (v := (-1)) rfl ?_
    exact yb_ret rfl h
theorem yk_110_0 {D L : Nat} {P : Int → xh_D → xd_E → Prop} {d : xh_D} {e : xd_E} {a1 : Int} {a2 : Int}   (hD : 1 ≤ D) (h : ((-2147483648 ≤ a1 ∧ a1 < 2147483648) ∧ ((-2147483648 ≤ (d 6 (4 : Int)) ∧ (d 6 (4 : Int)) < 2147483648) ∧ (((0 ≤ a1 ∧ a1 < (d 6 (4 : Int))) → ((-2147483648 ≤ a2 ∧ a2 < 2147483648) ∧ (((0 ≤ a2 ∧ a2 ≤ 5) → ((0 ≤ ((a1 * (6 : Int)) + a2) ∧ ((a1 * (6 : Int)) + a2) < 54) ∧ P (d 15 ((a1 * (6 : Int)) + a2)) d e)) ∧ (¬ (0 ≤ a2 ∧ a2 ≤ 5) → P (-1 : Int) d e)))) ∧ (¬ (0 ≤ a1 ∧ a1 < (d 6 (4 : Int))) → P (-1 : Int) d e))))) : yB D xm_c110 (yQi L P) L 0 [.ref 1, .int (xJ a1), .int (xJ a2)] [] d e := by
  refine yb_aload rfl rfl ?_
  refine yb_get (v := .ref 6) rfl (by decide) (by decide) (rfl) rfl ?_
  refine yb_iload (x := a1) rfl rfl ?_
  have r1 := h.1
  replace h := h.2
  have r2 := h.1
  replace h := h.2
  refine yb_callVz (As := [.int (xJ a1)]) (a := 6) rfl rfl rfl rfl rfl rfl rfl rfl (by decide) (by decide) (rfl) (by decide) (sp_21 (by omega) ⟨r1, r2⟩ (fun c => ?_) (fun c => ?_))
  · replace h := h.1 c
    show yB D xm_c110 _ L 4 [.ref 1, .int (xJ a1), .int (xJ a2)] [.int (xJ (1 : Int))] d e
    refine yb_if_eq (x := (1 : Int)) rfl rfl (by decide) (fun c => absurd c (by decide)) (fun _ => ?_)
    refine yb_iload (x := a2) rfl rfl ?_
    have r3 := h.1
    replace h := h.2
    refine yb_callSz (As := [.int (xJ a2)]) rfl rfl rfl rfl rfl rfl rfl rfl (by decide) (sp_172 (by omega) r3 (fun c => ?_) (fun c => ?_))
    · replace h := h.1 c
      show yB D xm_c110 _ L 7 [.ref 1, .int (xJ a1), .int (xJ a2)] [.int (xJ (1 : Int))] d e
      refine yb_if_eq (x := (1 : Int)) rfl rfl (by decide) (fun c => absurd c (by decide)) (fun _ => ?_)
      refine yb_aload rfl rfl ?_
      refine yb_get (v := .ref 11) rfl (by decide) (by decide) (rfl) rfl ?_
      refine yb_get (v := .ref 15) rfl (by decide) (by decide) (rfl) rfl ?_
      refine yb_iload (x := a1) rfl rfl ?_
      refine yb_push (v := 6) rfl ?_
      refine yb_imul (x := a1) (y := (6 : Int)) rfl ?_
      refine yb_iload (x := a2) rfl rfl ?_
      refine yb_iadd (x := (a1 * (6 : Int))) (y := a2) rfl ?_
      have r4 := h.1
      replace h := h.2
      refine yb_iald (j := ((a1 * (6 : Int)) + a2)) rfl xd_A15 (by decide) r4 (v := (d 15 ((a1 * (6 : Int)) + a2))) rfl ?_
      refine yb_goto rfl rfl ?_
      exact yb_ret rfl h
    · replace h := h.2 c
      show yB D xm_c110 _ L 7 [.ref 1, .int (xJ a1), .int (xJ a2)] [.int (xJ (0 : Int))] d e
      refine yb_if_eq (x := (0 : Int)) rfl rfl (by decide) (fun _ => ?_) (fun c => absurd (by decide) c)
      refine yb_push (v := (-1)) rfl ?_
      exact yb_ret rfl h
  · replace h := h.2 c
    show yB D xm_c110 _ L 4 [.ref 1, .int (xJ a1), .int (xJ a2)] [.int (xJ (0 : Int))] d e
    refine yb_if_eq (x := (0 : Int)) rfl rfl (by decide) (fun _ => ?_) (fun c => absurd (by decide) c)
    refine yb_push (v := (-1)) rfl ?_
    exact yb_ret rfl h
theorem yk_111_0 {D L : Nat} {P : Int → xh_D → xd_E → Prop} {d : xh_D} {e : xd_E} {a1 : Int} {a2 : Int} {a3 : Int}   (hD : 1 ≤ D) (h : ((-2147483648 ≤ a1 ∧ a1 < 2147483648) ∧ ((-2147483648 ≤ (d 6 (4 : Int)) ∧ (d 6 (4 : Int)) < 2147483648) ∧ (((0 ≤ a1 ∧ a1 < (d 6 (4 : Int))) → ((-2147483648 ≤ a3 ∧ a3 < 2147483648) ∧ (((0 ≤ a3) → ((-2147483648 ≤ a2 ∧ a2 < 2147483648) ∧ (((¬ a2 = 0) → yB D xm_c111 (yQi L P) L 29 [.ref 1, .int (xJ a1), .int (xJ a2), .int (xJ a3), .int (xJ (-1 : Int))] [] d e) ∧ ((a2 = 0) → ((((9 : Int) ≤ a3) → yB D xm_c111 (yQi L P) L 29 [.ref 1, .int (xJ a1), .int (xJ a2), .int (xJ a3), .int (xJ (-1 : Int))] [] d e) ∧ ((¬ (9 : Int) ≤ a3) → ((0 ≤ a1 ∧ a1 < 9) ∧ P (d 12 a1) (xs d 12 a1 a3) e))))))) ∧ ((¬ 0 ≤ a3) → P (-1 : Int) d e)))) ∧ (¬ (0 ≤ a1 ∧ a1 < (d 6 (4 : Int))) → P (-1 : Int) d e))))) : yB D xm_c111 (yQi L P) L 0 [.ref 1, .int (xJ a1), .int (xJ a2), .int (xJ a3), .double 0] [] d e := by
  refine yb_aload rfl rfl ?_
  refine yb_get (v := .ref 6) rfl (by decide) (by decide) (rfl) rfl ?_
  refine yb_iload (x := a1) rfl rfl ?_
  have r1 := h.1
  replace h := h.2
  have r2 := h.1
  replace h := h.2
  refine yb_callVz (As := [.int (xJ a1)]) (a := 6) rfl rfl rfl rfl rfl rfl rfl rfl (by decide) (by decide) (rfl) (by decide) (sp_21 (by omega) ⟨r1, r2⟩ (fun c => ?_) (fun c => ?_))
  · replace h := h.1 c
    show yB D xm_c111 _ L 4 [.ref 1, .int (xJ a1), .int (xJ a2), .int (xJ a3), .double 0] [.int (xJ (1 : Int))] d e
    refine yb_if_eq (x := (1 : Int)) rfl rfl (by decide) (fun c => absurd c (by decide)) (fun _ => ?_)
    refine yb_iload (x := a3) rfl rfl ?_
    have r3 := h.1
    replace h := h.2
    refine yb_if_ge (x := a3) rfl rfl r3 (fun c => ?_) (fun c => ?_)
    · replace h := h.1 c
      refine yb_push (v := (-1)) rfl ?_
      refine yb_istore rfl rfl rfl ?_
      refine yb_iload (x := a2) rfl rfl ?_
      have r4 := h.1
      replace h := h.2
      refine yb_if_ne (x := a2) rfl rfl r4 (fun c => ?_) (fun c => ?_)
      · replace h := h.1 c
        exact h
      · replace h := h.2 c
        refine yb_iload (x := a3) rfl rfl ?_
        refine yb_push (v := 9) rfl ?_
        refine yb_icmp_ge (x := a3) (y := (9 : Int)) rfl rfl r3 (by decide) (fun c => ?_) (fun c => ?_)
        · replace h := h.1 c
          exact h
        · replace h := h.2 c
          refine yb_aload rfl rfl ?_
          refine yb_get (v := .ref 11) rfl (by decide) (by decide) (rfl) rfl ?_
          refine yb_get (v := .ref 12) rfl (by decide) (by decide) (rfl) rfl ?_
          refine yb_iload (x := a1) rfl rfl ?_
          have r5 := h.1
          replace h := h.2
          refine yb_iald (j := a1) rfl xd_A12 (by decide) r5 (v := (d 12 a1)) rfl ?_
          refine yb_istore rfl rfl rfl ?_
          refine yb_aload rfl rfl ?_
          refine yb_get (v := .ref 11) rfl (by decide) (by decide) (rfl) rfl ?_
          refine yb_get (v := .ref 12) rfl (by decide) (by decide) (rfl) rfl ?_
          refine yb_iload (x := a1) rfl rfl ?_
          refine yb_iload (x := a3) rfl rfl ?_
          refine yb_iast (j := a1) (x := a3) rfl xd_A12 (by decide) r5 ?_
          refine yb_goto rfl rfl ?_
          refine yb_iload (x := (d 12 a1)) rfl rfl ?_
          exact yb_ret rfl h
    · replace h := h.2 c
      refine yb_push (v := (-1)) rfl ?_
      exact yb_ret rfl h
  · replace h := h.2 c
    show yB D xm_c111 _ L 4 [.ref 1, .int (xJ a1), .int (xJ a2), .int (xJ a3), .double 0] [.int (xJ (0 : Int))] d e
    refine yb_if_eq (x := (0 : Int)) rfl rfl (by decide) (fun _ => ?_) (fun c => absurd (by decide) c)
    refine yb_push (v := (-1)) rfl ?_
    exact yb_ret rfl h
theorem yk_111_29 {D L : Nat} {P : Int → xh_D → xd_E → Prop} {d : xh_D} {e : xd_E}  {l1 : Int} {l2 : Int} {l3 : Int} {l4 : Int}  (h : ((-2147483648 ≤ l2 ∧ l2 < 2147483648) ∧ (((¬ l2 = (1 : Int)) → yB D xm_c111 (yQi L P) L 48 [.ref 1, .int (xJ l1), .int (xJ l2), .int (xJ l3), .int (xJ l4)] [] d e) ∧ ((l2 = (1 : Int)) → ((-2147483648 ≤ l3 ∧ l3 < 2147483648) ∧ ((((9 : Int) ≤ l3) → yB D xm_c111 (yQi L P) L 48 [.ref 1, .int (xJ l1), .int (xJ l2), .int (xJ l3), .int (xJ l4)] [] d e) ∧ ((¬ (9 : Int) ≤ l3) → ((0 ≤ l1 ∧ l1 < 9) ∧ P (d 13 l1) (xs d 13 l1 l3) e)))))))) : yB D xm_c111 (yQi L P) L 29 [.ref 1, .int (xJ l1), .int (xJ l2), .int (xJ l3), .int (xJ l4)] [] d e := by
  refine yb_iload (x := l2) rfl rfl ?_
  refine yb_push (v := 1) rfl ?_
  have r1 := h.1
  replace h := h.2
  refine yb_icmp_ne (x := l2) (y := (1 : Int)) rfl rfl r1 (by decide) (fun c => ?_) (fun c => ?_)
  · replace h := h.1 c
    exact h
  · replace h := h.2 c
    refine yb_iload (x := l3) rfl rfl ?_
    refine yb_push (v := 9) rfl ?_
    have r2 := h.1
    replace h := h.2
    refine yb_icmp_ge (x := l3) (y := (9 : Int)) rfl rfl r2 (by decide) (fun c => ?_) (fun c => ?_)
    · replace h := h.1 c
      exact h
    · replace h := h.2 c
      refine yb_aload rfl rfl ?_
      refine yb_get (v := .ref 11) rfl (by decide) (by decide) (rfl) rfl ?_
      refine yb_get (v := .ref 13) rfl (by decide) (by decide) (rfl) rfl ?_
      refine yb_iload (x := l1) rfl rfl ?_
      have r3 := h.1
      replace h := h.2
      refine yb_iald (j := l1) rfl xd_A13 (by decide) r3 (v := (d 13 l1)) rfl ?_
      refine yb_istore rfl rfl rfl ?_
      refine yb_aload rfl rfl ?_
      refine yb_get (v := .ref 11) rfl (by decide) (by decide) (rfl) rfl ?_
      refine yb_get (v := .ref 13) rfl (by decide) (by decide) (rfl) rfl ?_
      refine yb_iload (x := l1) rfl rfl ?_
      refine yb_iload (x := l3) rfl rfl ?_
      refine yb_iast (j := l1) (x := l3) rfl xd_A13 (by decide) r3 ?_
      refine yb_goto rfl rfl ?_
      refine yb_iload (x := (d 13 l1)) rfl rfl ?_
      exact yb_ret rfl h
theorem yk_111_48 {D L : Nat} {P : Int → xh_D → xd_E → Prop} {d : xh_D} {e : xd_E}  {l1 : Int} {l2 : Int} {l3 : Int} {l4 : Int}  (h : ((-2147483648 ≤ l2 ∧ l2 < 2147483648) ∧ (((¬ l2 = (2 : Int)) → P l4 d e) ∧ ((l2 = (2 : Int)) → ((-2147483648 ≤ l3 ∧ l3 < 2147483648) ∧ ((((64 : Int) ≤ l3) → P l4 d e) ∧ ((¬ (64 : Int) ≤ l3) → ((0 ≤ l1 ∧ l1 < 9) ∧ P (d 14 l1) (xs d 14 l1 l3) e)))))))) : yB D xm_c111 (yQi L P) L 48 [.ref 1, .int (xJ l1), .int (xJ l2), .int (xJ l3), .int (xJ l4)] [] d e := by
  refine yb_iload (x := l2) rfl rfl ?_
  refine yb_push (v := 2) rfl ?_
  have r1 := h.1
  replace h := h.2
  refine yb_icmp_ne (x := l2) (y := (2 : Int)) rfl rfl r1 (by decide) (fun c => ?_) (fun c => ?_)
  · replace h := h.1 c
    refine yb_iload (x := l4) rfl rfl ?_
    exact yb_ret rfl h
  · replace h := h.2 c
    refine yb_iload (x := l3) rfl rfl ?_
    refine yb_push (v := 64) rfl ?_
    have r2 := h.1
    replace h := h.2
    refine yb_icmp_ge (x := l3) (y := (64 : Int)) rfl rfl r2 (by decide) (fun c => ?_) (fun c => ?_)
    · replace h := h.1 c
      refine yb_iload (x := l4) rfl rfl ?_
      exact yb_ret rfl h
    · replace h := h.2 c
      refine yb_aload rfl rfl ?_
      refine yb_get (v := .ref 11) rfl (by decide) (by decide) (rfl) rfl ?_
      refine yb_get (v := .ref 14) rfl (by decide) (by decide) (rfl) rfl ?_
      refine yb_iload (x := l1) rfl rfl ?_
      have r3 := h.1
      replace h := h.2
      refine yb_iald (j := l1) rfl xd_A14 (by decide) r3 (v := (d 14 l1)) rfl ?_
      refine yb_istore rfl rfl rfl ?_
      refine yb_aload rfl rfl ?_
      refine yb_get (v := .ref 11) rfl (by decide) (by decide) (rfl) rfl ?_
      refine yb_get (v := .ref 14) rfl (by decide) (by decide) (rfl) rfl ?_
      refine yb_iload (x := l1) rfl rfl ?_
      refine yb_iload (x := l3) rfl rfl ?_
      refine yb_iast (j := l1) (x := l3) rfl xd_A14 (by decide) r3 ?_
      refine yb_iload (x := (d 14 l1)) rfl rfl ?_
      exact yb_ret rfl h
theorem yk_112_0 {D L : Nat} {P : Int → xh_D → xd_E → Prop} {d : xh_D} {e : xd_E} {a1 : Int} {a2 : Int} {a3 : Int} {a4 : Int}   (h : ((-2147483648 ≤ a1 ∧ a1 < 2147483648) ∧ (((a1 < 0) → P (-1 : Int) d e) ∧ ((¬ a1 < 0) → ((((3 : Int) < a1) → P (-1 : Int) d e) ∧ ((¬ (3 : Int) < a1) → ((-2147483648 ≤ a2 ∧ a2 < 2147483648) ∧ (((a2 ≤ (9 : Int)) → (((a1 = (3 : Int)) → (((¬ a1 = (3 : Int)) → yB D xm_c112 (yQi L P) L 28 [.ref 1, .int (xJ a1), .double 0, .int (xJ a3), .int (xJ a4), .int (xJ a2), .int (xJ (0 : Int)), .int (xJ (0 : Int)), .double 0] [] d e) ∧ ((a1 = (3 : Int)) → yB D xm_c112 (yQi L P) L 28 [.ref 1, .int (xJ a1), .double 0, .int (xJ a3), .int (xJ a4), .int (xJ (0 : Int)), .int (xJ (0 : Int)), .int (xJ (0 : Int)), .double 0] [] d e))) ∧ ((¬ a1 = (3 : Int)) → (((0 ≤ a2) → (((¬ a1 = (3 : Int)) → yB D xm_c112 (yQi L P) L 28 [.ref 1, .int (xJ a1), .double 0, .int (xJ a3), .int (xJ a4), .int (xJ a2), .int (xJ (0 : Int)), .int (xJ (0 : Int)), .double 0] [] d e) ∧ ((a1 = (3 : Int)) → yB D xm_c112 (yQi L P) L 28 [.ref 1, .int (xJ a1), .double 0, .int (xJ a3), .int (xJ a4), .int (xJ (0 : Int)), .int (xJ (0 : Int)), .int (xJ (0 : Int)), .double 0] [] d e))) ∧ ((¬ 0 ≤ a2) → P (-2 : Int) d e))))) ∧ ((¬ a2 ≤ (9 : Int)) → P (-1 : Int) d e))))))))) : yB D xm_c112 (yQi L P) L 0 [.ref 1, .int (xJ a1), .int (xJ a2), .int (xJ a3), .int (xJ a4), .double 0, .double 0, .double 0, .double 0] [] d e := by
  refine yb_iload (x := a1) rfl rfl ?_
  have r1 := h.1
  replace h := h.2
  refine yb_if_lt (x := a1) rfl rfl r1 (fun c => ?_) (fun c => ?_)
  · replace h := h.1 c
    refine yb_push (v := (-1)) rfl ?_
    exact yb_ret rfl h
  · replace h := h.2 c
    refine yb_iload (x := a1) rfl rfl ?_
    refine yb_push (v := 3) rfl ?_
    refine yb_icmp_gt (x := a1) (y := (3 : Int)) rfl rfl r1 (by decide) (fun c => ?_) (fun c => ?_)
    · replace h := h.1 c
      refine yb_push (v := (-1)) rfl ?_
      exact yb_ret rfl h
    · replace h := h.2 c
      refine yb_iload (x := a2) rfl rfl ?_
      refine yb_push (v := 9) rfl ?_
      have r2 := h.1
      replace h := h.2
      refine yb_icmp_le (x := a2) (y := (9 : Int)) rfl rfl r2 (by decide) (fun c => ?_) (fun c => ?_)
      · replace h := h.1 c
        refine yb_iload (x := a1) rfl rfl ?_
        refine yb_push (v := 3) rfl ?_
        refine yb_icmp_eq (x := a1) (y := (3 : Int)) rfl rfl r1 (by decide) (fun c => ?_) (fun c => ?_)
        · replace h := h.1 c
          refine yb_iload (x := a1) rfl rfl ?_
          refine yb_push (v := 3) rfl ?_
          refine yb_icmp_ne (x := a1) (y := (3 : Int)) rfl rfl r1 (by decide) (fun c => ?_) (fun c => ?_)
          · replace h := h.1 c
            refine yb_iload (x := a2) rfl rfl ?_
            refine yb_istore rfl rfl rfl ?_
            refine yb_push (v := 0) rfl ?_
            refine yb_istore rfl rfl rfl ?_
            refine yb_push (v := 0) rfl ?_
            refine yb_istore rfl rfl rfl ?_
            refine yb_forget (dl := [.ref 1, .int (xJ a1), .double 0, .int (xJ a3), .int (xJ a4), .int (xJ a2), .int (xJ (0 : Int)), .int (xJ (0 : Int)), .double 0]) ⟨Or.inl rfl, ⟨Or.inl rfl, ⟨Or.inr ⟨rfl, rfl⟩, ⟨Or.inl rfl, ⟨Or.inl rfl, ⟨Or.inl rfl, ⟨Or.inl rfl, ⟨Or.inl rfl, ⟨Or.inl rfl, trivial⟩⟩⟩⟩⟩⟩⟩⟩⟩ ?_
            exact h
          · replace h := h.2 c
            refine yb_push (v := 0) rfl ?_
            refine yb_goto rfl rfl ?_
            refine yb_istore rfl rfl rfl ?_
            refine yb_push (v := 0) rfl ?_
            refine yb_istore rfl rfl rfl ?_
            refine yb_push (v := 0) rfl ?_
            refine yb_istore rfl rfl rfl ?_
            refine yb_forget (dl := [.ref 1, .int (xJ a1), .double 0, .int (xJ a3), .int (xJ a4), .int (xJ (0 : Int)), .int (xJ (0 : Int)), .int (xJ (0 : Int)), .double 0]) ⟨Or.inl rfl, ⟨Or.inl rfl, ⟨Or.inr ⟨rfl, rfl⟩, ⟨Or.inl rfl, ⟨Or.inl rfl, ⟨Or.inl rfl, ⟨Or.inl rfl, ⟨Or.inl rfl, ⟨Or.inl rfl, trivial⟩⟩⟩⟩⟩⟩⟩⟩⟩ ?_
            exact h
        · replace h := h.2 c
          refine yb_iload (x := a2) rfl rfl ?_
          refine yb_if_ge (x := a2) rfl rfl r2 (fun c => ?_) (fun c => ?_)
          · replace h := h.1 c
            refine yb_iload (x := a1) rfl rfl ?_
            refine yb_push (v := 3) rfl ?_
            refine yb_icmp_ne (x := a1) (y := (3 : Int)) rfl rfl r1 (by decide) (fun c => ?_) (fun c => ?_)
            · replace h := h.1 c
              refine yb_iload (x := a2) rfl rfl ?_
              refine yb_istore rfl rfl rfl ?_
              refine yb_push (v := 0) rfl ?_
              refine yb_istore rfl rfl rfl ?_
              refine yb_push (v := 0) rfl ?_
              refine yb_istore rfl rfl rfl ?_
              refine yb_forget (dl := [.ref 1, .int (xJ a1), .double 0, .int (xJ a3), .int (xJ a4), .int (xJ a2), .int (xJ (0 : Int)), .int (xJ (0 : Int)), .double 0]) ⟨Or.inl rfl, ⟨Or.inl rfl, ⟨Or.inr ⟨rfl, rfl⟩, ⟨Or.inl rfl, ⟨Or.inl rfl, ⟨Or.inl rfl, ⟨Or.inl rfl, ⟨Or.inl rfl, ⟨Or.inl rfl, trivial⟩⟩⟩⟩⟩⟩⟩⟩⟩ ?_
              exact h
            · replace h := h.2 c
              refine yb_push (v := 0) rfl ?_
              refine yb_goto rfl rfl ?_
              refine yb_istore rfl rfl rfl ?_
              refine yb_push (v := 0) rfl ?_
              refine yb_istore rfl rfl rfl ?_
              refine yb_push (v := 0) rfl ?_
              refine yb_istore rfl rfl rfl ?_
              refine yb_forget (dl := [.ref 1, .int (xJ a1), .double 0, .int (xJ a3), .int (xJ a4), .int (xJ (0 : Int)), .int (xJ (0 : Int)), .int (xJ (0 : Int)), .double 0]) ⟨Or.inl rfl, ⟨Or.inl rfl, ⟨Or.inr ⟨rfl, rfl⟩, ⟨Or.inl rfl, ⟨Or.inl rfl, ⟨Or.inl rfl, ⟨Or.inl rfl, ⟨Or.inl rfl, ⟨Or.inl rfl, trivial⟩⟩⟩⟩⟩⟩⟩⟩⟩ ?_
              exact h
          · replace h := h.2 c
            refine yb_push (v := (-2)) rfl ?_
            exact yb_ret rfl h
      · replace h := h.2 c
        refine yb_push (v := (-1)) rfl ?_
        exact yb_ret rfl h
theorem yk_112_28 {D L : Nat} {P : Int → xh_D → xd_E → Prop} {d : xh_D} {e : xd_E}  {l1 : Int} {l3 : Int} {l4 : Int} {l5 : Int} {l6 : Int} {l7 : Int}  (hD : 2 ≤ D) (h : ((-2147483648 ≤ l7 ∧ l7 < 2147483648) ∧ ((-2147483648 ≤ (d 6 (4 : Int)) ∧ (d 6 (4 : Int)) < 2147483648) ∧ ((((d 6 (4 : Int)) ≤ l7) → ((-2147483648 ≤ l1 ∧ l1 < 2147483648) ∧ (((¬ l1 = (3 : Int)) → P l6 d e) ∧ ((l1 = (3 : Int)) → P (-3 : Int) d e)))) ∧ ((¬ (d 6 (4 : Int)) ≤ l7) → ((-2147483648 ≤ l5 ∧ l5 < 2147483648) ∧ (((l5 ≤ l7) → ((0 ≤ l7 ∧ l7 < 9) ∧ yB D xm_c112 (yQi L P) L 28 [.ref 1, .int (xJ l1), .double 0, .int (xJ l3), .int (xJ l4), .int (xJ l5), .int (xJ (l6 + (0 : Int))), .int (xJ (l7 + 1)), .double 0] [] (xs d 12 l7 (0 : Int)) e)) ∧ ((¬ l5 ≤ l7) → ((-2147483648 ≤ l1 ∧ l1 < 2147483648) ∧ (∀ v8, v8 = (max 0 (min (xp_kind l1 (l3 + (l7 * l4))) (8 : Int))) → ((0 ≤ l7 ∧ l7 < 9) ∧ yB D xm_c112 (yQi L P) L 28 [.ref 1, .int (xJ l1), .double 0, .int (xJ l3), .int (xJ l4), .int (xJ l5), .int (xJ (l6 + v8)), .int (xJ (l7 + 1)), .double 0] [] (xs d 12 l7 v8) e))))))))))) : yB D xm_c112 (yQi L P) L 28 [.ref 1, .int (xJ l1), .double 0, .int (xJ l3), .int (xJ l4), .int (xJ l5), .int (xJ l6), .int (xJ l7), .double 0] [] d e := by
  refine yb_iload (x := l7) rfl rfl ?_
  refine yb_aload rfl rfl ?_
  refine yb_get (v := .ref 6) rfl (by decide) (by decide) (rfl) rfl ?_
  refine yb_get (v := .int (xJ (d 6 (4 : Int)))) rfl (by decide) (by decide) (rfl) rfl ?_
  have r1 := h.1
  replace h := h.2
  have r2 := h.1
  replace h := h.2
  refine yb_icmp_ge (x := l7) (y := (d 6 (4 : Int))) rfl rfl r1 r2 (fun c => ?_) (fun c => ?_)
  · replace h := h.1 c
    refine yb_iload (x := l1) rfl rfl ?_
    refine yb_push (v := 3) rfl ?_
    have r3 := h.1
    replace h := h.2
    refine yb_icmp_ne (x := l1) (y := (3 : Int)) rfl rfl r3 (by decide) (fun c => ?_) (fun c => ?_)
    · replace h := h.1 c
      refine yb_iload (x := l6) rfl rfl ?_
      exact yb_ret rfl h
    · replace h := h.2 c
      refine yb_push (v := (-3)) rfl ?_
      refine yb_goto rfl rfl ?_
      exact yb_ret rfl h
  · replace h := h.2 c
    refine yb_iload (x := l7) rfl rfl ?_
    refine yb_iload (x := l5) rfl rfl ?_
    have r4 := h.1
    replace h := h.2
    refine yb_icmp_ge (x := l7) (y := l5) rfl rfl r1 r4 (fun c => ?_) (fun c => ?_)
    · replace h := h.1 c
      refine yb_push (v := 0) rfl ?_
      refine yb_istore rfl rfl rfl ?_
      refine yb_aload rfl rfl ?_
      refine yb_get (v := .ref 11) rfl (by decide) (by decide) (rfl) rfl ?_
      refine yb_get (v := .ref 12) rfl (by decide) (by decide) (rfl) rfl ?_
      refine yb_iload (x := l7) rfl rfl ?_
      refine yb_iload (x := (0 : Int)) rfl rfl ?_
      have r5 := h.1
      replace h := h.2
      refine yb_iast (j := l7) (x := (0 : Int)) rfl xd_A12 (by decide) r5 ?_
      refine yb_iload (x := l6) rfl rfl ?_
      refine yb_iload (x := (0 : Int)) rfl rfl ?_
      refine yb_iadd (x := l6) (y := (0 : Int)) rfl ?_
      refine yb_istore rfl rfl rfl ?_
      refine yb_iinc (x := l7) (n := 1) rfl rfl rfl rfl ?_
      refine yb_goto rfl rfl ?_
      refine yb_forget (dl := [.ref 1, .int (xJ l1), .double 0, .int (xJ l3), .int (xJ l4), .int (xJ l5), .int (xJ (l6 + (0 : Int))), .int (xJ (l7 + 1)), .double 0]) ⟨Or.inl rfl, ⟨Or.inl rfl, ⟨Or.inl rfl, ⟨Or.inl rfl, ⟨Or.inl rfl, ⟨Or.inl rfl, ⟨Or.inl rfl, ⟨Or.inl rfl, ⟨Or.inr ⟨rfl, rfl⟩, trivial⟩⟩⟩⟩⟩⟩⟩⟩⟩ ?_
      exact h
    · replace h := h.2 c
      refine yb_iload (x := l1) rfl rfl ?_
      refine yb_iload (x := l3) rfl rfl ?_
      refine yb_iload (x := l7) rfl rfl ?_
      refine yb_iload (x := l4) rfl rfl ?_
      refine yb_imul (x := l7) (y := l4) rfl ?_
      refine yb_iadd (x := l3) (y := (l7 * l4)) rfl ?_
      have r6 := h.1
      replace h := h.2
      refine yb_callSi (As := [.int (xJ l1), .int (xJ (l3 + (l7 * l4)))]) rfl rfl rfl rfl rfl rfl rfl rfl (by decide) (sp_113 (by omega) r6 ?_)
      show yB D xm_c112 _ L 43 [.ref 1, .int (xJ l1), .double 0, .int (xJ l3), .int (xJ l4), .int (xJ l5), .int (xJ l6), .int (xJ l7), .double 0] [.int (xJ (xp_kind l1 (l3 + (l7 * l4))))] d e
      refine yb_push (v := 8) rfl ?_
      have r7 : (-2147483648 ≤ (xp_kind l1 (l3 + (l7 * l4))) ∧ (xp_kind l1 (l3 + (l7 * l4))) < 2147483648) := (xp_kind_r _ _)
      refine yb_callSi (As := [.int (xJ (xp_kind l1 (l3 + (l7 * l4)))), .int (xJ (8 : Int))]) rfl rfl rfl rfl rfl rfl rfl rfl (by decide) (sp_176 (by omega) ⟨r7, (by show (-2147483648 ≤ (8 : Int) ∧ (8 : Int) < 2147483648); decide)⟩ ?_)
      show yB D xm_c112 _ L 45 [.ref 1, .int (xJ l1), .double 0, .int (xJ l3), .int (xJ l4), .int (xJ l5), .int (xJ l6), .int (xJ l7), .double 0] [.int (xJ (max 0 (min (xp_kind l1 (l3 + (l7 * l4))) (8 : Int))))] d e
      refine yb_goto rfl rfl ?_
      replace h := h _ rfl
      refine yb_istore rfl rfl rfl ?_
      refine yb_aload rfl rfl ?_
      refine yb_get (v := .ref 11) rfl (by decide) (by decide) (rfl) rfl ?_
      refine yb_get (v := .ref 12) rfl (by decide) (by decide) (rfl) rfl ?_
      refine yb_iload (x := l7) rfl rfl ?_
      refine yb_iload (x := (max 0 (min (xp_kind l1 (l3 + (l7 * l4))) (8 : Int)))) rfl rfl ?_
      have r9 := h.1
      replace h := h.2
      refine yb_iast (j := l7) (x := (max 0 (min (xp_kind l1 (l3 + (l7 * l4))) (8 : Int)))) rfl xd_A12 (by decide) r9 ?_
      refine yb_iload (x := l6) rfl rfl ?_
      refine yb_iload (x := (max 0 (min (xp_kind l1 (l3 + (l7 * l4))) (8 : Int)))) rfl rfl ?_
      refine yb_iadd (x := l6) (y := (max 0 (min (xp_kind l1 (l3 + (l7 * l4))) (8 : Int)))) rfl ?_
      refine yb_istore rfl rfl rfl ?_
      refine yb_iinc (x := l7) (n := 1) rfl rfl rfl rfl ?_
      refine yb_goto rfl rfl ?_
      refine yb_forget (dl := [.ref 1, .int (xJ l1), .double 0, .int (xJ l3), .int (xJ l4), .int (xJ l5), .int (xJ (l6 + (max 0 (min (xp_kind l1 (l3 + (l7 * l4))) (8 : Int))))), .int (xJ (l7 + 1)), .double 0]) ⟨Or.inl rfl, ⟨Or.inl rfl, ⟨Or.inl rfl, ⟨Or.inl rfl, ⟨Or.inl rfl, ⟨Or.inl rfl, ⟨Or.inl rfl, ⟨Or.inl rfl, ⟨Or.inr ⟨rfl, rfl⟩, trivial⟩⟩⟩⟩⟩⟩⟩⟩⟩ ?_
      exact h
theorem yk_115_0 {D L : Nat} {P : Int → xh_D → xd_E → Prop} {d : xh_D} {e : xd_E} {a1 : Int}   (hD : 1 ≤ D) (h : ((-2147483648 ≤ a1 ∧ a1 < 2147483648) ∧ (((0 ≤ a1 ∧ a1 ≤ 999) → yV D 8 L [.ref 119, .ref 6, .ref 111, .ref 11, .int (xJ a1)] d e (fun d2 e3 => ((0 ≤ (d2 119 (8 : Int)) ∧ (d2 119 (8 : Int)) < 2147483648) ∧ yC D 51 L [.ref 11, .int (xJ a1), .int (xJ (d2 6 (4 : Int)))] (xs (xs (xs d2 4 (1 : Int) (0 : Int)) 5 (0 : Int) ((d2 119 (8 : Int)) % (1000 : Int))) 4 (1 : Int) (1 : Int)) e3 (fun x5 d6 e7 => ((0 ≤ (d6 4 (1 : Int)) ∧ (d6 4 (1 : Int)) < 12) ∧ yB D xm_c115 (yQi L P) L 38 [.ref 1, .double 0, .ref 119, .int (xJ (0 : Int))] [] (xs (xs d6 5 (d6 4 (1 : Int)) x5) 4 (1 : Int) ((d6 4 (1 : Int)) + 1)) e7))))) ∧ (¬ (0 ≤ a1 ∧ a1 ≤ 999) → P (-1 : Int) d e)))) : yB D xm_c115 (yQi L P) L 0 [.ref 1, .int (xJ a1), .double 0, .double 0] [] d e := by
  refine yb_iload (x := a1) rfl rfl ?_
  have r1 := h.1
  replace h := h.2
  refine yb_callSz (As := [.int (xJ a1)]) rfl rfl rfl rfl rfl rfl rfl rfl (by decide) (sp_175 (by omega) r1 (fun c => ?_) (fun c => ?_))
  · replace h := h.1 c
    show yB D xm_c115 _ L 2 [.ref 1, .int (xJ a1), .double 0, .double 0] [.int (xJ (1 : Int))] d e
    refine yb_if_ne (x := (1 : Int)) rfl rfl (by decide) (fun _ => ?_) (fun c => absurd c (by decide))
    refine yb_aload rfl rfl ?_
    refine yb_get (v := .ref 118) rfl (by decide) (by decide) (rfl) rfl ?_
    refine yb_get (v := .ref 119) rfl (by decide) (by decide) (rfl) rfl ?_
    refine yb_astore rfl rfl rfl ?_
    refine yb_aload rfl rfl ?_
    refine yb_aload rfl rfl ?_
    refine yb_get (v := .ref 6) rfl (by decide) (by decide) (rfl) rfl ?_
    refine yb_aload rfl rfl ?_
    refine yb_get (v := .ref 111) rfl (by decide) (by decide) (rfl) rfl ?_
    refine yb_aload rfl rfl ?_
    refine yb_get (v := .ref 11) rfl (by decide) (by decide) (rfl) rfl ?_
    refine yb_iload (x := a1) rfl rfl ?_
    refine yb_callVv (As := [.ref 6, .ref 111, .ref 11, .int (xJ a1)]) (a := 119) rfl rfl rfl rfl rfl rfl rfl rfl (by decide) (by decide) (rfl) (by decide) (yV_mono h (fun d2 e3 h => ?_))
    refine yb_aload rfl rfl ?_
    refine yb_get (v := .ref 4) rfl (by decide) (by decide) (rfl) rfl ?_
    refine yb_callVv (As := []) (a := 4) rfl rfl rfl rfl rfl rfl rfl rfl (by decide) (by decide) (rfl) (by decide) (sp_31 (by omega) ?_)
    show yB D xm_c115 _ L 21 [.ref 1, .int (xJ a1), .ref 119, .double 0] [] (xs d2 4 (1 : Int) (0 : Int)) e3
    refine yb_aload rfl rfl ?_
    refine yb_get (v := .ref 4) rfl (by decide) (by decide) (rfl) rfl ?_
    refine yb_aload rfl rfl ?_
    have r4 := h.1
    replace h := h.2
    refine yb_callVi (As := []) (a := 119) rfl rfl rfl rfl rfl rfl rfl rfl (by decide) (by decide) (rfl) (by show (1 : Nat) ≤ 8; decide) (sp_13 (by omega) r4 ?_)
    show yB D xm_c115 _ L 25 [.ref 1, .int (xJ a1), .ref 119, .double 0] [.int (xJ ((d2 119 (8 : Int)) % (1000 : Int))), .ref 4] (xs d2 4 (1 : Int) (0 : Int)) e3
    refine yb_callVv (As := [.int (xJ ((d2 119 (8 : Int)) % (1000 : Int)))]) (a := 4) rfl rfl rfl rfl rfl rfl rfl rfl (by decide) (by decide) (rfl) (by decide) (sp_32 (by omega) (by show (0 ≤ (0 : Int) ∧ (0 : Int) < 12); decide) ?_)
    show yB D xm_c115 _ L 26 [.ref 1, .int (xJ a1), .ref 119, .double 0] [] (xs (xs (xs d2 4 (1 : Int) (0 : Int)) 5 (0 : Int) ((d2 119 (8 : Int)) % (1000 : Int))) 4 (1 : Int) (1 : Int)) e3
    refine yb_aload rfl rfl ?_
    refine yb_get (v := .ref 4) rfl (by decide) (by decide) (rfl) rfl ?_
    refine yb_aload rfl rfl ?_
    refine yb_get (v := .ref 11) rfl (by decide) (by decide) (rfl) rfl ?_
    refine yb_iload (x := a1) rfl rfl ?_
    refine yb_aload rfl rfl ?_
    refine yb_get (v := .ref 6) rfl (by decide) (by decide) (rfl) rfl ?_
    refine yb_get (v := .int (xJ (d2 6 (4 : Int)))) rfl (by decide) (by decide) (rfl) rfl ?_
    refine yb_callVi (As := [.int (xJ a1), .int (xJ (d2 6 (4 : Int)))]) (a := 11) rfl rfl rfl rfl rfl rfl rfl rfl (by decide) (by decide) (rfl) (by show (1 : Nat) ≤ 8; decide) (yC_mono h (fun x5 d6 e7 h => ?_))
    have r8 := h.1
    replace h := h.2
    refine yb_callVv (As := [.int (xJ x5)]) (a := 4) rfl rfl rfl rfl rfl rfl rfl rfl (by decide) (by decide) (rfl) (by decide) (sp_32 (by omega) r8 ?_)
    show yB D xm_c115 _ L 36 [.ref 1, .int (xJ a1), .ref 119, .double 0] [] (xs (xs d6 5 (d6 4 (1 : Int)) x5) 4 (1 : Int) ((d6 4 (1 : Int)) + 1)) e7
    refine yb_push (v := 0) rfl ?_
    refine yb_istore rfl rfl rfl ?_
    refine yb_forget (dl := [.ref 1, .double 0, .ref 119, .int (xJ (0 : Int))]) ⟨Or.inl rfl, ⟨Or.inr ⟨rfl, rfl⟩, ⟨Or.inl rfl, ⟨Or.inl rfl, trivial⟩⟩⟩⟩ ?_
    exact h
  · replace h := h.2 c
    show yB D xm_c115 _ L 2 [.ref 1, .int (xJ a1), .double 0, .double 0] [.int (xJ (0 : Int))] d e
    refine yb_if_ne (x := (0 : Int)) rfl rfl (by decide) (fun c => absurd (by decide) c) (fun _ => ?_)
    refine yb_push (v := (-1)) rfl ?_
    exact yb_ret rfl h
theorem yk_115_38 {D L : Nat} {P : Int → xh_D → xd_E → Prop} {d : xh_D} {e : xd_E}  {l3 : Int}  (hD : 1 ≤ D) (h : ((-2147483648 ≤ l3 ∧ l3 < 2147483648) ∧ ((-2147483648 ≤ (d 119 (6 : Int)) ∧ (d 119 (6 : Int)) < 2147483648) ∧ ((((d 119 (6 : Int)) ≤ l3) → ((0 ≤ (d 119 (8 : Int)) ∧ (d 119 (8 : Int)) < 2147483648) ∧ P ((d 119 (8 : Int)) / (1000 : Int)) d e)) ∧ ((¬ (d 119 (6 : Int)) ≤ l3) → ((0 ≤ l3 ∧ l3 < 9) ∧ ((0 ≤ (d 4 (1 : Int)) ∧ (d 4 (1 : Int)) < 12) ∧ yB D xm_c115 (yQi L P) L 38 [.ref 1, .double 0, .ref 119, .int (xJ (l3 + 1))] [] (xs (xs d 5 (d 4 (1 : Int)) (d 121 l3)) 4 (1 : Int) ((d 4 (1 : Int)) + 1)) e))))))) : yB D xm_c115 (yQi L P) L 38 [.ref 1, .double 0, .ref 119, .int (xJ l3)] [] d e := by
  refine yb_iload (x := l3) rfl rfl ?_
  refine yb_aload rfl rfl ?_
  refine yb_get (v := .int (xJ (d 119 (6 : Int)))) rfl (by decide) (by decide) (rfl) rfl ?_
  have r1 := h.1
  replace h := h.2
  have r2 := h.1
  replace h := h.2
  refine yb_icmp_ge (x := l3) (y := (d 119 (6 : Int))) rfl rfl r1 r2 (fun c => ?_) (fun c => ?_)
  · replace h := h.1 c
    refine yb_aload rfl rfl ?_
    have r3 := h.1
    replace h := h.2
    refine yb_callVi (As := []) (a := 119) rfl rfl rfl rfl rfl rfl rfl rfl (by decide) (by decide) (rfl) (by decide) (sp_12 (by omega) r3 ?_)
    show yB D xm_c115 _ L 53 [.ref 1, .double 0, .ref 119, .int (xJ l3)] [.int (xJ ((d 119 (8 : Int)) / (1000 : Int)))] d e
    exact yb_ret rfl h
  · replace h := h.2 c
    refine yb_aload rfl rfl ?_
    refine yb_get (v := .ref 4) rfl (by decide) (by decide) (rfl) rfl ?_
    refine yb_aload rfl rfl ?_
    refine yb_get (v := .ref 121) rfl (by decide) (by decide) (rfl) rfl ?_
    refine yb_iload (x := l3) rfl rfl ?_
    have r4 := h.1
    replace h := h.2
    refine yb_iald (j := l3) rfl xd_A121 (by decide) r4 (v := (d 121 l3)) rfl ?_
    have r5 := h.1
    replace h := h.2
    refine yb_callVv (As := [.int (xJ (d 121 l3))]) (a := 4) rfl rfl rfl rfl rfl rfl rfl rfl (by decide) (by decide) (rfl) (by decide) (sp_32 (by omega) r5 ?_)
    show yB D xm_c115 _ L 49 [.ref 1, .double 0, .ref 119, .int (xJ l3)] [] (xs (xs d 5 (d 4 (1 : Int)) (d 121 l3)) 4 (1 : Int) ((d 4 (1 : Int)) + 1)) e
    refine yb_iinc (x := l3) (n := 1) rfl rfl rfl rfl ?_
    refine yb_goto rfl rfl ?_
    exact h
theorem yk_116_0 {D L : Nat} {P : Int → xh_D → xd_E → Prop} {d : xh_D} {e : xd_E} {a1 : Int}   (hD : 1 ≤ D) (h : ((-2147483648 ≤ a1 ∧ a1 < 2147483648) ∧ (((0 ≤ a1 ∧ a1 ≤ 999) → yV D 8 L [.ref 119, .ref 6, .ref 111, .ref 11, .int (xJ a1)] d e (fun d2 e3 => yC D 15 L [.ref 119] (xs d2 4 (1 : Int) (0 : Int)) e3 (fun x4 d5 e6 => ((0 ≤ (d5 4 (1 : Int)) ∧ (d5 4 (1 : Int)) < 12) ∧ yC D 14 L [.ref 119] (xs (xs d5 5 (d5 4 (1 : Int)) x4) 4 (1 : Int) ((d5 4 (1 : Int)) + 1)) e6 (fun x8 d9 e10 => P x8 d9 e10))))) ∧ (¬ (0 ≤ a1 ∧ a1 ≤ 999) → P (-1 : Int) d e)))) : yB D xm_c116 (yQi L P) L 0 [.ref 1, .int (xJ a1), .double 0] [] d e := by
  refine yb_iload (x := a1) rfl rfl ?_
  have r1 := h.1
  replace h := h.2
  refine yb_callSz (As := [.int (xJ a1)]) rfl rfl rfl rfl rfl rfl rfl rfl (by decide) (sp_175 (by omega) r1 (fun c => ?_) (fun c => ?_))
  · replace h := h.1 c
    show yB D xm_c116 _ L 2 [.ref 1, .int (xJ a1), .double 0] [.int (xJ (1 : Int))] d e
    refine yb_if_ne (x := (1 : Int)) rfl rfl (by decide) (fun _ => ?_) (fun c => absurd c (by decide))
    refine yb_aload rfl rfl ?_
    refine yb_get (v := .ref 118) rfl (by decide) (by decide) (rfl) rfl ?_
    refine yb_get (v := .ref 119) rfl (by decide) (by decide) (rfl) rfl ?_
    refine yb_astore rfl rfl rfl ?_
    refine yb_aload rfl rfl ?_
    refine yb_aload rfl rfl ?_
    refine yb_get (v := .ref 6) rfl (by decide) (by decide) (rfl) rfl ?_
    refine yb_aload rfl rfl ?_
    refine yb_get (v := .ref 111) rfl (by decide) (by decide) (rfl) rfl ?_
    refine yb_aload rfl rfl ?_
    refine yb_get (v := .ref 11) rfl (by decide) (by decide) (rfl) rfl ?_
    refine yb_iload (x := a1) rfl rfl ?_
    refine yb_callVv (As := [.ref 6, .ref 111, .ref 11, .int (xJ a1)]) (a := 119) rfl rfl rfl rfl rfl rfl rfl rfl (by decide) (by decide) (rfl) (by decide) (yV_mono h (fun d2 e3 h => ?_))
    refine yb_aload rfl rfl ?_
    refine yb_get (v := .ref 4) rfl (by decide) (by decide) (rfl) rfl ?_
    refine yb_callVv (As := []) (a := 4) rfl rfl rfl rfl rfl rfl rfl rfl (by decide) (by decide) (rfl) (by decide) (sp_31 (by omega) ?_)
    show yB D xm_c116 _ L 21 [.ref 1, .int (xJ a1), .ref 119] [] (xs d2 4 (1 : Int) (0 : Int)) e3
    refine yb_aload rfl rfl ?_
    refine yb_get (v := .ref 4) rfl (by decide) (by decide) (rfl) rfl ?_
    refine yb_aload rfl rfl ?_
    refine yb_callVi (As := []) (a := 119) rfl rfl rfl rfl rfl rfl rfl rfl (by decide) (by decide) (rfl) (by show (1 : Nat) ≤ 8; decide) (yC_mono h (fun x4 d5 e6 h => ?_))
    have r7 := h.1
    replace h := h.2
    refine yb_callVv (As := [.int (xJ x4)]) (a := 4) rfl rfl rfl rfl rfl rfl rfl rfl (by decide) (by decide) (rfl) (by decide) (sp_32 (by omega) r7 ?_)
    show yB D xm_c116 _ L 26 [.ref 1, .int (xJ a1), .ref 119] [] (xs (xs d5 5 (d5 4 (1 : Int)) x4) 4 (1 : Int) ((d5 4 (1 : Int)) + 1)) e6
    refine yb_aload rfl rfl ?_
    refine yb_callVi (As := []) (a := 119) rfl rfl rfl rfl rfl rfl rfl rfl (by decide) (by decide) (rfl) (by decide) (yC_mono h (fun x8 d9 e10 h => ?_))
    exact yb_ret rfl h
  · replace h := h.2 c
    show yB D xm_c116 _ L 2 [.ref 1, .int (xJ a1), .double 0] [.int (xJ (0 : Int))] d e
    refine yb_if_ne (x := (0 : Int)) rfl rfl (by decide) (fun c => absurd (by decide) c) (fun _ => ?_)
    refine yb_push (v := (-1)) rfl ?_
    exact yb_ret rfl h
theorem yk_117_0 {D L : Nat} {P : Int → xh_D → xd_E → Prop} {d : xh_D} {e : xd_E}    (h : yB D xm_c117 (yQi L P) L 14 [.ref 1, .ref 119, .int (xJ (d 11 (5 : Int))), .int (xJ (-1 : Int)), .int (xJ (d 11 (5 : Int)))] [] d e) : yB D xm_c117 (yQi L P) L 0 [.ref 1, .double 0, .double 0, .double 0, .double 0] [] d e := by
  refine yb_aload rfl rfl ?_
  refine yb_get (v := .ref 118) rfl (by decide) (by decide) (rfl) rfl ?_
  refine yb_get (v := .ref 119) rfl (by decide) (by decide) (rfl) rfl ?_
  refine yb_astore rfl rfl rfl ?_
  refine yb_aload rfl rfl ?_
  refine yb_get (v := .ref 11) rfl (by decide) (by decide) (rfl) rfl ?_
  refine yb_get (v := .int (xJ (d 11 (5 : Int)))) rfl (by decide) (by decide) (rfl) rfl ?_
  refine yb_istore rfl rfl rfl ?_
  refine yb_push (v := (-1)) rfl ?_
  refine yb_istore rfl rfl rfl ?_
  refine yb_aload rfl rfl ?_
  refine yb_get (v := .ref 11) rfl (by decide) (by decide) (rfl) rfl ?_
  refine yb_get (v := .int (xJ (d 11 (5 : Int)))) rfl (by decide) (by decide) (rfl) rfl ?_
  refine yb_istore rfl rfl rfl ?_
  exact h
theorem yk_117_14 {D L : Nat} {P : Int → xh_D → xd_E → Prop} {d : xh_D} {e : xd_E}  {l2 : Int} {l3 : Int} {l4 : Int}  (hD : 1 ≤ D) (h : ((-2147483648 ≤ l4 ∧ l4 < 2147483648) ∧ ((-2147483648 ≤ ((d 11 (5 : Int)) + (9 : Int)) ∧ ((d 11 (5 : Int)) + (9 : Int)) < 2147483648) ∧ (((((d 11 (5 : Int)) + (9 : Int)) ≤ l4) → ((0 ≤ l3 ∧ l3 < 2147483648) ∧ ((0 ≤ l2 ∧ l2 < 2147483648) ∧ P (l2 % (9 : Int)) (xs (xs (xs (xs (xs d 4 (1 : Int) (0 : Int)) 5 (0 : Int) (l3 / (1000 : Int))) 4 (1 : Int) (1 : Int)) 5 (1 : Int) (l3 % (1000 : Int))) 4 (1 : Int) (2 : Int)) e))) ∧ ((¬ ((d 11 (5 : Int)) + (9 : Int)) ≤ l4) → yV D 8 L [.ref 119, .ref 6, .ref 111, .ref 11, .int (xJ l4)] d e (fun d5 e6 => ((-2147483648 ≤ (d5 119 (8 : Int)) ∧ (d5 119 (8 : Int)) < 2147483648) ∧ ((-2147483648 ≤ l3 ∧ l3 < 2147483648) ∧ ((((d5 119 (8 : Int)) ≤ l3) → yB D xm_c117 (yQi L P) L 14 [.ref 1, .ref 119, .int (xJ l2), .int (xJ l3), .int (xJ (l4 + 1))] [] d5 e6) ∧ ((¬ (d5 119 (8 : Int)) ≤ l3) → yB D xm_c117 (yQi L P) L 14 [.ref 1, .ref 119, .int (xJ l4), .int (xJ (d5 119 (8 : Int))), .int (xJ (l4 + 1))] [] d5 e6)))))))))) : yB D xm_c117 (yQi L P) L 14 [.ref 1, .ref 119, .int (xJ l2), .int (xJ l3), .int (xJ l4)] [] d e := by
  refine yb_iload (x := l4) rfl rfl ?_
  refine yb_aload rfl rfl ?_
  refine yb_get (v := .ref 11) rfl (by decide) (by decide) (rfl) rfl ?_
  refine yb_get (v := .int (xJ (d 11 (5 : Int)))) rfl (by decide) (by decide) (rfl) rfl ?_
  refine yb_push (v := 9) rfl ?_
  refine yb_iadd (x := (d 11 (5 : Int))) (y := (9 : Int)) rfl ?_
  have r1 := h.1
  replace h := h.2
  have r2 := h.1
  replace h := h.2
  refine yb_icmp_ge (x := l4) (y := ((d 11 (5 : Int)) + (9 : Int))) rfl rfl r1 r2 (fun c => ?_) (fun c => ?_)
  · replace h := h.1 c
    refine yb_aload rfl rfl ?_
    refine yb_get (v := .ref 4) rfl (by decide) (by decide) (rfl) rfl ?_
    refine yb_callVv (As := []) (a := 4) rfl rfl rfl rfl rfl rfl rfl rfl (by decide) (by decide) (rfl) (by decide) (sp_31 (by omega) ?_)
    show yB D xm_c117 _ L 44 [.ref 1, .ref 119, .int (xJ l2), .int (xJ l3), .int (xJ l4)] [] (xs d 4 (1 : Int) (0 : Int)) e
    refine yb_aload rfl rfl ?_
    refine yb_get (v := .ref 4) rfl (by decide) (by decide) (rfl) rfl ?_
    refine yb_iload (x := l3) rfl rfl ?_
    refine yb_push (v := 1000) rfl ?_
    have r3 := h.1
    replace h := h.2
    refine yb_idiv (x := l3) (y := (1000 : Int)) rfl r3 (by decide) ?_
    refine yb_callVv (As := [.int (xJ (l3 / (1000 : Int)))]) (a := 4) rfl rfl rfl rfl rfl rfl rfl rfl (by decide) (by decide) (rfl) (by decide) (sp_32 (by omega) (by show (0 ≤ (0 : Int) ∧ (0 : Int) < 12); decide) ?_)
    show yB D xm_c117 _ L 50 [.ref 1, .ref 119, .int (xJ l2), .int (xJ l3), .int (xJ l4)] [] (xs (xs (xs d 4 (1 : Int) (0 : Int)) 5 (0 : Int) (l3 / (1000 : Int))) 4 (1 : Int) (1 : Int)) e
    refine yb_aload rfl rfl ?_
    refine yb_get (v := .ref 4) rfl (by decide) (by decide) (rfl) rfl ?_
    refine yb_iload (x := l3) rfl rfl ?_
    refine yb_push (v := 1000) rfl ?_
    refine yb_irem (x := l3) (y := (1000 : Int)) rfl r3 (by decide) ?_
    refine yb_callVv (As := [.int (xJ (l3 % (1000 : Int)))]) (a := 4) rfl rfl rfl rfl rfl rfl rfl rfl (by decide) (by decide) (rfl) (by decide) (sp_32 (by omega) (by show (0 ≤ (1 : Int) ∧ (1 : Int) < 12); decide) ?_)
    show yB D xm_c117 _ L 56 [.ref 1, .ref 119, .int (xJ l2), .int (xJ l3), .int (xJ l4)] [] (xs (xs (xs (xs (xs d 4 (1 : Int) (0 : Int)) 5 (0 : Int) (l3 / (1000 : Int))) 4 (1 : Int) (1 : Int)) 5 (1 : Int) (l3 % (1000 : Int))) 4 (1 : Int) (2 : Int)) e
    refine yb_iload (x := l2) rfl rfl ?_
    refine yb_push (v := 9) rfl ?_
    have r4 := h.1
    replace h := h.2
    refine yb_irem (x := l2) (y := (9 : Int)) rfl r4 (by decide) ?_
    exact yb_ret rfl h
  · replace h := h.2 c
    refine yb_aload rfl rfl ?_
    refine yb_aload rfl rfl ?_
    refine yb_get (v := .ref 6) rfl (by decide) (by decide) (rfl) rfl ?_
    refine yb_aload rfl rfl ?_
    refine yb_get (v := .ref 111) rfl (by decide) (by decide) (rfl) rfl ?_
    refine yb_aload rfl rfl ?_
    refine yb_get (v := .ref 11) rfl (by decide) (by decide) (rfl) rfl ?_
    refine yb_iload (x := l4) rfl rfl ?_
    refine yb_callVv (As := [.ref 6, .ref 111, .ref 11, .int (xJ l4)]) (a := 119) rfl rfl rfl rfl rfl rfl rfl rfl (by decide) (by decide) (rfl) (by decide) (yV_mono h (fun d5 e6 h => ?_))
    refine yb_aload rfl rfl ?_
    refine yb_get (v := .int (xJ (d5 119 (8 : Int)))) rfl (by decide) (by decide) (rfl) rfl ?_
    refine yb_iload (x := l3) rfl rfl ?_
    have r7 := h.1
    replace h := h.2
    have r8 := h.1
    replace h := h.2
    refine yb_icmp_le (x := (d5 119 (8 : Int))) (y := l3) rfl rfl r7 r8 (fun c => ?_) (fun c => ?_)
    · replace h := h.1 c
      refine yb_iinc (x := l4) (n := 1) rfl rfl rfl rfl ?_
      refine yb_goto rfl rfl ?_
      exact h
    · replace h := h.2 c
      refine yb_aload rfl rfl ?_
      refine yb_get (v := .int (xJ (d5 119 (8 : Int)))) rfl (by decide) (by decide) (rfl) rfl ?_
      refine yb_istore rfl rfl rfl ?_
      refine yb_iload (x := l4) rfl rfl ?_
      refine yb_istore rfl rfl rfl ?_
      refine yb_iinc (x := l4) (n := 1) rfl rfl rfl rfl ?_
      refine yb_goto rfl rfl ?_
      exact h
theorem yk_118_0 {D L : Nat} {P : Int → xh_D → xd_E → Prop} {d : xh_D} {e : xd_E}    (h : yC D 120 L [.ref 1, .int (xJ (1 : Int))] d e (fun x1 d2 e3 => P x1 d2 e3)) : yB D xm_c118 (yQi L P) L 0 [.ref 1] [] d e := by
  refine yb_aload rfl rfl ?_
  refine yb_push (v := 1) rfl ?_
  refine yb_callVi (As := [.int (xJ (1 : Int))]) (a := 1) rfl rfl rfl rfl rfl rfl rfl rfl (by decide) (by decide) (rfl) (by decide) (yC_mono h (fun x1 d2 e3 h => ?_))
  exact yb_ret rfl h
theorem yk_119_0 {D L : Nat} {P : Int → xh_D → xd_E → Prop} {d : xh_D} {e : xd_E} {a1 : Int}   (h : ((-2147483648 ≤ a1 ∧ a1 < 2147483648) ∧ (((a1 < 0) → P (-1 : Int) d e) ∧ ((¬ a1 < 0) → (((a1 ≤ (40 : Int)) → yC D 120 L [.ref 1, .int (xJ a1)] d e (fun x2 d3 e4 => P x2 d3 e4)) ∧ ((¬ a1 ≤ (40 : Int)) → P (-1 : Int) d e)))))) : yB D xm_c119 (yQi L P) L 0 [.ref 1, .int (xJ a1)] [] d e := by
  refine yb_iload (x := a1) rfl rfl ?_
  have r1 := h.1
  replace h := h.2
  refine yb_if_lt (x := a1) rfl rfl r1 (fun c => ?_) (fun c => ?_)
  · replace h := h.1 c
    refine yb_push (v := (-1)) rfl ?_
    refine yb_goto rfl rfl ?_
    exact yb_ret rfl h
  · replace h := h.2 c
    refine yb_iload (x := a1) rfl rfl ?_
    refine yb_push (v := 40) rfl ?_
    refine yb_icmp_le (x := a1) (y := (40 : Int)) rfl rfl r1 (by decide) (fun c => ?_) (fun c => ?_)
    · replace h := h.1 c
      refine yb_aload rfl rfl ?_
      refine yb_iload (x := a1) rfl rfl ?_
      refine yb_callVi (As := [.int (xJ a1)]) (a := 1) rfl rfl rfl rfl rfl rfl rfl rfl (by decide) (by decide) (rfl) (by decide) (yC_mono h (fun x2 d3 e4 h => ?_))
      exact yb_ret rfl h
    · replace h := h.2 c
      refine yb_push (v := (-1)) rfl ?_
      refine yb_goto rfl rfl ?_
      exact yb_ret rfl h
theorem yk_120_0 {D L : Nat} {P : Int → xh_D → xd_E → Prop} {d : xh_D} {e : xd_E} {a1 : Int}   (h : ((-2147483648 ≤ a1 ∧ a1 < 2147483648) ∧ (((a1 ≤ 0) → yB D xm_c120 (yQi L P) L 7 [.ref 1, .int (xJ a1)] [] d e) ∧ ((¬ a1 ≤ 0) → yV D 17 L [.ref 23, .ref 11] d e (fun d2 e3 => yB D xm_c120 (yQi L P) L 7 [.ref 1, .int (xJ a1)] [] d2 e3))))) : yB D xm_c120 (yQi L P) L 0 [.ref 1, .int (xJ a1)] [] d e := by
  refine yb_iload (x := a1) rfl rfl ?_
  have r1 := h.1
  replace h := h.2
  refine yb_if_le (x := a1) rfl rfl r1 (fun c => ?_) (fun c => ?_)
  · replace h := h.1 c
    exact h
  · replace h := h.2 c
    refine yb_aload rfl rfl ?_
    refine yb_get (v := .ref 23) rfl (by decide) (by decide) (rfl) rfl ?_
    refine yb_aload rfl rfl ?_
    refine yb_get (v := .ref 11) rfl (by decide) (by decide) (rfl) rfl ?_
    refine yb_callVv (As := [.ref 11]) (a := 23) rfl rfl rfl rfl rfl rfl rfl rfl (by decide) (by decide) (rfl) (by decide) (yV_mono h (fun d2 e3 h => ?_))
    exact h
theorem yk_120_7 {D L : Nat} {P : Int → xh_D → xd_E → Prop} {d : xh_D} {e : xd_E}  {l1 : Int}  (hD : 1 ≤ D) (h : yV D 85 L [.ref 118] d e (fun d1 e2 => yV D 86 L [.ref 118, .ref 6, .ref 111, .ref 11, .int (xJ l1)] d1 e2 (fun d3 e4 => P (d3 118 (2 : Int)) (xs (xs (xs (xs (xs d3 4 (1 : Int) (0 : Int)) 5 (0 : Int) (d3 118 (3 : Int))) 4 (1 : Int) (1 : Int)) 5 (1 : Int) (d3 118 (4 : Int))) 4 (1 : Int) (2 : Int)) e4))) : yB D xm_c120 (yQi L P) L 7 [.ref 1, .int (xJ l1)] [] d e := by
  refine yb_aload rfl rfl ?_
  refine yb_get (v := .ref 118) rfl (by decide) (by decide) (rfl) rfl ?_
  refine yb_callVv (As := []) (a := 118) rfl rfl rfl rfl rfl rfl rfl rfl (by decide) (by decide) (rfl) (by decide) (yV_mono h (fun d1 e2 h => ?_))
  refine yb_aload rfl rfl ?_
  refine yb_get (v := .ref 118) rfl (by decide) (by decide) (rfl) rfl ?_
  refine yb_aload rfl rfl ?_
  refine yb_get (v := .ref 6) rfl (by decide) (by decide) (rfl) rfl ?_
  refine yb_aload rfl rfl ?_
  refine yb_get (v := .ref 111) rfl (by decide) (by decide) (rfl) rfl ?_
  refine yb_aload rfl rfl ?_
  refine yb_get (v := .ref 11) rfl (by decide) (by decide) (rfl) rfl ?_
  refine yb_iload (x := l1) rfl rfl ?_
  refine yb_callVv (As := [.ref 6, .ref 111, .ref 11, .int (xJ l1)]) (a := 118) rfl rfl rfl rfl rfl rfl rfl rfl (by decide) (by decide) (rfl) (by decide) (yV_mono h (fun d3 e4 h => ?_))
  refine yb_aload rfl rfl ?_
  refine yb_get (v := .ref 4) rfl (by decide) (by decide) (rfl) rfl ?_
  refine yb_callVv (As := []) (a := 4) rfl rfl rfl rfl rfl rfl rfl rfl (by decide) (by decide) (rfl) (by decide) (sp_31 (by omega) ?_)
  show yB D xm_c120 _ L 23 [.ref 1, .int (xJ l1)] [] (xs d3 4 (1 : Int) (0 : Int)) e4
  refine yb_aload rfl rfl ?_
  refine yb_get (v := .ref 4) rfl (by decide) (by decide) (rfl) rfl ?_
  refine yb_aload rfl rfl ?_
  refine yb_get (v := .ref 118) rfl (by decide) (by decide) (rfl) rfl ?_
  refine yb_get (v := .int (xJ (d3 118 (3 : Int)))) rfl (by decide) (by decide) (rfl) rfl ?_
  refine yb_callVv (As := [.int (xJ (d3 118 (3 : Int)))]) (a := 4) rfl rfl rfl rfl rfl rfl rfl rfl (by decide) (by decide) (rfl) (by decide) (sp_32 (by omega) (by show (0 ≤ (0 : Int) ∧ (0 : Int) < 12); decide) ?_)
  show yB D xm_c120 _ L 29 [.ref 1, .int (xJ l1)] [] (xs (xs (xs d3 4 (1 : Int) (0 : Int)) 5 (0 : Int) (d3 118 (3 : Int))) 4 (1 : Int) (1 : Int)) e4
  refine yb_aload rfl rfl ?_
  refine yb_get (v := .ref 4) rfl (by decide) (by decide) (rfl) rfl ?_
  refine yb_aload rfl rfl ?_
  refine yb_get (v := .ref 118) rfl (by decide) (by decide) (rfl) rfl ?_
  refine yb_get (v := .int (xJ (d3 118 (4 : Int)))) rfl (by decide) (by decide) (rfl) rfl ?_
  refine yb_callVv (As := [.int (xJ (d3 118 (4 : Int)))]) (a := 4) rfl rfl rfl rfl rfl rfl rfl rfl (by decide) (by decide) (rfl) (by decide) (sp_32 (by omega) (by show (0 ≤ (1 : Int) ∧ (1 : Int) < 12); decide) ?_)
  show yB D xm_c120 _ L 35 [.ref 1, .int (xJ l1)] [] (xs (xs (xs (xs (xs d3 4 (1 : Int) (0 : Int)) 5 (0 : Int) (d3 118 (3 : Int))) 4 (1 : Int) (1 : Int)) 5 (1 : Int) (d3 118 (4 : Int))) 4 (1 : Int) (2 : Int)) e4
  refine yb_aload rfl rfl ?_
  refine yb_get (v := .ref 118) rfl (by decide) (by decide) (rfl) rfl ?_
  refine yb_get (v := .int (xJ (d3 118 (2 : Int)))) rfl (by decide) (by decide) (rfl) rfl ?_
  exact yb_ret rfl h
theorem yk_121_0 {D L : Nat} {P : Int → xh_D → xd_E → Prop} {d : xh_D} {e : xd_E}    (h : yC D 122 L [.ref 1] d e (fun x1 d2 e3 => ((-2147483648 ≤ x1 ∧ x1 < 2147483648) ∧ (((x1 = (-1 : Int)) → yV D 85 L [.ref 118] d2 e3 (fun d5 e6 => yB D xm_c121 (yQi L P) L 23 [.ref 1, .double 0, .int (xJ (0 : Int)), .int (xJ (0 : Int)), .int (xJ (0 : Int))] [] d5 e6)) ∧ ((¬ x1 = (-1 : Int)) → P ((-1 : Int) - x1) (xs d2 2 (1 : Int) (0 : Int)) e3))))) : yB D xm_c121 (yQi L P) L 0 [.ref 1, .double 0, .double 0, .double 0, .double 0] [] d e := by
  refine yb_aload rfl rfl ?_
  refine yb_callVi (As := []) (a := 1) rfl rfl rfl rfl rfl rfl rfl rfl (by decide) (by decide) (rfl) (by decide) (yC_mono h (fun x1 d2 e3 h => ?_))
  refine yb_istore rfl rfl rfl ?_
  refine yb_iload (x := x1) rfl rfl ?_
  refine yb_push (v := (-1)) rfl ?_
  have r4 := h.1
  replace h := h.2
  refine yb_icmp_eq (x := x1) (y := (-1 : Int)) rfl rfl r4 (by decide) (fun c => ?_) (fun c => ?_)
  · replace h := h.1 c
    refine yb_aload rfl rfl ?_
    refine yb_get (v := .ref 118) rfl (by decide) (by decide) (rfl) rfl ?_
    refine yb_callVv (As := []) (a := 118) rfl rfl rfl rfl rfl rfl rfl rfl (by decide) (by decide) (rfl) (by decide) (yV_mono h (fun d5 e6 h => ?_))
    refine yb_push (v := 0) rfl ?_
    refine yb_istore rfl rfl rfl ?_
    refine yb_push (v := 0) rfl ?_
    refine yb_istore rfl rfl rfl ?_
    refine yb_push (v := 0) rfl ?_
    refine yb_istore rfl rfl rfl ?_
    refine yb_forget (dl := [.ref 1, .double 0, .int (xJ (0 : Int)), .int (xJ (0 : Int)), .int (xJ (0 : Int))]) ⟨Or.inl rfl, ⟨Or.inr ⟨rfl, rfl⟩, ⟨Or.inl rfl, ⟨Or.inl rfl, ⟨Or.inl rfl, trivial⟩⟩⟩⟩⟩ ?_
    exact h
  · replace h := h.2 c
    refine yb_aload rfl rfl ?_
    refine yb_get (v := .ref 2) rfl (by decide) (by decide) (rfl) rfl ?_
    refine yb_push (v := 0) rfl ?_
    refine yb_put (z := (0 : Int)) (k := 1) rfl rfl (by decide) (by decide) (rfl) (Nat.le_of_ble_eq_true rfl) rfl (rfl) ?_
    refine yb_push (v := (-1)) rfl ?_
    refine yb_iload (x := x1) rfl rfl ?_
    refine yb_isub (x := (-1 : Int)) (y := x1) rfl ?_
    exact yb_ret rfl h
theorem yk_121_23 {D L : Nat} {P : Int → xh_D → xd_E → Prop} {d : xh_D} {e : xd_E}  {l2 : Int} {l3 : Int} {l4 : Int}  (hD : 2 ≤ D) (h : ((-2147483648 ≤ l4 ∧ l4 < 2147483648) ∧ ((-2147483648 ≤ (d 2 (1 : Int)) ∧ (d 2 (1 : Int)) < 2147483648) ∧ ((((d 2 (1 : Int)) ≤ l4) → yB D xm_c121 (yQi L P) L 55 [.ref 1, .double 0, .int (xJ l2), .int (xJ l3), .double 0] [] d e) ∧ ((¬ (d 2 (1 : Int)) ≤ l4) → ((-2147483648 ≤ l3 ∧ l3 < 2147483648) ∧ (((¬ l3 = 0) → yB D xm_c121 (yQi L P) L 55 [.ref 1, .double 0, .int (xJ l2), .int (xJ l3), .double 0] [] d e) ∧ ((l3 = 0) → ((-2147483648 ≤ (l4 - 1) ∧ (l4 - 1) < 2147483648) ∧ (xt_ok d ∧ (((l4 = 0 ∨ xt_at d (l4 - 1) = 59) → yZ D 125 L [.ref 1, .int (xJ l4)] d e (fun d6 e7 => ((-2147483648 ≤ l2 ∧ l2 < 2147483648) ∧ (((¬ l2 = 0) → yV D 126 L [.ref 1, .int (xJ l4)] d6 e7 (fun d9 e10 => yB D xm_c121 (yQi L P) L 23 [.ref 1, .double 0, .int (xJ (l2 + 1)), .int (xJ l3), .int (xJ (l4 + 1))] [] d9 e10)) ∧ ((l2 = 0) → yV D 17 L [.ref 23, .ref 11] d6 e7 (fun d11 e12 => yV D 126 L [.ref 1, .int (xJ l4)] d11 e12 (fun d13 e14 => yB D xm_c121 (yQi L P) L 23 [.ref 1, .double 0, .int (xJ (l2 + 1)), .int (xJ l3), .int (xJ (l4 + 1))] [] d13 e14)))))) (fun d6 e7 => yB D xm_c121 (yQi L P) L 23 [.ref 1, .double 0, .int (xJ l2), .int (xJ (1 : Int)), .int (xJ (l4 + 1))] [] d6 e7)) ∧ (¬ (l4 = 0 ∨ xt_at d (l4 - 1) = 59) → yB D xm_c121 (yQi L P) L 23 [.ref 1, .double 0, .int (xJ l2), .int (xJ l3), .int (xJ (l4 + 1))] [] d e)))))))))))) : yB D xm_c121 (yQi L P) L 23 [.ref 1, .double 0, .int (xJ l2), .int (xJ l3), .int (xJ l4)] [] d e := by
  refine yb_iload (x := l4) rfl rfl ?_
  refine yb_aload rfl rfl ?_
  refine yb_get (v := .ref 2) rfl (by decide) (by decide) (rfl) rfl ?_
  refine yb_get (v := .int (xJ (d 2 (1 : Int)))) rfl (by decide) (by decide) (rfl) rfl ?_
  have r1 := h.1
  replace h := h.2
  have r2 := h.1
  replace h := h.2
  refine yb_icmp_ge (x := l4) (y := (d 2 (1 : Int))) rfl rfl r1 r2 (fun c => ?_) (fun c => ?_)
  · replace h := h.1 c
    refine yb_forget (dl := [.ref 1, .double 0, .int (xJ l2), .int (xJ l3), .double 0]) ⟨Or.inl rfl, ⟨Or.inl rfl, ⟨Or.inl rfl, ⟨Or.inl rfl, ⟨Or.inr ⟨rfl, rfl⟩, trivial⟩⟩⟩⟩⟩ ?_
    exact h
  · replace h := h.2 c
    refine yb_iload (x := l3) rfl rfl ?_
    have r3 := h.1
    replace h := h.2
    refine yb_if_ne (x := l3) rfl rfl r3 (fun c => ?_) (fun c => ?_)
    · replace h := h.1 c
      refine yb_forget (dl := [.ref 1, .double 0, .int (xJ l2), .int (xJ l3), .double 0]) ⟨Or.inl rfl, ⟨Or.inl rfl, ⟨Or.inl rfl, ⟨Or.inl rfl, ⟨Or.inr ⟨rfl, rfl⟩, trivial⟩⟩⟩⟩⟩ ?_
      exact h
    · replace h := h.2 c
      refine yb_aload rfl rfl ?_
      refine yb_get (v := .ref 2) rfl (by decide) (by decide) (rfl) rfl ?_
      refine yb_iload (x := l4) rfl rfl ?_
      have r4 := h.1
      replace h := h.2
      have r5 := h.1
      replace h := h.2
      refine yb_callVz (As := [.int (xJ l4)]) (a := 2) rfl rfl rfl rfl rfl rfl rfl rfl (by decide) (by decide) (rfl) (by decide) (sp_77 (by omega) ⟨r1, r4, r5⟩ (fun c => ?_) (fun c => ?_))
      · replace h := h.1 c
        show yB D xm_c121 _ L 34 [.ref 1, .double 0, .int (xJ l2), .int (xJ l3), .int (xJ l4)] [.int (xJ (1 : Int))] d e
        refine yb_if_eq (x := (1 : Int)) rfl rfl (by decide) (fun c => absurd c (by decide)) (fun _ => ?_)
        refine yb_aload rfl rfl ?_
        refine yb_iload (x := l4) rfl rfl ?_
        refine yb_callVz (As := [.int (xJ l4)]) (a := 1) rfl rfl rfl rfl rfl rfl rfl rfl (by decide) (by decide) (rfl) (by decide) (yZ_mono h (fun d6 e7 h => ?_) (fun d6 e7 h => ?_))
        · refine yb_if_ne (x := (1 : Int)) rfl rfl (by decide) (fun _ => ?_) (fun c => absurd c (by decide))
          refine yb_iload (x := l2) rfl rfl ?_
          have r8 := h.1
          replace h := h.2
          refine yb_if_ne (x := l2) rfl rfl r8 (fun c => ?_) (fun c => ?_)
          · replace h := h.1 c
            refine yb_aload rfl rfl ?_
            refine yb_iload (x := l4) rfl rfl ?_
            refine yb_callVv (As := [.int (xJ l4)]) (a := 1) rfl rfl rfl rfl rfl rfl rfl rfl (by decide) (by decide) (rfl) (by decide) (yV_mono h (fun d9 e10 h => ?_))
            refine yb_iinc (x := l2) (n := 1) rfl rfl rfl rfl ?_
            refine yb_iinc (x := l4) (n := 1) rfl rfl rfl rfl ?_
            refine yb_goto rfl rfl ?_
            exact h
          · replace h := h.2 c
            refine yb_aload rfl rfl ?_
            refine yb_get (v := .ref 23) rfl (by decide) (by decide) (rfl) rfl ?_
            refine yb_aload rfl rfl ?_
            refine yb_get (v := .ref 11) rfl (by decide) (by decide) (rfl) rfl ?_
            refine yb_callVv (As := [.ref 11]) (a := 23) rfl rfl rfl rfl rfl rfl rfl rfl (by decide) (by decide) (rfl) (by decide) (yV_mono h (fun d11 e12 h => ?_))
            refine yb_aload rfl rfl ?_
            refine yb_iload (x := l4) rfl rfl ?_
            refine yb_callVv (As := [.int (xJ l4)]) (a := 1) rfl rfl rfl rfl rfl rfl rfl rfl (by decide) (by decide) (rfl) (by decide) (yV_mono h (fun d13 e14 h => ?_))
            refine yb_iinc (x := l2) (n := 1) rfl rfl rfl rfl ?_
            refine yb_iinc (x := l4) (n := 1) rfl rfl rfl rfl ?_
            refine yb_goto rfl rfl ?_
            exact h
        · refine yb_if_ne (x := (0 : Int)) rfl rfl (by decide) (fun c => absurd (by decide) c) (fun _ => ?_)
          refine yb_push (v := 1) rfl ?_
          refine yb_istore rfl rfl rfl ?_
          refine yb_goto rfl rfl ?_
          refine yb_iinc (x := l4) (n := 1) rfl rfl rfl rfl ?_
          refine yb_goto rfl rfl ?_
          exact h
      · replace h := h.2 c
        show yB D xm_c121 _ L 34 [.ref 1, .double 0, .int (xJ l2), .int (xJ l3), .int (xJ l4)] [.int (xJ (0 : Int))] d e
        refine yb_if_eq (x := (0 : Int)) rfl rfl (by decide) (fun _ => ?_) (fun c => absurd (by decide) c)
        refine yb_iinc (x := l4) (n := 1) rfl rfl rfl rfl ?_
        refine yb_goto rfl rfl ?_
        exact h
theorem yk_121_55 {D L : Nat} {P : Int → xh_D → xd_E → Prop} {d : xh_D} {e : xd_E}  {l2 : Int} {l3 : Int}  (hD : 1 ≤ D) (h : P l2 (xs (xs (xs (xs (xs (xs d 2 (1 : Int) (0 : Int)) 4 (1 : Int) (0 : Int)) 5 (0 : Int) l3) 4 (1 : Int) (1 : Int)) 5 (1 : Int) (d 118 (2 : Int))) 4 (1 : Int) (2 : Int)) e) : yB D xm_c121 (yQi L P) L 55 [.ref 1, .double 0, .int (xJ l2), .int (xJ l3), .double 0] [] d e := by
  refine yb_aload rfl rfl ?_
  refine yb_get (v := .ref 2) rfl (by decide) (by decide) (rfl) rfl ?_
  refine yb_push (v := 0) rfl ?_
  refine yb_put (z := (0 : Int)) (k := 1) rfl rfl (by decide) (by decide) (rfl) (Nat.le_of_ble_eq_true rfl) rfl (rfl) ?_
  refine yb_aload rfl rfl ?_
  refine yb_get (v := .ref 4) rfl (by decide) (by decide) (rfl) rfl ?_
  refine yb_callVv (As := []) (a := 4) rfl rfl rfl rfl rfl rfl rfl rfl (by decide) (by decide) (rfl) (by decide) (sp_31 (by omega) ?_)
  show yB D xm_c121 _ L 62 [.ref 1, .double 0, .int (xJ l2), .int (xJ l3), .double 0] [] (xs (xs d 2 (1 : Int) (0 : Int)) 4 (1 : Int) (0 : Int)) e
  refine yb_aload rfl rfl ?_
  refine yb_get (v := .ref 4) rfl (by decide) (by decide) (rfl) rfl ?_
  refine yb_iload (x := l3) rfl rfl ?_
  refine yb_callVv (As := [.int (xJ l3)]) (a := 4) rfl rfl rfl rfl rfl rfl rfl rfl (by decide) (by decide) (rfl) (by decide) (sp_32 (by omega) (by show (0 ≤ (0 : Int) ∧ (0 : Int) < 12); decide) ?_)
  show yB D xm_c121 _ L 66 [.ref 1, .double 0, .int (xJ l2), .int (xJ l3), .double 0] [] (xs (xs (xs (xs d 2 (1 : Int) (0 : Int)) 4 (1 : Int) (0 : Int)) 5 (0 : Int) l3) 4 (1 : Int) (1 : Int)) e
  refine yb_aload rfl rfl ?_
  refine yb_get (v := .ref 4) rfl (by decide) (by decide) (rfl) rfl ?_
  refine yb_aload rfl rfl ?_
  refine yb_get (v := .ref 118) rfl (by decide) (by decide) (rfl) rfl ?_
  refine yb_get (v := .int (xJ (d 118 (2 : Int)))) rfl (by decide) (by decide) (rfl) rfl ?_
  refine yb_callVv (As := [.int (xJ (d 118 (2 : Int)))]) (a := 4) rfl rfl rfl rfl rfl rfl rfl rfl (by decide) (by decide) (rfl) (by decide) (sp_32 (by omega) (by show (0 ≤ (1 : Int) ∧ (1 : Int) < 12); decide) ?_)
  show yB D xm_c121 _ L 72 [.ref 1, .double 0, .int (xJ l2), .int (xJ l3), .double 0] [] (xs (xs (xs (xs (xs (xs d 2 (1 : Int) (0 : Int)) 4 (1 : Int) (0 : Int)) 5 (0 : Int) l3) 4 (1 : Int) (1 : Int)) 5 (1 : Int) (d 118 (2 : Int))) 4 (1 : Int) (2 : Int)) e
  refine yb_iload (x := l2) rfl rfl ?_
  exact yb_ret rfl h
theorem yk_122_0 {D L : Nat} {P : Int → xh_D → xd_E → Prop} {d : xh_D} {e : xd_E}    (hD : 1 ≤ D) (h : ((-2147483648 ≤ (d 2 (1 : Int)) ∧ (d 2 (1 : Int)) < 2147483648) ∧ yB D xm_c122 (yQi L P) L 10 [.ref 1, .int (xJ (0 : Int)), .int (xJ (min (d 2 (1 : Int)) (60 : Int))), .int (xJ (0 : Int))] [] d e)) : yB D xm_c122 (yQi L P) L 0 [.ref 1, .double 0, .double 0, .double 0] [] d e := by
  refine yb_push (v := 0) rfl ?_
  refine yb_istore rfl rfl rfl ?_
  refine yb_aload rfl rfl ?_
  refine yb_get (v := .ref 2) rfl (by decide) (by decide) (rfl) rfl ?_
  refine yb_get (v := .int (xJ (d 2 (1 : Int)))) rfl (by decide) (by decide) (rfl) rfl ?_
  refine yb_push (v := 60) rfl ?_
  have r1 := h.1
  replace h := h.2
  refine yb_callSi (As := [.int (xJ (d 2 (1 : Int))), .int (xJ (60 : Int))]) rfl rfl rfl rfl rfl rfl rfl rfl (by decide) (sp_5 (by omega) ⟨r1, (by show (-2147483648 ≤ (60 : Int) ∧ (60 : Int) < 2147483648); decide)⟩ ?_)
  show yB D xm_c122 _ L 7 [.ref 1, .int (xJ (0 : Int)), .double 0, .double 0] [.int (xJ (min (d 2 (1 : Int)) (60 : Int)))] d e
  refine yb_istore rfl rfl rfl ?_
  refine yb_push (v := 0) rfl ?_
  refine yb_istore rfl rfl rfl ?_
  exact h
theorem yk_122_10 {D L : Nat} {P : Int → xh_D → xd_E → Prop} {d : xh_D} {e : xd_E}  {l1 : Int} {l2 : Int} {l3 : Int}  (hD : 2 ≤ D) (h : ((-2147483648 ≤ l3 ∧ l3 < 2147483648) ∧ ((-2147483648 ≤ l2 ∧ l2 < 2147483648) ∧ (((l2 ≤ l3) → ((-2147483648 ≤ (d 2 (1 : Int)) ∧ (d 2 (1 : Int)) < 2147483648) ∧ ((((d 2 (1 : Int)) ≤ (60 : Int)) → ((-2147483648 ≤ l1 ∧ l1 < 2147483648) ∧ (((l1 = (1 : Int)) → P (-1 : Int) d e) ∧ ((¬ l1 = (1 : Int)) → (((l1 = (6 : Int)) → P (-1 : Int) d e) ∧ ((¬ l1 = (6 : Int)) → (((¬ (d 2 (1 : Int)) = 0) → P (d 2 (1 : Int)) d e) ∧ (((d 2 (1 : Int)) = 0) → P (-1 : Int) d e)))))))) ∧ ((¬ (d 2 (1 : Int)) ≤ (60 : Int)) → P (60 : Int) d e)))) ∧ ((¬ l2 ≤ l3) → (xt_ok d ∧ ((-2147483648 ≤ l1 ∧ l1 < 2147483648) ∧ ((-2147483648 ≤ (xt_at d l3) ∧ (xt_at d l3) < 2147483648) ∧ (((¬ (xp_pb l1 (xt_at d l3)) = (-1 : Int)) → yB D xm_c122 (yQi L P) L 10 [.ref 1, .int (xJ (xp_pb l1 (xt_at d l3))), .int (xJ l2), .int (xJ (l3 + 1))] [] d e) ∧ (((xp_pb l1 (xt_at d l3)) = (-1 : Int)) → P l3 d e)))))))))) : yB D xm_c122 (yQi L P) L 10 [.ref 1, .int (xJ l1), .int (xJ l2), .int (xJ l3)] [] d e := by
  refine yb_iload (x := l3) rfl rfl ?_
  refine yb_iload (x := l2) rfl rfl ?_
  have r1 := h.1
  replace h := h.2
  have r2 := h.1
  replace h := h.2
  refine yb_icmp_ge (x := l3) (y := l2) rfl rfl r1 r2 (fun c => ?_) (fun c => ?_)
  · replace h := h.1 c
    refine yb_aload rfl rfl ?_
    refine yb_get (v := .ref 2) rfl (by decide) (by decide) (rfl) rfl ?_
    refine yb_get (v := .int (xJ (d 2 (1 : Int)))) rfl (by decide) (by decide) (rfl) rfl ?_
    refine yb_push (v := 60) rfl ?_
    have r3 := h.1
    replace h := h.2
    refine yb_icmp_le (x := (d 2 (1 : Int))) (y := (60 : Int)) rfl rfl r3 (by decide) (fun c => ?_) (fun c => ?_)
    · replace h := h.1 c
      refine yb_iload (x := l1) rfl rfl ?_
      refine yb_push (v := 1) rfl ?_
      have r4 := h.1
      replace h := h.2
      refine yb_icmp_eq (x := l1) (y := (1 : Int)) rfl rfl r4 (by decide) (fun c => ?_) (fun c => ?_)
      · replace h := h.1 c
        refine yb_push (v := 1) rfl ?_
        refine yb_goto rfl rfl ?_
        refine yb_istore rfl rfl rfl ?_
        refine yb_iload (x := (1 : Int)) rfl rfl ?_
        refine yb_if_eq (x := (1 : Int)) rfl rfl (by decide) (fun c => absurd c (by decide)) (fun _ => ?_)
        refine yb_push (v := (-1)) rfl ?_
        refine yb_goto rfl rfl ?_
        exact yb_ret rfl h
      · replace h := h.2 c
        refine yb_iload (x := l1) rfl rfl ?_
        refine yb_push (v := 6) rfl ?_
        refine yb_icmp_eq (x := l1) (y := (6 : Int)) rfl rfl r4 (by decide) (fun c => ?_) (fun c => ?_)
        · replace h := h.1 c
          refine yb_push (v := 1) rfl ?_
          refine yb_goto rfl rfl ?_
          refine yb_istore rfl rfl rfl ?_
          refine yb_iload (x := (1 : Int)) rfl rfl ?_
          refine yb_if_eq (x := (1 : Int)) rfl rfl (by decide) (fun c => absurd c (by decide)) (fun _ => ?_)
          refine yb_push (v := (-1)) rfl ?_
          refine yb_goto rfl rfl ?_
          exact yb_ret rfl h
        · replace h := h.2 c
          refine yb_aload rfl rfl ?_
          refine yb_get (v := .ref 2) rfl (by decide) (by decide) (rfl) rfl ?_
          refine yb_get (v := .int (xJ (d 2 (1 : Int)))) rfl (by decide) (by decide) (rfl) rfl ?_
          refine yb_if_ne (x := (d 2 (1 : Int))) rfl rfl r3 (fun c => ?_) (fun c => ?_)
          · replace h := h.1 c
            refine yb_push (v := 0) rfl ?_
            refine yb_istore rfl rfl rfl ?_
            refine yb_iload (x := (0 : Int)) rfl rfl ?_
            refine yb_if_eq (x := (0 : Int)) rfl rfl (by decide) (fun _ => ?_) (fun c => absurd (by decide) c)
            refine yb_aload rfl rfl ?_
            refine yb_get (v := .ref 2) rfl (by decide) (by decide) (rfl) rfl ?_
            refine yb_get (v := .int (xJ (d 2 (1 : Int)))) rfl (by decide) (by decide) (rfl) rfl ?_
            exact yb_ret rfl h
          · replace h := h.2 c
            refine yb_push (v := 1) rfl ?_
            refine yb_goto rfl rfl ?_
            refine yb_istore rfl rfl rfl ?_
            refine yb_iload (x := (1 : Int)) rfl rfl ?_
            refine yb_if_eq (x := (1 : Int)) rfl rfl (by decide) (fun c => absurd c (by decide)) (fun _ => ?_)
            refine yb_push (v := (-1)) rfl ?_
            refine yb_goto rfl rfl ?_
            exact yb_ret rfl h
    · replace h := h.2 c
      refine yb_push (v := 60) rfl ?_
      exact yb_ret rfl h
  · replace h := h.2 c
    refine yb_iload (x := l1) rfl rfl ?_
    refine yb_aload rfl rfl ?_
    refine yb_get (v := .ref 2) rfl (by decide) (by decide) (rfl) rfl ?_
    refine yb_iload (x := l3) rfl rfl ?_
    have r5 := h.1
    replace h := h.2
    refine yb_callVi (As := [.int (xJ l3)]) (a := 2) rfl rfl rfl rfl rfl rfl rfl rfl (by decide) (by decide) (rfl) (by show (1 : Nat) ≤ 8; decide) (sp_75 (by omega) ⟨r1, r5⟩ ?_)
    show yB D xm_c122 _ L 18 [.ref 1, .int (xJ l1), .int (xJ l2), .int (xJ l3)] [.int (xJ (xt_at d l3)), .int (xJ l1)] d e
    have r6 := h.1
    replace h := h.2
    have r7 := h.1
    replace h := h.2
    refine yb_callSi (As := [.int (xJ l1), .int (xJ (xt_at d l3))]) rfl rfl rfl rfl rfl rfl rfl rfl (by decide) (sp_123 (by omega) ⟨r6, r7⟩ ?_)
    show yB D xm_c122 _ L 19 [.ref 1, .int (xJ l1), .int (xJ l2), .int (xJ l3)] [.int (xJ (xp_pb l1 (xt_at d l3)))] d e
    refine yb_istore rfl rfl rfl ?_
    refine yb_iload (x := (xp_pb l1 (xt_at d l3))) rfl rfl ?_
    refine yb_push (v := (-1)) rfl ?_
    refine yb_icmp_ne (x := (xp_pb l1 (xt_at d l3))) (y := (-1 : Int)) rfl rfl (xp_pb_r _ _) (by decide) (fun c => ?_) (fun c => ?_)
    · replace h := h.1 c
      refine yb_iinc (x := l3) (n := 1) rfl rfl rfl rfl ?_
      refine yb_goto rfl rfl ?_
      exact h
    · replace h := h.2 c
      refine yb_iload (x := l3) rfl rfl ?_
      exact yb_ret rfl h
theorem yk_125_0 {D L : Nat} {P1 P0 : xh_D → xd_E → Prop} {d : xh_D} {e : xd_E} {a1 : Int}   (hD : 2 ≤ D) (h : ((-2147483648 ≤ (a1 + (1 : Int)) ∧ (a1 + (1 : Int)) < 2147483648) ∧ (xt_ok d ∧ (∀ v3, v3 = ((xt_at d (a1 + (1 : Int))) - (97 : Int)) → ((-2147483648 ≤ a1 ∧ a1 < 2147483648) ∧ ((-2147483648 ≤ (xt_at d a1) ∧ (xt_at d a1) < 2147483648) ∧ (((¬ (xt_at d a1) = (100 : Int)) → (((¬ (xt_at d a1) = (115 : Int)) → ((-2147483648 ≤ v3 ∧ v3 < 2147483648) ∧ ((-2147483648 ≤ (d 6 (4 : Int)) ∧ (d 6 (4 : Int)) < 2147483648) ∧ (((0 ≤ v3 ∧ v3 < (d 6 (4 : Int))) → P1 d e) ∧ (¬ (0 ≤ v3 ∧ v3 < (d 6 (4 : Int))) → P0 d e))))) ∧ (((xt_at d a1) = (115 : Int)) → ((-2147483648 ≤ (a1 + (2 : Int)) ∧ (a1 + (2 : Int)) < 2147483648) ∧ ((-2147483648 ≤ v3 ∧ v3 < 2147483648) ∧ ((-2147483648 ≤ ((xt_at d (a1 + (2 : Int))) - (97 : Int)) ∧ ((xt_at d (a1 + (2 : Int))) - (97 : Int)) < 2147483648) ∧ ((-2147483648 ≤ (d 6 (4 : Int)) ∧ (d 6 (4 : Int)) < 2147483648) ∧ ((((0 ≤ v3 ∧ v3 < (d 6 (4 : Int))) ∧ (0 ≤ ((xt_at d (a1 + (2 : Int))) - (97 : Int)) ∧ ((xt_at d (a1 + (2 : Int))) - (97 : Int)) < (d 6 (4 : Int))) ∧ ¬ v3 = ((xt_at d (a1 + (2 : Int))) - (97 : Int))) → P1 d e) ∧ (¬ ((0 ≤ v3 ∧ v3 < (d 6 (4 : Int))) ∧ (0 ≤ ((xt_at d (a1 + (2 : Int))) - (97 : Int)) ∧ ((xt_at d (a1 + (2 : Int))) - (97 : Int)) < (d 6 (4 : Int))) ∧ ¬ v3 = ((xt_at d (a1 + (2 : Int))) - (97 : Int))) → P0 d e))))))))) ∧ (((xt_at d a1) = (100 : Int)) → P1 d e)))))))) : yB D xm_c125 (yQz L P1 P0) L 0 [.ref 1, .int (xJ a1), .double 0] [] d e := by
  refine yb_aload rfl rfl ?_
  refine yb_get (v := .ref 2) rfl (by decide) (by decide) (rfl) rfl ?_
  refine yb_iload (x := a1) rfl rfl ?_
  refine yb_push (v := 1) rfl ?_
  refine yb_iadd (x := a1) (y := (1 : Int)) rfl ?_
  have r1 := h.1
  replace h := h.2
  have r2 := h.1
  replace h := h.2
  refine yb_callVi (As := [.int (xJ (a1 + (1 : Int)))]) (a := 2) rfl rfl rfl rfl rfl rfl rfl rfl (by decide) (by decide) (rfl) (by decide) (sp_75 (by omega) ⟨r1, r2⟩ ?_)
  show yB D xm_c125 _ L 6 [.ref 1, .int (xJ a1), .double 0] [.int (xJ (xt_at d (a1 + (1 : Int))))] d e
  refine yb_push (v := 97) rfl ?_
  refine yb_isub (x := (xt_at d (a1 + (1 : Int)))) (y := (97 : Int)) rfl ?_
  replace h := h _ rfl
  refine yb_istore rfl rfl rfl ?_
  refine yb_aload rfl rfl ?_
  refine yb_get (v := .ref 2) rfl (by decide) (by decide) (rfl) rfl ?_
  refine yb_iload (x := a1) rfl rfl ?_
  have r4 := h.1
  replace h := h.2
  refine yb_callVi (As := [.int (xJ a1)]) (a := 2) rfl rfl rfl rfl rfl rfl rfl rfl (by decide) (by decide) (rfl) (by decide) (sp_75 (by omega) ⟨r4, r2⟩ ?_)
  show yB D xm_c125 _ L 13 [.ref 1, .int (xJ a1), .int (xJ ((xt_at d (a1 + (1 : Int))) - (97 : Int)))] [.int (xJ (xt_at d a1))] d e
  refine yb_push (v := 100) rfl ?_
  have r5 := h.1
  replace h := h.2
  refine yb_icmp_ne (x := (xt_at d a1)) (y := (100 : Int)) rfl rfl r5 (by decide) (fun c => ?_) (fun c => ?_)
  · replace h := h.1 c
    refine yb_aload rfl rfl ?_
    refine yb_get (v := .ref 2) rfl (by decide) (by decide) (rfl) rfl ?_
    refine yb_iload (x := a1) rfl rfl ?_
    refine yb_callVi (As := [.int (xJ a1)]) (a := 2) rfl rfl rfl rfl rfl rfl rfl rfl (by decide) (by decide) (rfl) (by decide) (sp_75 (by omega) ⟨r4, r2⟩ ?_)
    show yB D xm_c125 _ L 21 [.ref 1, .int (xJ a1), .int (xJ ((xt_at d (a1 + (1 : Int))) - (97 : Int)))] [.int (xJ (xt_at d a1))] d e
    refine yb_push (v := 115) rfl ?_
    refine yb_icmp_ne (x := (xt_at d a1)) (y := (115 : Int)) rfl rfl r5 (by decide) (fun c => ?_) (fun c => ?_)
    · replace h := h.1 c
      refine yb_aload rfl rfl ?_
      refine yb_get (v := .ref 6) rfl (by decide) (by decide) (rfl) rfl ?_
      refine yb_iload (x := ((xt_at d (a1 + (1 : Int))) - (97 : Int))) rfl rfl ?_
      have r6 := h.1
      replace h := h.2
      have r7 := h.1
      replace h := h.2
      refine yb_callVz (As := [.int (xJ ((xt_at d (a1 + (1 : Int))) - (97 : Int)))]) (a := 6) rfl rfl rfl rfl rfl rfl rfl rfl (by decide) (by decide) (rfl) (by decide) (sp_21 (by omega) ⟨r6, r7⟩ (fun c => ?_) (fun c => ?_))
      · replace h := h.1 c
        show yB D xm_c125 _ L 40 [.ref 1, .int (xJ a1), .int (xJ ((xt_at d (a1 + (1 : Int))) - (97 : Int)))] [.int (xJ (1 : Int))] d e
        exact yb_ret1 rfl h
      · replace h := h.2 c
        show yB D xm_c125 _ L 40 [.ref 1, .int (xJ a1), .int (xJ ((xt_at d (a1 + (1 : Int))) - (97 : Int)))] [.int (xJ (0 : Int))] d e
        exact yb_ret0 rfl h
    · replace h := h.2 c
      refine yb_aload rfl rfl ?_
      refine yb_get (v := .ref 6) rfl (by decide) (by decide) (rfl) rfl ?_
      refine yb_iload (x := ((xt_at d (a1 + (1 : Int))) - (97 : Int))) rfl rfl ?_
      refine yb_aload rfl rfl ?_
      refine yb_get (v := .ref 2) rfl (by decide) (by decide) (rfl) rfl ?_
      refine yb_iload (x := a1) rfl rfl ?_
      refine yb_push (v := 2) rfl ?_
      refine yb_iadd (x := a1) (y := (2 : Int)) rfl ?_
      have r8 := h.1
      replace h := h.2
      refine yb_callVi (As := [.int (xJ (a1 + (2 : Int)))]) (a := 2) rfl rfl rfl rfl rfl rfl rfl rfl (by decide) (by decide) (rfl) (by show (2 : Nat) ≤ 8; decide) (sp_75 (by omega) ⟨r8, r2⟩ ?_)
      show yB D xm_c125 _ L 32 [.ref 1, .int (xJ a1), .int (xJ ((xt_at d (a1 + (1 : Int))) - (97 : Int)))] [.int (xJ (xt_at d (a1 + (2 : Int)))), .int (xJ ((xt_at d (a1 + (1 : Int))) - (97 : Int))), .ref 6] d e
      refine yb_push (v := 97) rfl ?_
      refine yb_isub (x := (xt_at d (a1 + (2 : Int)))) (y := (97 : Int)) rfl ?_
      have r9 := h.1
      replace h := h.2
      have r10 := h.1
      replace h := h.2
      have r11 := h.1
      replace h := h.2
      refine yb_callVz (As := [.int (xJ ((xt_at d (a1 + (1 : Int))) - (97 : Int))), .int (xJ ((xt_at d (a1 + (2 : Int))) - (97 : Int)))]) (a := 6) rfl rfl rfl rfl rfl rfl rfl rfl (by decide) (by decide) (rfl) (by decide) (sp_22 (by omega) ⟨r9, r10, r11⟩ (fun c => ?_) (fun c => ?_))
      · replace h := h.1 c
        show yB D xm_c125 _ L 35 [.ref 1, .int (xJ a1), .int (xJ ((xt_at d (a1 + (1 : Int))) - (97 : Int)))] [.int (xJ (1 : Int))] d e
        refine yb_goto rfl rfl ?_
        exact yb_ret1 rfl h
      · replace h := h.2 c
        show yB D xm_c125 _ L 35 [.ref 1, .int (xJ a1), .int (xJ ((xt_at d (a1 + (1 : Int))) - (97 : Int)))] [.int (xJ (0 : Int))] d e
        refine yb_goto rfl rfl ?_
        exact yb_ret0 rfl h
  · replace h := h.2 c
    refine yb_push (v := 1) rfl ?_
    exact yb_ret1 rfl h
theorem yk_126_0 {D L : Nat} {P : xh_D → xd_E → Prop} {d : xh_D} {e : xd_E} {a1 : Int}   (hD : 2 ≤ D) (h : ((-2147483648 ≤ (a1 + (1 : Int)) ∧ (a1 + (1 : Int)) < 2147483648) ∧ (xt_ok d ∧ (∀ v3, v3 = ((xt_at d (a1 + (1 : Int))) - (97 : Int)) → ((-2147483648 ≤ a1 ∧ a1 < 2147483648) ∧ ((-2147483648 ≤ (xt_at d a1) ∧ (xt_at d a1) < 2147483648) ∧ (((xt_at d a1) = 104 → ((-2147483648 ≤ (a1 + (2 : Int)) ∧ (a1 + (2 : Int)) < 2147483648) ∧ ((0 ≤ v3 ∧ v3 < 9) ∧ P (xs d 12 v3 (xt_dig d (a1 + (2 : Int)))) e))) ∧ ((xt_at d a1) = 109 → ((-2147483648 ≤ (a1 + (2 : Int)) ∧ (a1 + (2 : Int)) < 2147483648) ∧ ((0 ≤ v3 ∧ v3 < 9) ∧ P (xs d 13 v3 (xt_dig d (a1 + (2 : Int)))) e))) ∧ ((xt_at d a1) = 115 → ((-2147483648 ≤ (a1 + (2 : Int)) ∧ (a1 + (2 : Int)) < 2147483648) ∧ ((0 ≤ v3 ∧ v3 < 9) ∧ ((0 ≤ ((xt_at d (a1 + (2 : Int))) - (97 : Int)) ∧ ((xt_at d (a1 + (2 : Int))) - (97 : Int)) < 9) ∧ P (xs (xs d 12 v3 (d 12 ((xt_at d (a1 + (2 : Int))) - (97 : Int)))) 12 ((xt_at d (a1 + (2 : Int))) - (97 : Int)) (d 12 v3)) e)))) ∧ ((¬ (xt_at d a1) = 104 ∧ ¬ (xt_at d a1) = 109 ∧ ¬ (xt_at d a1) = 115) → ((-2147483648 ≤ (xt_dig d (a1 + (1 : Int))) ∧ (xt_dig d (a1 + (1 : Int))) < 2147483648) ∧ yV D 86 L [.ref 118, .ref 6, .ref 111, .ref 11, .int (xJ (max (1 : Int) (xt_dig d (a1 + (1 : Int)))))] d e (fun d14 e15 => P d14 e15)))))))))) : yB D xm_c126 (yQv L P) L 0 [.ref 1, .int (xJ a1), .double 0] [] d e := by
  refine yb_aload rfl rfl ?_
  refine yb_get (v := .ref 2) rfl (by decide) (by decide) (rfl) rfl ?_
  refine yb_iload (x := a1) rfl rfl ?_
  refine yb_push (v := 1) rfl ?_
  refine yb_iadd (x := a1) (y := (1 : Int)) rfl ?_
  have r1 := h.1
  replace h := h.2
  have r2 := h.1
  replace h := h.2
  refine yb_callVi (As := [.int (xJ (a1 + (1 : Int)))]) (a := 2) rfl rfl rfl rfl rfl rfl rfl rfl (by decide) (by decide) (rfl) (by decide) (sp_75 (by omega) ⟨r1, r2⟩ ?_)
  show yB D xm_c126 _ L 6 [.ref 1, .int (xJ a1), .double 0] [.int (xJ (xt_at d (a1 + (1 : Int))))] d e
  refine yb_push (v := 97) rfl ?_
  refine yb_isub (x := (xt_at d (a1 + (1 : Int)))) (y := (97 : Int)) rfl ?_
  replace h := h _ rfl
  refine yb_istore rfl rfl rfl ?_
  refine yb_aload rfl rfl ?_
  refine yb_get (v := .ref 2) rfl (by decide) (by decide) (rfl) rfl ?_
  refine yb_iload (x := a1) rfl rfl ?_
  have r4 := h.1
  replace h := h.2
  refine yb_callVi (As := [.int (xJ a1)]) (a := 2) rfl rfl rfl rfl rfl rfl rfl rfl (by decide) (by decide) (rfl) (by decide) (sp_75 (by omega) ⟨r4, r2⟩ ?_)
  show yB D xm_c126 _ L 13 [.ref 1, .int (xJ a1), .int (xJ ((xt_at d (a1 + (1 : Int))) - (97 : Int)))] [.int (xJ (xt_at d a1))] d e
  have r5 := h.1
  replace h := h.2
  by_cases c0 : (xt_at d a1) = 104
  · replace h := h.1 c0
    refine yb_lookup (x := (xt_at d a1)) rfl r5 ?_
    rw [c0]
    show yB D xm_c126 _ L 14 _ _ _ _
    refine yb_aload rfl rfl ?_
    refine yb_get (v := .ref 11) rfl (by decide) (by decide) (rfl) rfl ?_
    refine yb_get (v := .ref 12) rfl (by decide) (by decide) (rfl) rfl ?_
    refine yb_iload (x := ((xt_at d (a1 + (1 : Int))) - (97 : Int))) rfl rfl ?_
    refine yb_aload rfl rfl ?_
    refine yb_get (v := .ref 2) rfl (by decide) (by decide) (rfl) rfl ?_
    refine yb_iload (x := a1) rfl rfl ?_
    refine yb_push (v := 2) rfl ?_
    refine yb_iadd (x := a1) (y := (2 : Int)) rfl ?_
    have r6 := h.1
    replace h := h.2
    refine yb_callVi (As := [.int (xJ (a1 + (2 : Int)))]) (a := 2) rfl rfl rfl rfl rfl rfl rfl rfl (by decide) (by decide) (rfl) (by show (2 : Nat) ≤ 8; decide) (sp_76 (by omega) ⟨r6, r2⟩ ?_)
    show yB D xm_c126 _ L 24 [.ref 1, .int (xJ a1), .int (xJ ((xt_at d (a1 + (1 : Int))) - (97 : Int)))] [.int (xJ (xt_dig d (a1 + (2 : Int)))), .int (xJ ((xt_at d (a1 + (1 : Int))) - (97 : Int))), .ref 12] d e
    have r7 := h.1
    replace h := h.2
    refine yb_iast (j := ((xt_at d (a1 + (1 : Int))) - (97 : Int))) (x := (xt_dig d (a1 + (2 : Int)))) rfl xd_A12 (by decide) r7 ?_
    refine yb_goto rfl rfl ?_
    exact yb_retv rfl h
  by_cases c1 : (xt_at d a1) = 109
  · replace h := h.2.1 c1
    refine yb_lookup (x := (xt_at d a1)) rfl r5 ?_
    rw [c1]
    show yB D xm_c126 _ L 26 _ _ _ _
    refine yb_aload rfl rfl ?_
    refine yb_get (v := .ref 11) rfl (by decide) (by decide) (rfl) rfl ?_
    refine yb_get (v := .ref 13) rfl (by decide) (by decide) (rfl) rfl ?_
    refine yb_iload (x := ((xt_at d (a1 + (1 : Int))) - (97 : Int))) rfl rfl ?_
    refine yb_aload rfl rfl ?_
    refine yb_get (v := .ref 2) rfl (by decide) (by decide) (rfl) rfl ?_
    refine yb_iload (x := a1) rfl rfl ?_
    refine yb_push (v := 2) rfl ?_
    refine yb_iadd (x := a1) (y := (2 : Int)) rfl ?_
    have r8 := h.1
    replace h := h.2
    refine yb_callVi (As := [.int (xJ (a1 + (2 : Int)))]) (a := 2) rfl rfl rfl rfl rfl rfl rfl rfl (by decide) (by decide) (rfl) (by show (2 : Nat) ≤ 8; decide) (sp_76 (by omega) ⟨r8, r2⟩ ?_)
    show yB D xm_c126 _ L 36 [.ref 1, .int (xJ a1), .int (xJ ((xt_at d (a1 + (1 : Int))) - (97 : Int)))] [.int (xJ (xt_dig d (a1 + (2 : Int)))), .int (xJ ((xt_at d (a1 + (1 : Int))) - (97 : Int))), .ref 13] d e
    have r9 := h.1
    replace h := h.2
    refine yb_iast (j := ((xt_at d (a1 + (1 : Int))) - (97 : Int))) (x := (xt_dig d (a1 + (2 : Int)))) rfl xd_A13 (by decide) r9 ?_
    refine yb_goto rfl rfl ?_
    exact yb_retv rfl h
  by_cases c2 : (xt_at d a1) = 115
  · replace h := h.2.2.1 c2
    refine yb_lookup (x := (xt_at d a1)) rfl r5 ?_
    rw [c2]
    show yB D xm_c126 _ L 38 _ _ _ _
    refine yb_aload rfl rfl ?_
    refine yb_get (v := .ref 11) rfl (by decide) (by decide) (rfl) rfl ?_
    refine yb_iload (x := ((xt_at d (a1 + (1 : Int))) - (97 : Int))) rfl rfl ?_
    refine yb_aload rfl rfl ?_
    refine yb_get (v := .ref 2) rfl (by decide) (by decide) (rfl) rfl ?_
    refine yb_iload (x := a1) rfl rfl ?_
    refine yb_push (v := 2) rfl ?_
    refine yb_iadd (x := a1) (y := (2 : Int)) rfl ?_
    have r10 := h.1
    replace h := h.2
    refine yb_callVi (As := [.int (xJ (a1 + (2 : Int)))]) (a := 2) rfl rfl rfl rfl rfl rfl rfl rfl (by decide) (by decide) (rfl) (by show (2 : Nat) ≤ 8; decide) (sp_75 (by omega) ⟨r10, r2⟩ ?_)
    show yB D xm_c126 _ L 47 [.ref 1, .int (xJ a1), .int (xJ ((xt_at d (a1 + (1 : Int))) - (97 : Int)))] [.int (xJ (xt_at d (a1 + (2 : Int)))), .int (xJ ((xt_at d (a1 + (1 : Int))) - (97 : Int))), .ref 11] d e
    refine yb_push (v := 97) rfl ?_
    refine yb_isub (x := (xt_at d (a1 + (2 : Int)))) (y := (97 : Int)) rfl ?_
    have r11 := h.1
    replace h := h.2
    have r12 := h.1
    replace h := h.2
    refine yb_callVv (As := [.int (xJ ((xt_at d (a1 + (1 : Int))) - (97 : Int))), .int (xJ ((xt_at d (a1 + (2 : Int))) - (97 : Int)))]) (a := 11) rfl rfl rfl rfl rfl rfl rfl rfl (by decide) (by decide) (rfl) (by decide) (sp_53_11 (by omega) ⟨r11, r12⟩ ?_)
    show yB D xm_c126 _ L 50 [.ref 1, .int (xJ a1), .int (xJ ((xt_at d (a1 + (1 : Int))) - (97 : Int)))] [] (xs (xs d 12 ((xt_at d (a1 + (1 : Int))) - (97 : Int)) (d 12 ((xt_at d (a1 + (2 : Int))) - (97 : Int)))) 12 ((xt_at d (a1 + (2 : Int))) - (97 : Int)) (d 12 ((xt_at d (a1 + (1 : Int))) - (97 : Int)))) e
    refine yb_goto rfl rfl ?_
    exact yb_retv rfl h
  replace h := h.2.2.2 ⟨c0, c1, c2⟩
  refine yb_lookup (x := (xt_at d a1)) rfl r5 ?_
  rw [show Op.lookupswitch.offset _ _ _ = (51 : Int) from by simp [Op.lookupswitch.offset, c0, Ne.symm c0, c1, Ne.symm c1, c2, Ne.symm c2]]
  show yB D xm_c126 _ L 51 _ _ _ _
  refine yb_aload rfl rfl ?_
  refine yb_get (v := .ref 118) rfl (by decide) (by decide) (rfl) rfl ?_
  refine yb_aload rfl rfl ?_
  refine yb_get (v := .ref 6) rfl (by decide) (by decide) (rfl) rfl ?_
  refine yb_aload rfl rfl ?_
  refine yb_get (v := .ref 111) rfl (by decide) (by decide) (rfl) rfl ?_
  refine yb_aload rfl rfl ?_
  refine yb_get (v := .ref 11) rfl (by decide) (by decide) (rfl) rfl ?_
  refine yb_push (v := 1) rfl ?_
  refine yb_aload rfl rfl ?_
  refine yb_get (v := .ref 2) rfl (by decide) (by decide) (rfl) rfl ?_
  refine yb_iload (x := a1) rfl rfl ?_
  refine yb_push (v := 1) rfl ?_
  refine yb_iadd (x := a1) (y := (1 : Int)) rfl ?_
  refine yb_callVi (As := [.int (xJ (a1 + (1 : Int)))]) (a := 2) rfl rfl rfl rfl rfl rfl rfl rfl (by decide) (by decide) (rfl) (by show (5 : Nat) ≤ 8; decide) (sp_76 (by omega) ⟨r1, r2⟩ ?_)
  show yB D xm_c126 _ L 66 [.ref 1, .int (xJ a1), .int (xJ ((xt_at d (a1 + (1 : Int))) - (97 : Int)))] [.int (xJ (xt_dig d (a1 + (1 : Int)))), .int (xJ (1 : Int)), .ref 11, .ref 111, .ref 6, .ref 118] d e
  have r13 := h.1
  replace h := h.2
  refine yb_callSi (As := [.int (xJ (1 : Int)), .int (xJ (xt_dig d (a1 + (1 : Int))))]) rfl rfl rfl rfl rfl rfl rfl rfl (by show (4 : Nat) ≤ 8; decide) (sp_4 (by omega) ⟨(by show (-2147483648 ≤ (1 : Int) ∧ (1 : Int) < 2147483648); decide), r13⟩ ?_)
  show yB D xm_c126 _ L 67 [.ref 1, .int (xJ a1), .int (xJ ((xt_at d (a1 + (1 : Int))) - (97 : Int)))] [.int (xJ (max (1 : Int) (xt_dig d (a1 + (1 : Int))))), .ref 11, .ref 111, .ref 6, .ref 118] d e
  refine yb_callVv (As := [.ref 6, .ref 111, .ref 11, .int (xJ (max (1 : Int) (xt_dig d (a1 + (1 : Int)))))]) (a := 118) rfl rfl rfl rfl rfl rfl rfl rfl (by decide) (by decide) (rfl) (by decide) (yV_mono h (fun d14 e15 h => ?_))
  exact yb_retv rfl h
theorem yk_127_0 {D L : Nat} {P : Int → xh_D → xd_E → Prop} {d : xh_D} {e : xd_E}    (h : yZ D 18 L [.ref 23, .ref 11] d e (fun d1 e2 => P (d1 23 (4 : Int)) d1 e2) (fun d1 e2 => P (-1 : Int) d1 e2)) : yB D xm_c127 (yQi L P) L 0 [.ref 1] [] d e := by
  refine yb_aload rfl rfl ?_
  refine yb_get (v := .ref 23) rfl (by decide) (by decide) (rfl) rfl ?_
  refine yb_aload rfl rfl ?_
  refine yb_get (v := .ref 11) rfl (by decide) (by decide) (rfl) rfl ?_
  refine yb_callVz (As := [.ref 11]) (a := 23) rfl rfl rfl rfl rfl rfl rfl rfl (by decide) (by decide) (rfl) (by decide) (yZ_mono h (fun d1 e2 h => ?_) (fun d1 e2 h => ?_))
  · refine yb_if_eq (x := (1 : Int)) rfl rfl (by decide) (fun c => absurd c (by decide)) (fun _ => ?_)
    refine yb_aload rfl rfl ?_
    refine yb_get (v := .ref 23) rfl (by decide) (by decide) (rfl) rfl ?_
    refine yb_get (v := .int (xJ (d1 23 (4 : Int)))) rfl (by decide) (by decide) (rfl) rfl ?_
    refine yb_goto rfl rfl ?_
    exact yb_ret rfl h
  · refine yb_if_eq (x := (0 : Int)) rfl rfl (by decide) (fun _ => ?_) (fun c => absurd (by decide) c)
    refine yb_push (v := (-1)) rfl ?_
    exact yb_ret rfl h
theorem yk_128_0 {D L : Nat} {P : Int → xh_D → xd_E → Prop} {d : xh_D} {e : xd_E} {a1 : Int} {a2 : Int}   (hD : 3 ≤ D) (h : ((-2147483648 ≤ a1 ∧ a1 < 2147483648) ∧ ((-2147483648 ≤ (d 6 (4 : Int)) ∧ (d 6 (4 : Int)) < 2147483648) ∧ (((0 ≤ a1 ∧ a1 < (d 6 (4 : Int))) → ((-2147483648 ≤ a2 ∧ a2 < 2147483648) ∧ (((a2 < (1 : Int)) → P (-1 : Int) d e) ∧ ((¬ a2 < (1 : Int)) → (((a2 ≤ (30 : Int)) → ((-2147483648 ≤ (d 11 (5 : Int)) ∧ (d 11 (5 : Int)) < 2147483648) ∧ ((((d 11 (5 : Int)) < a2) → ((((11 : Int) < 9 ∨ 11 < (11 : Int)) → P (11 : Int) d e) ∧ ((11 : Int) = 9 → P (-3 : Int) d e) ∧ ((11 : Int) = 10 → P (-2 : Int) d e) ∧ ((11 : Int) = 11 → P (-4 : Int) d e))) ∧ ((¬ (d 11 (5 : Int)) < a2) → ((0 ≤ (d 11 (5 : Int)) - a2 ∧ (d 11 (5 : Int)) - a2 < 2147483648) ∧ (∀ v6, v6 = (xp_ent (e 16 (((d 11 (5 : Int)) - a2) % 30).toNat) a1) → ((-2147483648 ≤ v6 ∧ v6 < 2147483648) ∧ (((v6 < 9 ∨ 11 < v6) → P v6 d e) ∧ (v6 = 9 → P (-3 : Int) d e) ∧ (v6 = 10 → P (-2 : Int) d e) ∧ (v6 = 11 → P (-4 : Int) d e))))))))) ∧ ((¬ a2 ≤ (30 : Int)) → P (-1 : Int) d e)))))) ∧ (¬ (0 ≤ a1 ∧ a1 < (d 6 (4 : Int))) → P (-1 : Int) d e))))) : yB D xm_c128 (yQi L P) L 0 [.ref 1, .int (xJ a1), .int (xJ a2), .double 0] [] d e := by
  refine yb_aload rfl rfl ?_
  refine yb_get (v := .ref 6) rfl (by decide) (by decide) (rfl) rfl ?_
  refine yb_iload (x := a1) rfl rfl ?_
  have r1 := h.1
  replace h := h.2
  have r2 := h.1
  replace h := h.2
  refine yb_callVz (As := [.int (xJ a1)]) (a := 6) rfl rfl rfl rfl rfl rfl rfl rfl (by decide) (by decide) (rfl) (by decide) (sp_21 (by omega) ⟨r1, r2⟩ (fun c => ?_) (fun c => ?_))
  · replace h := h.1 c
    show yB D xm_c128 _ L 4 [.ref 1, .int (xJ a1), .int (xJ a2), .double 0] [.int (xJ (1 : Int))] d e
    refine yb_if_eq (x := (1 : Int)) rfl rfl (by decide) (fun c => absurd c (by decide)) (fun _ => ?_)
    refine yb_iload (x := a2) rfl rfl ?_
    refine yb_push (v := 1) rfl ?_
    have r3 := h.1
    replace h := h.2
    refine yb_icmp_lt (x := a2) (y := (1 : Int)) rfl rfl r3 (by decide) (fun c => ?_) (fun c => ?_)
    · replace h := h.1 c
      refine yb_push (v := (-1)) rfl ?_
      exact yb_ret rfl h
    · replace h := h.2 c
      refine yb_iload (x := a2) rfl rfl ?_
      refine yb_push (v := 30) rfl ?_
      refine yb_icmp_le (x := a2) (y := (30 : Int)) rfl rfl r3 (by decide) (fun c => ?_) (fun c => ?_)
      · replace h := h.1 c
        refine yb_iload (x := a2) rfl rfl ?_
        refine yb_aload rfl rfl ?_
        refine yb_get (v := .ref 11) rfl (by decide) (by decide) (rfl) rfl ?_
        refine yb_get (v := .int (xJ (d 11 (5 : Int)))) rfl (by decide) (by decide) (rfl) rfl ?_
        have r4 := h.1
        replace h := h.2
        refine yb_icmp_gt (x := a2) (y := (d 11 (5 : Int))) rfl rfl r3 r4 (fun c => ?_) (fun c => ?_)
        · replace h := h.1 c
          refine yb_push (v := 11) rfl ?_
          refine yb_istore rfl rfl rfl ?_
          refine yb_iload (x := (11 : Int)) rfl rfl ?_
          refine yb_table (x := (11 : Int)) rfl rfl (by decide) (fun c => ?_) (fun c1 c2 => ?_)
          · replace h := h.1 c
            refine yb_iload (x := (11 : Int)) rfl rfl ?_
            exact yb_ret rfl h
          · rcases (show (11 : Int) = 9 ∨ (11 : Int) = 10 ∨ (11 : Int) = 11 by omega) with c | c | c
            · replace h := h.2.1 c
              refine ⟨_, by rw [c]; rfl, ?_⟩
              refine yb_push (v := (-3)) rfl ?_
              exact yb_ret rfl h
            · replace h := h.2.2.1 c
              refine ⟨_, by rw [c]; rfl, ?_⟩
              refine yb_push (v := (-2)) rfl ?_
              exact yb_ret rfl h
            · replace h := h.2.2.2 c
              refine ⟨_, by rw [c]; rfl, ?_⟩
              refine yb_push (v := (-4)) rfl ?_
              exact yb_ret rfl h
        · replace h := h.2 c
          refine yb_aload rfl rfl ?_
          refine yb_get (v := .ref 11) rfl (by decide) (by decide) (rfl) rfl ?_
          refine yb_iload (x := a1) rfl rfl ?_
          refine yb_iload (x := a2) rfl rfl ?_
          have r5 := h.1
          replace h := h.2
          refine yb_callVi (As := [.int (xJ a1), .int (xJ a2)]) (a := 11) rfl rfl rfl rfl rfl rfl rfl rfl (by decide) (by decide) (rfl) (by decide) (sp_58_11 (by omega) r5 ?_)
          show yB D xm_c128 _ L 23 [.ref 1, .int (xJ a1), .int (xJ a2), .double 0] [.int (xJ (xp_ent (e 16 (((d 11 (5 : Int)) - a2) % 30).toNat) a1))] d e
          refine yb_goto rfl rfl ?_
          replace h := h _ rfl
          refine yb_istore rfl rfl rfl ?_
          refine yb_iload (x := (xp_ent (e 16 (((d 11 (5 : Int)) - a2) % 30).toNat) a1)) rfl rfl ?_
          have r7 := h.1
          replace h := h.2
          refine yb_table (x := (xp_ent (e 16 (((d 11 (5 : Int)) - a2) % 30).toNat) a1)) rfl rfl r7 (fun c => ?_) (fun c1 c2 => ?_)
          · replace h := h.1 c
            refine yb_iload (x := (xp_ent (e 16 (((d 11 (5 : Int)) - a2) % 30).toNat) a1)) rfl rfl ?_
            exact yb_ret rfl h
          · rcases (show (xp_ent (e 16 (((d 11 (5 : Int)) - a2) % 30).toNat) a1) = 9 ∨ (xp_ent (e 16 (((d 11 (5 : Int)) - a2) % 30).toNat) a1) = 10 ∨ (xp_ent (e 16 (((d 11 (5 : Int)) - a2) % 30).toNat) a1) = 11 by omega) with c | c | c
            · replace h := h.2.1 c
              refine ⟨_, by rw [c]; rfl, ?_⟩
              refine yb_push (v := (-3)) rfl ?_
              exact yb_ret rfl h
            · replace h := h.2.2.1 c
              refine ⟨_, by rw [c]; rfl, ?_⟩
              refine yb_push (v := (-2)) rfl ?_
              exact yb_ret rfl h
            · replace h := h.2.2.2 c
              refine ⟨_, by rw [c]; rfl, ?_⟩
              refine yb_push (v := (-4)) rfl ?_
              exact yb_ret rfl h
      · replace h := h.2 c
        refine yb_push (v := (-1)) rfl ?_
        exact yb_ret rfl h
  · replace h := h.2 c
    show yB D xm_c128 _ L 4 [.ref 1, .int (xJ a1), .int (xJ a2), .double 0] [.int (xJ (0 : Int))] d e
    refine yb_if_eq (x := (0 : Int)) rfl rfl (by decide) (fun _ => ?_) (fun c => absurd (by decide) c)
    refine yb_push (v := (-1)) rfl ?_
    exact yb_ret rfl h
theorem yk_129_0 {D L : Nat} {P : Int → xh_D → xd_E → Prop} {d : xh_D} {e : xd_E} {a1 : Int}   (hD : 1 ≤ D) (h : ((-2147483648 ≤ a1 ∧ a1 < 2147483648) ∧ ((-2147483648 ≤ (d 6 (4 : Int)) ∧ (d 6 (4 : Int)) < 2147483648) ∧ (((0 ≤ a1 ∧ a1 < (d 6 (4 : Int))) → yB D xm_c129 (yQi L P) L 17 [.ref 1, .int (xJ a1), .int (xJ (0 : Int)), .int (xJ (0 : Int)), .int (xJ (-1 : Int)), .int (xJ (0 : Int)), .int (xJ (0 : Int)), .double 0, .double 0] [] d e) ∧ (¬ (0 ≤ a1 ∧ a1 < (d 6 (4 : Int))) → P (-1 : Int) d e))))) : yB D xm_c129 (yQi L P) L 0 [.ref 1, .int (xJ a1), .double 0, .double 0, .double 0, .double 0, .double 0, .double 0, .double 0] [] d e := by
  refine yb_aload rfl rfl ?_
  refine yb_get (v := .ref 6) rfl (by decide) (by decide) (rfl) rfl ?_
  refine yb_iload (x := a1) rfl rfl ?_
  have r1 := h.1
  replace h := h.2
  have r2 := h.1
  replace h := h.2
  refine yb_callVz (As := [.int (xJ a1)]) (a := 6) rfl rfl rfl rfl rfl rfl rfl rfl (by decide) (by decide) (rfl) (by decide) (sp_21 (by omega) ⟨r1, r2⟩ (fun c => ?_) (fun c => ?_))
  · replace h := h.1 c
    show yB D xm_c129 _ L 4 [.ref 1, .int (xJ a1), .double 0, .double 0, .double 0, .double 0, .double 0, .double 0, .double 0] [.int (xJ (1 : Int))] d e
    refine yb_if_ne (x := (1 : Int)) rfl rfl (by decide) (fun _ => ?_) (fun c => absurd c (by decide))
    refine yb_push (v := 0) rfl ?_
    refine yb_istore rfl rfl rfl ?_
    refine yb_push (v := 0) rfl ?_
    refine yb_istore rfl rfl rfl ?_
    refine yb_push (v := (-1)) rfl ?_
    refine yb_istore rfl rfl rfl ?_
    refine yb_push (v := 0) rfl ?_
    refine yb_istore rfl rfl rfl ?_
    refine yb_push (v := 0) rfl ?_
    refine yb_istore rfl rfl rfl ?_
    exact h
  · replace h := h.2 c
    show yB D xm_c129 _ L 4 [.ref 1, .int (xJ a1), .double 0, .double 0, .double 0, .double 0, .double 0, .double 0, .double 0] [.int (xJ (0 : Int))] d e
    refine yb_if_ne (x := (0 : Int)) rfl rfl (by decide) (fun c => absurd (by decide) c) (fun _ => ?_)
    refine yb_push (v := (-1)) rfl ?_
    exact yb_ret rfl h
theorem yk_129_17 {D L : Nat} {P : Int → xh_D → xd_E → Prop} {d : xh_D} {e : xd_E}  {l1 : Int} {l2 : Int} {l3 : Int} {l4 : Int} {l5 : Int} {l6 : Int}  (hD : 1 ≤ D) (h : ((-2147483648 ≤ l6 ∧ l6 < 2147483648) ∧ ((-2147483648 ≤ (d 6 (4 : Int)) ∧ (d 6 (4 : Int)) < 2147483648) ∧ ((((d 6 (4 : Int)) ≤ l6) → P l2 (xs (xs (xs (xs (xs d 4 (1 : Int) (0 : Int)) 5 (0 : Int) l3) 4 (1 : Int) (1 : Int)) 5 (1 : Int) l4) 4 (1 : Int) (2 : Int)) e) ∧ ((¬ (d 6 (4 : Int)) ≤ l6) → yB D xm_c129 (yQi L P) L 26 [.ref 1, .int (xJ l1), .int (xJ l2), .int (xJ l3), .int (xJ l4), .int (xJ l5), .int (xJ l6), .int (xJ (0 : Int)), .int (xJ (1 : Int))] [] d e))))) : yB D xm_c129 (yQi L P) L 17 [.ref 1, .int (xJ l1), .int (xJ l2), .int (xJ l3), .int (xJ l4), .int (xJ l5), .int (xJ l6), .double 0, .double 0] [] d e := by
  refine yb_iload (x := l6) rfl rfl ?_
  refine yb_aload rfl rfl ?_
  refine yb_get (v := .ref 6) rfl (by decide) (by decide) (rfl) rfl ?_
  refine yb_get (v := .int (xJ (d 6 (4 : Int)))) rfl (by decide) (by decide) (rfl) rfl ?_
  have r1 := h.1
  replace h := h.2
  have r2 := h.1
  replace h := h.2
  refine yb_icmp_ge (x := l6) (y := (d 6 (4 : Int))) rfl rfl r1 r2 (fun c => ?_) (fun c => ?_)
  · replace h := h.1 c
    refine yb_aload rfl rfl ?_
    refine yb_get (v := .ref 4) rfl (by decide) (by decide) (rfl) rfl ?_
    refine yb_callVv (As := []) (a := 4) rfl rfl rfl rfl rfl rfl rfl rfl (by decide) (by decide) (rfl) (by decide) (sp_31 (by omega) ?_)
    show yB D xm_c129 _ L 67 [.ref 1, .int (xJ l1), .int (xJ l2), .int (xJ l3), .int (xJ l4), .int (xJ l5), .int (xJ l6), .double 0, .double 0] [] (xs d 4 (1 : Int) (0 : Int)) e
    refine yb_aload rfl rfl ?_
    refine yb_get (v := .ref 4) rfl (by decide) (by decide) (rfl) rfl ?_
    refine yb_iload (x := l3) rfl rfl ?_
    refine yb_callVv (As := [.int (xJ l3)]) (a := 4) rfl rfl rfl rfl rfl rfl rfl rfl (by decide) (by decide) (rfl) (by decide) (sp_32 (by omega) (by show (0 ≤ (0 : Int) ∧ (0 : Int) < 12); decide) ?_)
    show yB D xm_c129 _ L 71 [.ref 1, .int (xJ l1), .int (xJ l2), .int (xJ l3), .int (xJ l4), .int (xJ l5), .int (xJ l6), .double 0, .double 0] [] (xs (xs (xs d 4 (1 : Int) (0 : Int)) 5 (0 : Int) l3) 4 (1 : Int) (1 : Int)) e
    refine yb_aload rfl rfl ?_
    refine yb_get (v := .ref 4) rfl (by decide) (by decide) (rfl) rfl ?_
    refine yb_iload (x := l4) rfl rfl ?_
    refine yb_callVv (As := [.int (xJ l4)]) (a := 4) rfl rfl rfl rfl rfl rfl rfl rfl (by decide) (by decide) (rfl) (by decide) (sp_32 (by omega) (by show (0 ≤ (1 : Int) ∧ (1 : Int) < 12); decide) ?_)
    show yB D xm_c129 _ L 75 [.ref 1, .int (xJ l1), .int (xJ l2), .int (xJ l3), .int (xJ l4), .int (xJ l5), .int (xJ l6), .double 0, .double 0] [] (xs (xs (xs (xs (xs d 4 (1 : Int) (0 : Int)) 5 (0 : Int) l3) 4 (1 : Int) (1 : Int)) 5 (1 : Int) l4) 4 (1 : Int) (2 : Int)) e
    refine yb_iload (x := l2) rfl rfl ?_
    exact yb_ret rfl h
  · replace h := h.2 c
    refine yb_push (v := 0) rfl ?_
    refine yb_istore rfl rfl rfl ?_
    refine yb_push (v := 1) rfl ?_
    refine yb_istore rfl rfl rfl ?_
    exact h
theorem yk_129_26 {D L : Nat} {P : Int → xh_D → xd_E → Prop} {d : xh_D} {e : xd_E}  {l1 : Int} {l2 : Int} {l3 : Int} {l4 : Int} {l5 : Int} {l6 : Int} {l7 : Int} {l8 : Int}  (hD : 3 ≤ D) (h : ((-2147483648 ≤ (d 11 (5 : Int)) ∧ (d 11 (5 : Int)) < 2147483648) ∧ ((-2147483648 ≤ l8 ∧ l8 < 2147483648) ∧ ((-2147483648 ≤ (min (d 11 (5 : Int)) 30) ∧ (min (d 11 (5 : Int)) 30) < 2147483648) ∧ ((((min (d 11 (5 : Int)) 30) < l8) → ((-2147483648 ≤ l7 ∧ l7 < 2147483648) ∧ ((-2147483648 ≤ l5 ∧ l5 < 2147483648) ∧ (((l7 ≤ l5) → yB D xm_c129 (yQi L P) L 48 [.ref 1, .int (xJ l1), .int (xJ l2), .int (xJ l3), .int (xJ l4), .int (xJ l5), .int (xJ l6), .int (xJ l7), .double 0] [] d e) ∧ ((¬ l7 ≤ l5) → yB D xm_c129 (yQi L P) L 48 [.ref 1, .int (xJ l1), .int (xJ l2), .int (xJ l3), .int (xJ l6), .int (xJ l7), .int (xJ l6), .int (xJ l7), .double 0] [] d e))))) ∧ ((¬ (min (d 11 (5 : Int)) 30) < l8) → ((0 ≤ (d 11 (5 : Int)) - l8 ∧ (d 11 (5 : Int)) - l8 < 2147483648) ∧ ((-2147483648 ≤ (xp_ent (e 16 (((d 11 (5 : Int)) - l8) % 30).toNat) l6) ∧ (xp_ent (e 16 (((d 11 (5 : Int)) - l8) % 30).toNat) l6) < 2147483648) ∧ ((-2147483648 ≤ l1 ∧ l1 < 2147483648) ∧ (((¬ (xp_ent (e 16 (((d 11 (5 : Int)) - l8) % 30).toNat) l6) = l1) → yB D xm_c129 (yQi L P) L 26 [.ref 1, .int (xJ l1), .int (xJ l2), .int (xJ l3), .int (xJ l4), .int (xJ l5), .int (xJ l6), .int (xJ l7), .int (xJ (l8 + 1))] [] d e) ∧ (((xp_ent (e 16 (((d 11 (5 : Int)) - l8) % 30).toNat) l6) = l1) → yB D xm_c129 (yQi L P) L 26 [.ref 1, .int (xJ l1), .int (xJ l2), .int (xJ l3), .int (xJ l4), .int (xJ l5), .int (xJ l6), .int (xJ (l7 + 1)), .int (xJ (l8 + 1))] [] d e))))))))))) : yB D xm_c129 (yQi L P) L 26 [.ref 1, .int (xJ l1), .int (xJ l2), .int (xJ l3), .int (xJ l4), .int (xJ l5), .int (xJ l6), .int (xJ l7), .int (xJ l8)] [] d e := by
  refine yb_iload (x := l8) rfl rfl ?_
  refine yb_aload rfl rfl ?_
  refine yb_get (v := .ref 11) rfl (by decide) (by decide) (rfl) rfl ?_
  have r1 := h.1
  replace h := h.2
  refine yb_callVi (As := []) (a := 11) rfl rfl rfl rfl rfl rfl rfl rfl (by decide) (by decide) (rfl) (by show (1 : Nat) ≤ 8; decide) (sp_57_11 (by omega) r1 ?_)
  show yB D xm_c129 _ L 30 [.ref 1, .int (xJ l1), .int (xJ l2), .int (xJ l3), .int (xJ l4), .int (xJ l5), .int (xJ l6), .int (xJ l7), .int (xJ l8)] [.int (xJ (min (d 11 (5 : Int)) 30)), .int (xJ l8)] d e
  have r2 := h.1
  replace h := h.2
  have r3 := h.1
  replace h := h.2
  refine yb_icmp_gt (x := l8) (y := (min (d 11 (5 : Int)) 30)) rfl rfl r2 r3 (fun c => ?_) (fun c => ?_)
  · replace h := h.1 c
    refine yb_iload (x := l7) rfl rfl ?_
    refine yb_iload (x := l5) rfl rfl ?_
    have r4 := h.1
    replace h := h.2
    have r5 := h.1
    replace h := h.2
    refine yb_icmp_le (x := l7) (y := l5) rfl rfl r4 r5 (fun c => ?_) (fun c => ?_)
    · replace h := h.1 c
      refine yb_forget (dl := [.ref 1, .int (xJ l1), .int (xJ l2), .int (xJ l3), .int (xJ l4), .int (xJ l5), .int (xJ l6), .int (xJ l7), .double 0]) ⟨Or.inl rfl, ⟨Or.inl rfl, ⟨Or.inl rfl, ⟨Or.inl rfl, ⟨Or.inl rfl, ⟨Or.inl rfl, ⟨Or.inl rfl, ⟨Or.inl rfl, ⟨Or.inr ⟨rfl, rfl⟩, trivial⟩⟩⟩⟩⟩⟩⟩⟩⟩ ?_
      exact h
    · replace h := h.2 c
      refine yb_iload (x := l7) rfl rfl ?_
      refine yb_istore rfl rfl rfl ?_
      refine yb_iload (x := l6) rfl rfl ?_
      refine yb_istore rfl rfl rfl ?_
      refine yb_forget (dl := [.ref 1, .int (xJ l1), .int (xJ l2), .int (xJ l3), .int (xJ l6), .int (xJ l7), .int (xJ l6), .int (xJ l7), .double 0]) ⟨Or.inl rfl, ⟨Or.inl rfl, ⟨Or.inl rfl, ⟨Or.inl rfl, ⟨Or.inl rfl, ⟨Or.inl rfl, ⟨Or.inl rfl, ⟨Or.inl rfl, ⟨Or.inr ⟨rfl, rfl⟩, trivial⟩⟩⟩⟩⟩⟩⟩⟩⟩ ?_
      exact h
  · replace h := h.2 c
    refine yb_aload rfl rfl ?_
    refine yb_get (v := .ref 11) rfl (by decide) (by decide) (rfl) rfl ?_
    refine yb_iload (x := l6) rfl rfl ?_
    refine yb_iload (x := l8) rfl rfl ?_
    have r6 := h.1
    replace h := h.2
    refine yb_callVi (As := [.int (xJ l6), .int (xJ l8)]) (a := 11) rfl rfl rfl rfl rfl rfl rfl rfl (by decide) (by decide) (rfl) (by decide) (sp_58_11 (by omega) r6 ?_)
    show yB D xm_c129 _ L 36 [.ref 1, .int (xJ l1), .int (xJ l2), .int (xJ l3), .int (xJ l4), .int (xJ l5), .int (xJ l6), .int (xJ l7), .int (xJ l8)] [.int (xJ (xp_ent (e 16 (((d 11 (5 : Int)) - l8) % 30).toNat) l6))] d e
    refine yb_iload (x := l1) rfl rfl ?_
    have r7 := h.1
    replace h := h.2
    have r8 := h.1
    replace h := h.2
    refine yb_icmp_ne (x := (xp_ent (e 16 (((d 11 (5 : Int)) - l8) % 30).toNat) l6)) (y := l1) rfl rfl r7 r8 (fun c => ?_) (fun c => ?_)
    · replace h := h.1 c
      refine yb_iinc (x := l8) (n := 1) rfl rfl rfl rfl ?_
      refine yb_goto rfl rfl ?_
      exact h
    · replace h := h.2 c
      refine yb_iinc (x := l7) (n := 1) rfl rfl rfl rfl ?_
      refine yb_iinc (x := l8) (n := 1) rfl rfl rfl rfl ?_
      refine yb_goto rfl rfl ?_
      exact h
theorem yk_129_48 {D L : Nat} {P : Int → xh_D → xd_E → Prop} {d : xh_D} {e : xd_E}  {l1 : Int} {l2 : Int} {l3 : Int} {l4 : Int} {l5 : Int} {l6 : Int} {l7 : Int}  (h : ((-2147483648 ≤ l7 ∧ l7 < 2147483648) ∧ (((l7 ≤ 0) → yB D xm_c129 (yQi L P) L 17 [.ref 1, .int (xJ l1), .int (xJ (l2 + l7)), .int (xJ (xi_or l3 (0 : Int))), .int (xJ l4), .int (xJ l5), .int (xJ (l6 + 1)), .double 0, .double 0] [] d e) ∧ ((¬ l7 ≤ 0) → yB D xm_c129 (yQi L P) L 17 [.ref 1, .int (xJ l1), .int (xJ (l2 + l7)), .int (xJ (xi_or l3 (xi_shl (1 : Int) l6))), .int (xJ l4), .int (xJ l5), .int (xJ (l6 + 1)), .double 0, .double 0] [] d e)))) : yB D xm_c129 (yQi L P) L 48 [.ref 1, .int (xJ l1), .int (xJ l2), .int (xJ l3), .int (xJ l4), .int (xJ l5), .int (xJ l6), .int (xJ l7), .double 0] [] d e := by
  refine yb_iload (x := l2) rfl rfl ?_
  refine yb_iload (x := l7) rfl rfl ?_
  refine yb_iadd (x := l2) (y := l7) rfl ?_
  refine yb_istore rfl rfl rfl ?_
  refine yb_iload (x := l3) rfl rfl ?_
  refine yb_iload (x := l7) rfl rfl ?_
  have r1 := h.1
  replace h := h.2
  refine yb_if_le (x := l7) rfl rfl r1 (fun c => ?_) (fun c => ?_)
  · replace h := h.1 c
    refine yb_push (v := 0) rfl ?_
    refine yb_ior (x := l3) (y := (0 : Int)) rfl ?_
    refine yb_istore rfl rfl rfl ?_
    refine yb_iinc (x := l6) (n := 1) rfl rfl rfl rfl ?_
    refine yb_goto rfl rfl ?_
    refine yb_forget (dl := [.ref 1, .int (xJ l1), .int (xJ (l2 + l7)), .int (xJ (xi_or l3 (0 : Int))), .int (xJ l4), .int (xJ l5), .int (xJ (l6 + 1)), .double 0, .double 0]) ⟨Or.inl rfl, ⟨Or.inl rfl, ⟨Or.inl rfl, ⟨Or.inl rfl, ⟨Or.inl rfl, ⟨Or.inl rfl, ⟨Or.inl rfl, ⟨Or.inr ⟨rfl, rfl⟩, ⟨Or.inl rfl, trivial⟩⟩⟩⟩⟩⟩⟩⟩⟩ ?_
    exact h
  · replace h := h.2 c
    refine yb_push (v := 1) rfl ?_
    refine yb_iload (x := l6) rfl rfl ?_
    refine yb_ishl (x := (1 : Int)) (y := l6) rfl ?_
    refine yb_goto rfl rfl ?_
    refine yb_ior (x := l3) (y := (xi_shl (1 : Int) l6)) rfl ?_
    refine yb_istore rfl rfl rfl ?_
    refine yb_iinc (x := l6) (n := 1) rfl rfl rfl rfl ?_
    refine yb_goto rfl rfl ?_
    refine yb_forget (dl := [.ref 1, .int (xJ l1), .int (xJ (l2 + l7)), .int (xJ (xi_or l3 (xi_shl (1 : Int) l6))), .int (xJ l4), .int (xJ l5), .int (xJ (l6 + 1)), .double 0, .double 0]) ⟨Or.inl rfl, ⟨Or.inl rfl, ⟨Or.inl rfl, ⟨Or.inl rfl, ⟨Or.inl rfl, ⟨Or.inl rfl, ⟨Or.inl rfl, ⟨Or.inr ⟨rfl, rfl⟩, ⟨Or.inl rfl, trivial⟩⟩⟩⟩⟩⟩⟩⟩⟩ ?_
    exact h
theorem yk_130_0 {D L : Nat} {P : Int → xh_D → xd_E → Prop} {d : xh_D} {e : xd_E} {a1 : Int}   (hD : 1 ≤ D) (h : ((-2147483648 ≤ a1 ∧ a1 < 2147483648) ∧ (((a1 < 0) → P (-1 : Int) d e) ∧ ((¬ a1 < 0) → (((a1 ≤ (40 : Int)) → yV D 50 L [.ref 17, .ref 11] d e (fun d2 e3 => yV D 85 L [.ref 118] d2 e3 (fun d4 e5 => yV D 86 L [.ref 118, .ref 6, .ref 111, .ref 17, .int (xJ a1)] d4 e5 (fun d6 e7 => yB D xm_c130 (yQi L P) L 30 [.ref 1, .double 0, .int (xJ (0 : Int))] [] (xs d6 4 (1 : Int) (0 : Int)) e7)))) ∧ ((¬ a1 ≤ (40 : Int)) → P (-1 : Int) d e)))))) : yB D xm_c130 (yQi L P) L 0 [.ref 1, .int (xJ a1), .double 0] [] d e := by
  refine yb_iload (x := a1) rfl rfl ?_
  have r1 := h.1
  replace h := h.2
  refine yb_if_lt (x := a1) rfl rfl r1 (fun c => ?_) (fun c => ?_)
  · replace h := h.1 c
    refine yb_push (v := (-1)) rfl ?_
    exact yb_ret rfl h
  · replace h := h.2 c
    refine yb_iload (x := a1) rfl rfl ?_
    refine yb_push (v := 40) rfl ?_
    refine yb_icmp_le (x := a1) (y := (40 : Int)) rfl rfl r1 (by decide) (fun c => ?_) (fun c => ?_)
    · replace h := h.1 c
      refine yb_aload rfl rfl ?_
      refine yb_get (v := .ref 17) rfl (by decide) (by decide) (rfl) rfl ?_
      refine yb_aload rfl rfl ?_
      refine yb_get (v := .ref 11) rfl (by decide) (by decide) (rfl) rfl ?_
      refine yb_callVv (As := [.ref 11]) (a := 17) rfl rfl rfl rfl rfl rfl rfl rfl (by decide) (by decide) (rfl) (by decide) (yV_mono h (fun d2 e3 h => ?_))
      refine yb_aload rfl rfl ?_
      refine yb_get (v := .ref 118) rfl (by decide) (by decide) (rfl) rfl ?_
      refine yb_callVv (As := []) (a := 118) rfl rfl rfl rfl rfl rfl rfl rfl (by decide) (by decide) (rfl) (by decide) (yV_mono h (fun d4 e5 h => ?_))
      refine yb_aload rfl rfl ?_
      refine yb_get (v := .ref 118) rfl (by decide) (by decide) (rfl) rfl ?_
      refine yb_aload rfl rfl ?_
      refine yb_get (v := .ref 6) rfl (by decide) (by decide) (rfl) rfl ?_
      refine yb_aload rfl rfl ?_
      refine yb_get (v := .ref 111) rfl (by decide) (by decide) (rfl) rfl ?_
      refine yb_aload rfl rfl ?_
      refine yb_get (v := .ref 17) rfl (by decide) (by decide) (rfl) rfl ?_
      refine yb_iload (x := a1) rfl rfl ?_
      refine yb_callVv (As := [.ref 6, .ref 111, .ref 17, .int (xJ a1)]) (a := 118) rfl rfl rfl rfl rfl rfl rfl rfl (by decide) (by decide) (rfl) (by decide) (yV_mono h (fun d6 e7 h => ?_))
      refine yb_aload rfl rfl ?_
      refine yb_get (v := .ref 4) rfl (by decide) (by decide) (rfl) rfl ?_
      refine yb_callVv (As := []) (a := 4) rfl rfl rfl rfl rfl rfl rfl rfl (by decide) (by decide) (rfl) (by decide) (sp_31 (by omega) ?_)
      show yB D xm_c130 _ L 28 [.ref 1, .int (xJ a1), .double 0] [] (xs d6 4 (1 : Int) (0 : Int)) e7
      refine yb_push (v := 0) rfl ?_
      refine yb_istore rfl rfl rfl ?_
      refine yb_forget (dl := [.ref 1, .double 0, .int (xJ (0 : Int))]) ⟨Or.inl rfl, ⟨Or.inr ⟨rfl, rfl⟩, ⟨Or.inl rfl, trivial⟩⟩⟩ ?_
      exact h
    · replace h := h.2 c
      refine yb_push (v := (-1)) rfl ?_
      exact yb_ret rfl h
theorem yk_130_30 {D L : Nat} {P : Int → xh_D → xd_E → Prop} {d : xh_D} {e : xd_E}  {l2 : Int}  (hD : 1 ≤ D) (h : ((-2147483648 ≤ l2 ∧ l2 < 2147483648) ∧ ((-2147483648 ≤ (d 6 (4 : Int)) ∧ (d 6 (4 : Int)) < 2147483648) ∧ ((((d 6 (4 : Int)) ≤ l2) → ((0 ≤ (d 4 (1 : Int)) ∧ (d 4 (1 : Int)) < 12) ∧ ((0 ≤ ((d 4 (1 : Int)) + 1) ∧ ((d 4 (1 : Int)) + 1) < 12) ∧ P (d 118 (2 : Int)) (xs (xs (xs (xs d 5 (d 4 (1 : Int)) (d 118 (3 : Int))) 4 (1 : Int) ((d 4 (1 : Int)) + 1)) 5 ((d 4 (1 : Int)) + 1) (d 118 (4 : Int))) 4 (1 : Int) (((d 4 (1 : Int)) + 1) + 1)) e))) ∧ ((¬ (d 6 (4 : Int)) ≤ l2) → ((0 ≤ l2 ∧ l2 < 9) ∧ ((0 ≤ (d 4 (1 : Int)) ∧ (d 4 (1 : Int)) < 12) ∧ yB D xm_c130 (yQi L P) L 30 [.ref 1, .double 0, .int (xJ (l2 + 1))] [] (xs (xs d 5 (d 4 (1 : Int)) (d 126 l2)) 4 (1 : Int) ((d 4 (1 : Int)) + 1)) e))))))) : yB D xm_c130 (yQi L P) L 30 [.ref 1, .double 0, .int (xJ l2)] [] d e := by
  refine yb_iload (x := l2) rfl rfl ?_
  refine yb_aload rfl rfl ?_
  refine yb_get (v := .ref 6) rfl (by decide) (by decide) (rfl) rfl ?_
  refine yb_get (v := .int (xJ (d 6 (4 : Int)))) rfl (by decide) (by decide) (rfl) rfl ?_
  have r1 := h.1
  replace h := h.2
  have r2 := h.1
  replace h := h.2
  refine yb_icmp_ge (x := l2) (y := (d 6 (4 : Int))) rfl rfl r1 r2 (fun c => ?_) (fun c => ?_)
  · replace h := h.1 c
    refine yb_aload rfl rfl ?_
    refine yb_get (v := .ref 4) rfl (by decide) (by decide) (rfl) rfl ?_
    refine yb_aload rfl rfl ?_
    refine yb_get (v := .ref 118) rfl (by decide) (by decide) (rfl) rfl ?_
    refine yb_get (v := .int (xJ (d 118 (3 : Int)))) rfl (by decide) (by decide) (rfl) rfl ?_
    have r3 := h.1
    replace h := h.2
    refine yb_callVv (As := [.int (xJ (d 118 (3 : Int)))]) (a := 4) rfl rfl rfl rfl rfl rfl rfl rfl (by decide) (by decide) (rfl) (by decide) (sp_32 (by omega) r3 ?_)
    show yB D xm_c130 _ L 51 [.ref 1, .double 0, .int (xJ l2)] [] (xs (xs d 5 (d 4 (1 : Int)) (d 118 (3 : Int))) 4 (1 : Int) ((d 4 (1 : Int)) + 1)) e
    refine yb_aload rfl rfl ?_
    refine yb_get (v := .ref 4) rfl (by decide) (by decide) (rfl) rfl ?_
    refine yb_aload rfl rfl ?_
    refine yb_get (v := .ref 118) rfl (by decide) (by decide) (rfl) rfl ?_
    refine yb_get (v := .int (xJ (d 118 (4 : Int)))) rfl (by decide) (by decide) (rfl) rfl ?_
    have r4 := h.1
    replace h := h.2
    refine yb_callVv (As := [.int (xJ (d 118 (4 : Int)))]) (a := 4) rfl rfl rfl rfl rfl rfl rfl rfl (by decide) (by decide) (rfl) (by decide) (sp_32 (by omega) r4 ?_)
    show yB D xm_c130 _ L 57 [.ref 1, .double 0, .int (xJ l2)] [] (xs (xs (xs (xs d 5 (d 4 (1 : Int)) (d 118 (3 : Int))) 4 (1 : Int) ((d 4 (1 : Int)) + 1)) 5 ((d 4 (1 : Int)) + 1) (d 118 (4 : Int))) 4 (1 : Int) (((d 4 (1 : Int)) + 1) + 1)) e
    refine yb_aload rfl rfl ?_
    refine yb_get (v := .ref 118) rfl (by decide) (by decide) (rfl) rfl ?_
    refine yb_get (v := .int (xJ (d 118 (2 : Int)))) rfl (by decide) (by decide) (rfl) rfl ?_
    exact yb_ret rfl h
  · replace h := h.2 c
    refine yb_aload rfl rfl ?_
    refine yb_get (v := .ref 4) rfl (by decide) (by decide) (rfl) rfl ?_
    refine yb_aload rfl rfl ?_
    refine yb_get (v := .ref 118) rfl (by decide) (by decide) (rfl) rfl ?_
    refine yb_get (v := .ref 126) rfl (by decide) (by decide) (rfl) rfl ?_
    refine yb_iload (x := l2) rfl rfl ?_
    have r5 := h.1
    replace h := h.2
    refine yb_iald (j := l2) rfl xd_A126 (by decide) r5 (v := (d 126 l2)) rfl ?_
    have r6 := h.1
    replace h := h.2
    refine yb_callVv (As := [.int (xJ (d 126 l2))]) (a := 4) rfl rfl rfl rfl rfl rfl rfl rfl (by decide) (by decide) (rfl) (by decide) (sp_32 (by omega) r6 ?_)
    show yB D xm_c130 _ L 43 [.ref 1, .double 0, .int (xJ l2)] [] (xs (xs d 5 (d 4 (1 : Int)) (d 126 l2)) 4 (1 : Int) ((d 4 (1 : Int)) + 1)) e
    refine yb_iinc (x := l2) (n := 1) rfl rfl rfl rfl ?_
    refine yb_goto rfl rfl ?_
    exact h
theorem yk_131_0 {D L : Nat} {P : Int → xh_D → xd_E → Prop} {d : xh_D} {e : xd_E} {a1 : Int} {a2 : Int}   (hD : 1 ≤ D) (h : ((-2147483648 ≤ a1 ∧ a1 < 2147483648) ∧ ((-2147483648 ≤ (d 6 (4 : Int)) ∧ (d 6 (4 : Int)) < 2147483648) ∧ (((0 ≤ a1 ∧ a1 < (d 6 (4 : Int))) → ((-2147483648 ≤ a2 ∧ a2 < 2147483648) ∧ (((0 ≤ a2 ∧ a2 ≤ 5) → yV D 50 L [.ref 17, .ref 11] d e (fun d4 e5 => ((0 ≤ a1 ∧ a1 < 9) ∧ (((¬ xi_and (xi_shr (d4 20 a1) a2) (1 : Int) = 0) → yB D xm_c131 (yQi L P) L 27 [.ref 1, .int (xJ a1), .int (xJ a2), .int (xJ (0 : Int)), .int (xJ (1 : Int))] [] d4 e5) ∧ (¬ (¬ xi_and (xi_shr (d4 20 a1) a2) (1 : Int) = 0) → yB D xm_c131 (yQi L P) L 27 [.ref 1, .int (xJ a1), .int (xJ a2), .int (xJ (-2 : Int)), .int (xJ (1 : Int))] [] d4 e5))))) ∧ (¬ (0 ≤ a2 ∧ a2 ≤ 5) → P (-1 : Int) d e)))) ∧ (¬ (0 ≤ a1 ∧ a1 < (d 6 (4 : Int))) → P (-1 : Int) d e))))) : yB D xm_c131 (yQi L P) L 0 [.ref 1, .int (xJ a1), .int (xJ a2), .double 0, .double 0] [] d e := by
  refine yb_aload rfl rfl ?_
  refine yb_get (v := .ref 6) rfl (by decide) (by decide) (rfl) rfl ?_
  refine yb_iload (x := a1) rfl rfl ?_
  have r1 := h.1
  replace h := h.2
  have r2 := h.1
  replace h := h.2
  refine yb_callVz (As := [.int (xJ a1)]) (a := 6) rfl rfl rfl rfl rfl rfl rfl rfl (by decide) (by decide) (rfl) (by decide) (sp_21 (by omega) ⟨r1, r2⟩ (fun c => ?_) (fun c => ?_))
  · replace h := h.1 c
    show yB D xm_c131 _ L 4 [.ref 1, .int (xJ a1), .int (xJ a2), .double 0, .double 0] [.int (xJ (1 : Int))] d e
    refine yb_if_eq (x := (1 : Int)) rfl rfl (by decide) (fun c => absurd c (by decide)) (fun _ => ?_)
    refine yb_iload (x := a2) rfl rfl ?_
    have r3 := h.1
    replace h := h.2
    refine yb_callSz (As := [.int (xJ a2)]) rfl rfl rfl rfl rfl rfl rfl rfl (by decide) (sp_172 (by omega) r3 (fun c => ?_) (fun c => ?_))
    · replace h := h.1 c
      show yB D xm_c131 _ L 7 [.ref 1, .int (xJ a1), .int (xJ a2), .double 0, .double 0] [.int (xJ (1 : Int))] d e
      refine yb_if_ne (x := (1 : Int)) rfl rfl (by decide) (fun _ => ?_) (fun c => absurd c (by decide))
      refine yb_aload rfl rfl ?_
      refine yb_get (v := .ref 17) rfl (by decide) (by decide) (rfl) rfl ?_
      refine yb_aload rfl rfl ?_
      refine yb_get (v := .ref 11) rfl (by decide) (by decide) (rfl) rfl ?_
      refine yb_callVv (As := [.ref 11]) (a := 17) rfl rfl rfl rfl rfl rfl rfl rfl (by decide) (by decide) (rfl) (by decide) (yV_mono h (fun d4 e5 h => ?_))
      refine yb_aload rfl rfl ?_
      refine yb_get (v := .ref 17) rfl (by decide) (by decide) (rfl) rfl ?_
      refine yb_iload (x := a1) rfl rfl ?_
      refine yb_iload (x := a2) rfl rfl ?_
      have r6 := h.1
      replace h := h.2
      refine yb_callVz (As := [.int (xJ a1), .int (xJ a2)]) (a := 17) rfl rfl rfl rfl rfl rfl rfl rfl (by decide) (by decide) (rfl) (by decide) (sp_54_17 (by omega) r6 (fun c => ?_) (fun c => ?_))
      · replace h := h.1 c
        show yB D xm_c131 _ L 20 [.ref 1, .int (xJ a1), .int (xJ a2), .double 0, .double 0] [.int (xJ (1 : Int))] d4 e5
        refine yb_if_eq (x := (1 : Int)) rfl rfl (by decide) (fun c => absurd c (by decide)) (fun _ => ?_)
        refine yb_push (v := 0) rfl ?_
        refine yb_goto rfl rfl ?_
        refine yb_istore rfl rfl rfl ?_
        refine yb_push (v := 1) rfl ?_
        refine yb_istore rfl rfl rfl ?_
        exact h
      · replace h := h.2 c
        show yB D xm_c131 _ L 20 [.ref 1, .int (xJ a1), .int (xJ a2), .double 0, .double 0] [.int (xJ (0 : Int))] d4 e5
        refine yb_if_eq (x := (0 : Int)) rfl rfl (by decide) (fun _ => ?_) (fun c => absurd (by decide) c)
        refine yb_push (v := (-2)) rfl ?_
        refine yb_istore rfl rfl rfl ?_
        refine yb_push (v := 1) rfl ?_
        refine yb_istore rfl rfl rfl ?_
        exact h
    · replace h := h.2 c
      show yB D xm_c131 _ L 7 [.ref 1, .int (xJ a1), .int (xJ a2), .double 0, .double 0] [.int (xJ (0 : Int))] d e
      refine yb_if_ne (x := (0 : Int)) rfl rfl (by decide) (fun c => absurd (by decide) c) (fun _ => ?_)
      refine yb_push (v := (-1)) rfl ?_
      exact yb_ret rfl h
  · replace h := h.2 c
    show yB D xm_c131 _ L 4 [.ref 1, .int (xJ a1), .int (xJ a2), .double 0, .double 0] [.int (xJ (0 : Int))] d e
    refine yb_if_eq (x := (0 : Int)) rfl rfl (by decide) (fun _ => ?_) (fun c => absurd (by decide) c)
    refine yb_push (v := (-1)) rfl ?_
    exact yb_ret rfl h
theorem yk_131_27 {D L : Nat} {P : Int → xh_D → xd_E → Prop} {d : xh_D} {e : xd_E}  {l1 : Int} {l2 : Int} {l3 : Int} {l4 : Int}  (hD : 1 ≤ D) (h : ((-2147483648 ≤ l4 ∧ l4 < 2147483648) ∧ ((((40 : Int) < l4) → yB D xm_c131 (yQi L P) L 53 [.ref 1, .int (xJ l1), .int (xJ l2), .int (xJ l3), .double 0] [] d e) ∧ ((¬ (40 : Int) < l4) → ((-2147483648 ≤ l3 ∧ l3 < 2147483648) ∧ (((¬ l3 = (-2 : Int)) → yB D xm_c131 (yQi L P) L 53 [.ref 1, .int (xJ l1), .int (xJ l2), .int (xJ l3), .double 0] [] d e) ∧ ((l3 = (-2 : Int)) → yV D 86 L [.ref 118, .ref 6, .ref 111, .ref 17, .int (xJ (1 : Int))] d e (fun d3 e4 => ((0 ≤ l1 ∧ l1 < 9) ∧ (((¬ xi_and (xi_shr (d3 20 l1) l2) (1 : Int) = 0) → yB D xm_c131 (yQi L P) L 27 [.ref 1, .int (xJ l1), .int (xJ l2), .int (xJ l4), .int (xJ (l4 + 1))] [] d3 e4) ∧ (¬ (¬ xi_and (xi_shr (d3 20 l1) l2) (1 : Int) = 0) → yB D xm_c131 (yQi L P) L 27 [.ref 1, .int (xJ l1), .int (xJ l2), .int (xJ l3), .int (xJ (l4 + 1))] [] d3 e4))))))))))) : yB D xm_c131 (yQi L P) L 27 [.ref 1, .int (xJ l1), .int (xJ l2), .int (xJ l3), .int (xJ l4)] [] d e := by
  refine yb_iload (x := l4) rfl rfl ?_
  refine yb_push (v := 40) rfl ?_
  have r1 := h.1
  replace h := h.2
  refine yb_icmp_gt (x := l4) (y := (40 : Int)) rfl rfl r1 (by decide) (fun c => ?_) (fun c => ?_)
  · replace h := h.1 c
    refine yb_forget (dl := [.ref 1, .int (xJ l1), .int (xJ l2), .int (xJ l3), .double 0]) ⟨Or.inl rfl, ⟨Or.inl rfl, ⟨Or.inl rfl, ⟨Or.inl rfl, ⟨Or.inr ⟨rfl, rfl⟩, trivial⟩⟩⟩⟩⟩ ?_
    exact h
  · replace h := h.2 c
    refine yb_iload (x := l3) rfl rfl ?_
    refine yb_push (v := (-2)) rfl ?_
    have r2 := h.1
    replace h := h.2
    refine yb_icmp_ne (x := l3) (y := (-2 : Int)) rfl rfl r2 (by decide) (fun c => ?_) (fun c => ?_)
    · replace h := h.1 c
      refine yb_forget (dl := [.ref 1, .int (xJ l1), .int (xJ l2), .int (xJ l3), .double 0]) ⟨Or.inl rfl, ⟨Or.inl rfl, ⟨Or.inl rfl, ⟨Or.inl rfl, ⟨Or.inr ⟨rfl, rfl⟩, trivial⟩⟩⟩⟩⟩ ?_
      exact h
    · replace h := h.2 c
      refine yb_aload rfl rfl ?_
      refine yb_get (v := .ref 118) rfl (by decide) (by decide) (rfl) rfl ?_
      refine yb_aload rfl rfl ?_
      refine yb_get (v := .ref 6) rfl (by decide) (by decide) (rfl) rfl ?_
      refine yb_aload rfl rfl ?_
      refine yb_get (v := .ref 111) rfl (by decide) (by decide) (rfl) rfl ?_
      refine yb_aload rfl rfl ?_
      refine yb_get (v := .ref 17) rfl (by decide) (by decide) (rfl) rfl ?_
      refine yb_push (v := 1) rfl ?_
      refine yb_callVv (As := [.ref 6, .ref 111, .ref 17, .int (xJ (1 : Int))]) (a := 118) rfl rfl rfl rfl rfl rfl rfl rfl (by decide) (by decide) (rfl) (by decide) (yV_mono h (fun d3 e4 h => ?_))
      refine yb_aload rfl rfl ?_
      refine yb_get (v := .ref 17) rfl (by decide) (by decide) (rfl) rfl ?_
      refine yb_iload (x := l1) rfl rfl ?_
      refine yb_iload (x := l2) rfl rfl ?_
      have r5 := h.1
      replace h := h.2
      refine yb_callVz (As := [.int (xJ l1), .int (xJ l2)]) (a := 17) rfl rfl rfl rfl rfl rfl rfl rfl (by decide) (by decide) (rfl) (by decide) (sp_54_17 (by omega) r5 (fun c => ?_) (fun c => ?_))
      · replace h := h.1 c
        show yB D xm_c131 _ L 48 [.ref 1, .int (xJ l1), .int (xJ l2), .int (xJ l3), .int (xJ l4)] [.int (xJ (1 : Int))] d3 e4
        refine yb_if_eq (x := (1 : Int)) rfl rfl (by decide) (fun c => absurd c (by decide)) (fun _ => ?_)
        refine yb_iload (x := l4) rfl rfl ?_
        refine yb_istore rfl rfl rfl ?_
        refine yb_iinc (x := l4) (n := 1) rfl rfl rfl rfl ?_
        refine yb_goto rfl rfl ?_
        exact h
      · replace h := h.2 c
        show yB D xm_c131 _ L 48 [.ref 1, .int (xJ l1), .int (xJ l2), .int (xJ l3), .int (xJ l4)] [.int (xJ (0 : Int))] d3 e4
        refine yb_if_eq (x := (0 : Int)) rfl rfl (by decide) (fun _ => ?_) (fun c => absurd (by decide) c)
        refine yb_iinc (x := l4) (n := 1) rfl rfl rfl rfl ?_
        refine yb_goto rfl rfl ?_
        exact h
theorem yk_131_53 {D L : Nat} {P : Int → xh_D → xd_E → Prop} {d : xh_D} {e : xd_E}  {l1 : Int} {l2 : Int} {l3 : Int}  (hD : 1 ≤ D) (h : ((0 ≤ ((l1 * (6 : Int)) + l2) ∧ ((l1 * (6 : Int)) + l2) < 54) ∧ P l3 (xs (xs (xs d 4 (1 : Int) (0 : Int)) 5 (0 : Int) (d 21 ((l1 * (6 : Int)) + l2))) 4 (1 : Int) (1 : Int)) e)) : yB D xm_c131 (yQi L P) L 53 [.ref 1, .int (xJ l1), .int (xJ l2), .int (xJ l3), .double 0] [] d e := by
  refine yb_aload rfl rfl ?_
  refine yb_get (v := .ref 4) rfl (by decide) (by decide) (rfl) rfl ?_
  refine yb_callVv (As := []) (a := 4) rfl rfl rfl rfl rfl rfl rfl rfl (by decide) (by decide) (rfl) (by decide) (sp_31 (by omega) ?_)
  show yB D xm_c131 _ L 56 [.ref 1, .int (xJ l1), .int (xJ l2), .int (xJ l3), .double 0] [] (xs d 4 (1 : Int) (0 : Int)) e
  refine yb_aload rfl rfl ?_
  refine yb_get (v := .ref 4) rfl (by decide) (by decide) (rfl) rfl ?_
  refine yb_aload rfl rfl ?_
  refine yb_get (v := .ref 17) rfl (by decide) (by decide) (rfl) rfl ?_
  refine yb_get (v := .ref 21) rfl (by decide) (by decide) (rfl) rfl ?_
  refine yb_iload (x := l1) rfl rfl ?_
  refine yb_push (v := 6) rfl ?_
  refine yb_imul (x := l1) (y := (6 : Int)) rfl ?_
  refine yb_iload (x := l2) rfl rfl ?_
  refine yb_iadd (x := (l1 * (6 : Int))) (y := l2) rfl ?_
  have r1 := h.1
  replace h := h.2
  refine yb_iald (j := ((l1 * (6 : Int)) + l2)) rfl xd_A21 (by decide) r1 (v := (d 21 ((l1 * (6 : Int)) + l2))) (xs_np (by decide)) ?_
  refine yb_callVv (As := [.int (xJ (d 21 ((l1 * (6 : Int)) + l2)))]) (a := 4) rfl rfl rfl rfl rfl rfl rfl rfl (by decide) (by decide) (rfl) (by decide) (sp_32 (by omega) (by show (0 ≤ (0 : Int) ∧ (0 : Int) < 12); decide) ?_)
  show yB D xm_c131 _ L 68 [.ref 1, .int (xJ l1), .int (xJ l2), .int (xJ l3), .double 0] [] (xs (xs (xs d 4 (1 : Int) (0 : Int)) 5 (0 : Int) (d 21 ((l1 * (6 : Int)) + l2))) 4 (1 : Int) (1 : Int)) e
  refine yb_iload (x := l3) rfl rfl ?_
  exact yb_ret rfl h
theorem yk_132_0 {D L : Nat} {P : Int → xh_D → xd_E → Prop} {d : xh_D} {e : xd_E} {a1 : Int} {a2 : Int}   (hD : 1 ≤ D) (h : ((-2147483648 ≤ a1 ∧ a1 < 2147483648) ∧ (((0 ≤ a1 ∧ a1 ≤ 5) → ((-2147483648 ≤ a2 ∧ a2 < 2147483648) ∧ (((a2 < (1 : Int)) → P (-1 : Int) d e) ∧ ((¬ a2 < (1 : Int)) → (((a2 ≤ (3 : Int)) → ((-2147483648 ≤ (d 127 (8 : Int)) ∧ (d 127 (8 : Int)) < 2147483648) ∧ (((¬ (d 127 (8 : Int)) = (6 : Int)) → ((0 ≤ (d 127 (8 : Int)) ∧ (d 127 (8 : Int)) < 6) ∧ P (((d 127 (8 : Int)) + 1) - (1 : Int)) (xs (xs (xs d 128 (d 127 (8 : Int)) a1) 129 (d 127 (8 : Int)) a2) 127 (8 : Int) ((d 127 (8 : Int)) + 1)) e)) ∧ (((d 127 (8 : Int)) = (6 : Int)) → P (-2 : Int) d e)))) ∧ ((¬ a2 ≤ (3 : Int)) → P (-1 : Int) d e)))))) ∧ (¬ (0 ≤ a1 ∧ a1 ≤ 5) → P (-1 : Int) d e)))) : yB D xm_c132 (yQi L P) L 0 [.ref 1, .int (xJ a1), .int (xJ a2)] [] d e := by
  refine yb_iload (x := a1) rfl rfl ?_
  have r1 := h.1
  replace h := h.2
  refine yb_callSz (As := [.int (xJ a1)]) rfl rfl rfl rfl rfl rfl rfl rfl (by decide) (sp_172 (by omega) r1 (fun c => ?_) (fun c => ?_))
  · replace h := h.1 c
    show yB D xm_c132 _ L 2 [.ref 1, .int (xJ a1), .int (xJ a2)] [.int (xJ (1 : Int))] d e
    refine yb_if_eq (x := (1 : Int)) rfl rfl (by decide) (fun c => absurd c (by decide)) (fun _ => ?_)
    refine yb_iload (x := a2) rfl rfl ?_
    refine yb_push (v := 1) rfl ?_
    have r2 := h.1
    replace h := h.2
    refine yb_icmp_lt (x := a2) (y := (1 : Int)) rfl rfl r2 (by decide) (fun c => ?_) (fun c => ?_)
    · replace h := h.1 c
      refine yb_push (v := (-1)) rfl ?_
      exact yb_ret rfl h
    · replace h := h.2 c
      refine yb_iload (x := a2) rfl rfl ?_
      refine yb_push (v := 3) rfl ?_
      refine yb_icmp_le (x := a2) (y := (3 : Int)) rfl rfl r2 (by decide) (fun c => ?_) (fun c => ?_)
      · replace h := h.1 c
        refine yb_aload rfl rfl ?_
        refine yb_get (v := .ref 127) rfl (by decide) (by decide) (rfl) rfl ?_
        refine yb_get (v := .int (xJ (d 127 (8 : Int)))) rfl (by decide) (by decide) (rfl) rfl ?_
        refine yb_push (v := 6) rfl ?_
        have r3 := h.1
        replace h := h.2
        refine yb_icmp_ne (x := (d 127 (8 : Int))) (y := (6 : Int)) rfl rfl r3 (by decide) (fun c => ?_) (fun c => ?_)
        · replace h := h.1 c
          refine yb_aload rfl rfl ?_
          refine yb_get (v := .ref 127) rfl (by decide) (by decide) (rfl) rfl ?_
          refine yb_iload (x := a1) rfl rfl ?_
          refine yb_iload (x := a2) rfl rfl ?_
          have r4 := h.1
          replace h := h.2
          refine yb_callVv (As := [.int (xJ a1), .int (xJ a2)]) (a := 127) rfl rfl rfl rfl rfl rfl rfl rfl (by decide) (by decide) (rfl) (by decide) (sp_62 (by omega) r4 ?_)
          show yB D xm_c132 _ L 23 [.ref 1, .int (xJ a1), .int (xJ a2)] [] (xs (xs (xs d 128 (d 127 (8 : Int)) a1) 129 (d 127 (8 : Int)) a2) 127 (8 : Int) ((d 127 (8 : Int)) + 1)) e
          refine yb_aload rfl rfl ?_
          refine yb_get (v := .ref 127) rfl (by decide) (by decide) (rfl) rfl ?_
          refine yb_get (v := .int (xJ ((d 127 (8 : Int)) + 1))) rfl (by decide) (by decide) (rfl) rfl ?_
          refine yb_push (v := 1) rfl ?_
          refine yb_isub (x := ((d 127 (8 : Int)) + 1)) (y := (1 : Int)) rfl ?_
          exact yb_ret rfl h
        · replace h := h.2 c
          refine yb_push (v := (-2)) rfl ?_
          exact yb_ret rfl h
      · replace h := h.2 c
        refine yb_push (v := (-1)) rfl ?_
        exact yb_ret rfl h
  · replace h := h.2 c
    show yB D xm_c132 _ L 2 [.ref 1, .int (xJ a1), .int (xJ a2)] [.int (xJ (0 : Int))] d e
    refine yb_if_eq (x := (0 : Int)) rfl rfl (by decide) (fun _ => ?_) (fun c => absurd (by decide) c)
    refine yb_push (v := (-1)) rfl ?_
    exact yb_ret rfl h
theorem yk_133_0 {D L : Nat} {P : Int → xh_D → xd_E → Prop} {d : xh_D} {e : xd_E}    (h : ((-2147483648 ≤ (d 127 (8 : Int)) ∧ (d 127 (8 : Int)) < 2147483648) ∧ (((¬ (d 127 (8 : Int)) = 0) → P ((d 127 (8 : Int)) - (1 : Int)) (xs d 127 (8 : Int) ((d 127 (8 : Int)) - (1 : Int))) e) ∧ (((d 127 (8 : Int)) = 0) → P (-1 : Int) d e)))) : yB D xm_c133 (yQi L P) L 0 [.ref 1] [] d e := by
  refine yb_aload rfl rfl ?_
  refine yb_get (v := .ref 127) rfl (by decide) (by decide) (rfl) rfl ?_
  refine yb_get (v := .int (xJ (d 127 (8 : Int)))) rfl (by decide) (by decide) (rfl) rfl ?_
  have r1 := h.1
  replace h := h.2
  refine yb_if_ne (x := (d 127 (8 : Int))) rfl rfl r1 (fun c => ?_) (fun c => ?_)
  · replace h := h.1 c
    refine yb_aload rfl rfl ?_
    refine yb_get (v := .ref 127) rfl (by decide) (by decide) (rfl) rfl ?_
    refine yb_dup rfl rfl ?_
    refine yb_get (v := .int (xJ (d 127 (8 : Int)))) rfl (by decide) (by decide) (rfl) rfl ?_
    refine yb_push (v := 1) rfl ?_
    refine yb_isub (x := (d 127 (8 : Int))) (y := (1 : Int)) rfl ?_
    refine yb_put (z := ((d 127 (8 : Int)) - (1 : Int))) (k := 8) rfl rfl (by decide) (by decide) (rfl) (Nat.le_of_ble_eq_true rfl) rfl (rfl) ?_
    refine yb_aload rfl rfl ?_
    refine yb_get (v := .ref 127) rfl (by decide) (by decide) (rfl) rfl ?_
    refine yb_get (v := .int (xJ ((d 127 (8 : Int)) - (1 : Int)))) rfl (by decide) (by decide) (rfl) rfl ?_
    exact yb_ret rfl h
  · replace h := h.2 c
    refine yb_push (v := (-1)) rfl ?_
    exact yb_ret rfl h
theorem yk_134_0 {D L : Nat} {P : Int → xh_D → xd_E → Prop} {d : xh_D} {e : xd_E} {a1 : Int}   (hD : 1 ≤ D) (h : ((-2147483648 ≤ a1 ∧ a1 < 2147483648) ∧ (((0 ≤ a1 ∧ a1 ≤ 8) → yV D 63 L [.ref 127, .ref 11, .int (xJ (d 6 (4 : Int)))] d e (fun d2 e3 => ((0 ≤ a1 ∧ a1 < 9) ∧ yC D 65 L [.ref 127, .int (xJ (xi_and (d2 127 (9 : Int)) (xi_xor (d2 133 a1) (-1 : Int))))] (xs (xs (xs d2 4 (1 : Int) (0 : Int)) 5 (0 : Int) (xp_bc (xi_and (d2 127 (9 : Int)) (xi_xor (d2 133 a1) (-1 : Int))))) 4 (1 : Int) (1 : Int)) e3 (fun x5 d6 e7 => P x5 d6 e7)))) ∧ (¬ (0 ≤ a1 ∧ a1 ≤ 8) → P (-1 : Int) d e)))) : yB D xm_c134 (yQi L P) L 0 [.ref 1, .int (xJ a1)] [] d e := by
  refine yb_iload (x := a1) rfl rfl ?_
  have r1 := h.1
  replace h := h.2
  refine yb_callSz (As := [.int (xJ a1)]) rfl rfl rfl rfl rfl rfl rfl rfl (by decide) (sp_173 (by omega) r1 (fun c => ?_) (fun c => ?_))
  · replace h := h.1 c
    show yB D xm_c134 _ L 2 [.ref 1, .int (xJ a1)] [.int (xJ (1 : Int))] d e
    refine yb_if_ne (x := (1 : Int)) rfl rfl (by decide) (fun _ => ?_) (fun c => absurd c (by decide))
    refine yb_aload rfl rfl ?_
    refine yb_get (v := .ref 127) rfl (by decide) (by decide) (rfl) rfl ?_
    refine yb_aload rfl rfl ?_
    refine yb_get (v := .ref 11) rfl (by decide) (by decide) (rfl) rfl ?_
    refine yb_aload rfl rfl ?_
    refine yb_get (v := .ref 6) rfl (by decide) (by decide) (rfl) rfl ?_
    refine yb_get (v := .int (xJ (d 6 (4 : Int)))) rfl (by decide) (by decide) (rfl) rfl ?_
    refine yb_callVv (As := [.ref 11, .int (xJ (d 6 (4 : Int)))]) (a := 127) rfl rfl rfl rfl rfl rfl rfl rfl (by decide) (by decide) (rfl) (by decide) (yV_mono h (fun d2 e3 h => ?_))
    refine yb_aload rfl rfl ?_
    refine yb_get (v := .ref 4) rfl (by decide) (by decide) (rfl) rfl ?_
    refine yb_callVv (As := []) (a := 4) rfl rfl rfl rfl rfl rfl rfl rfl (by decide) (by decide) (rfl) (by decide) (sp_31 (by omega) ?_)
    show yB D xm_c134 _ L 16 [.ref 1, .int (xJ a1)] [] (xs d2 4 (1 : Int) (0 : Int)) e3
    refine yb_aload rfl rfl ?_
    refine yb_get (v := .ref 4) rfl (by decide) (by decide) (rfl) rfl ?_
    refine yb_aload rfl rfl ?_
    refine yb_get (v := .ref 127) rfl (by decide) (by decide) (rfl) rfl ?_
    refine yb_iload (x := a1) rfl rfl ?_
    have r4 := h.1
    replace h := h.2
    refine yb_callVi (As := [.int (xJ a1)]) (a := 127) rfl rfl rfl rfl rfl rfl rfl rfl (by decide) (by decide) (rfl) (by show (1 : Nat) ≤ 8; decide) (sp_64 (by omega) r4 ?_)
    show yB D xm_c134 _ L 22 [.ref 1, .int (xJ a1)] [.int (xJ (xi_and (d2 127 (9 : Int)) (xi_xor (d2 133 a1) (-1 : Int)))), .ref 4] (xs d2 4 (1 : Int) (0 : Int)) e3
    refine yb_callSi (As := [.int (xJ (xi_and (d2 127 (9 : Int)) (xi_xor (d2 133 a1) (-1 : Int))))]) rfl rfl rfl rfl rfl rfl rfl rfl (by show (1 : Nat) ≤ 8; decide) (sp_0 (by omega) ?_)
    show yB D xm_c134 _ L 23 [.ref 1, .int (xJ a1)] [.int (xJ (xp_bc (xi_and (d2 127 (9 : Int)) (xi_xor (d2 133 a1) (-1 : Int))))), .ref 4] (xs d2 4 (1 : Int) (0 : Int)) e3
    refine yb_callVv (As := [.int (xJ (xp_bc (xi_and (d2 127 (9 : Int)) (xi_xor (d2 133 a1) (-1 : Int)))))]) (a := 4) rfl rfl rfl rfl rfl rfl rfl rfl (by decide) (by decide) (rfl) (by decide) (sp_32 (by omega) (by show (0 ≤ (0 : Int) ∧ (0 : Int) < 12); decide) ?_)
    show yB D xm_c134 _ L 24 [.ref 1, .int (xJ a1)] [] (xs (xs (xs d2 4 (1 : Int) (0 : Int)) 5 (0 : Int) (xp_bc (xi_and (d2 127 (9 : Int)) (xi_xor (d2 133 a1) (-1 : Int))))) 4 (1 : Int) (1 : Int)) e3
    refine yb_aload rfl rfl ?_
    refine yb_get (v := .ref 127) rfl (by decide) (by decide) (rfl) rfl ?_
    refine yb_aload rfl rfl ?_
    refine yb_get (v := .ref 127) rfl (by decide) (by decide) (rfl) rfl ?_
    refine yb_iload (x := a1) rfl rfl ?_
    refine yb_callVi (As := [.int (xJ a1)]) (a := 127) rfl rfl rfl rfl rfl rfl rfl rfl (by decide) (by decide) (rfl) (by show (1 : Nat) ≤ 8; decide) (sp_64 (by omega) r4 ?_)
    show yB D xm_c134 _ L 30 [.ref 1, .int (xJ a1)] [.int (xJ (xi_and (d2 127 (9 : Int)) (xi_xor (d2 133 a1) (-1 : Int)))), .ref 127] (xs (xs (xs d2 4 (1 : Int) (0 : Int)) 5 (0 : Int) (xp_bc (xi_and (d2 127 (9 : Int)) (xi_xor (d2 133 a1) (-1 : Int))))) 4 (1 : Int) (1 : Int)) e3
    refine yb_callVi (As := [.int (xJ (xi_and (d2 127 (9 : Int)) (xi_xor (d2 133 a1) (-1 : Int))))]) (a := 127) rfl rfl rfl rfl rfl rfl rfl rfl (by decide) (by decide) (rfl) (by decide) (yC_mono h (fun x5 d6 e7 h => ?_))
    exact yb_ret rfl h
  · replace h := h.2 c
    show yB D xm_c134 _ L 2 [.ref 1, .int (xJ a1)] [.int (xJ (0 : Int))] d e
    refine yb_if_ne (x := (0 : Int)) rfl rfl (by decide) (fun c => absurd (by decide) c) (fun _ => ?_)
    refine yb_push (v := (-1)) rfl ?_
    exact yb_ret rfl h
theorem yk_135_0 {D L : Nat} {P : Int → xh_D → xd_E → Prop} {d : xh_D} {e : xd_E}    (h : yV D 63 L [.ref 127, .ref 11, .int (xJ (d 6 (4 : Int)))] d e (fun d1 e2 => yB D xm_c135 (yQi L P) L 12 [.ref 1, .int (xJ (0 : Int)), .int (xJ (0 : Int))] [] d1 e2)) : yB D xm_c135 (yQi L P) L 0 [.ref 1, .double 0, .double 0] [] d e := by
  refine yb_aload rfl rfl ?_
  refine yb_get (v := .ref 127) rfl (by decide) (by decide) (rfl) rfl ?_
  refine yb_aload rfl rfl ?_
  refine yb_get (v := .ref 11) rfl (by decide) (by decide) (rfl) rfl ?_
  refine yb_aload rfl rfl ?_
  refine yb_get (v := .ref 6) rfl (by decide) (by decide) (rfl) rfl ?_
  refine yb_get (v := .int (xJ (d 6 (4 : Int)))) rfl (by decide) (by decide) (rfl) rfl ?_
  refine yb_callVv (As := [.ref 11, .int (xJ (d 6 (4 : Int)))]) (a := 127) rfl rfl rfl rfl rfl rfl rfl rfl (by decide) (by decide) (rfl) (by decide) (yV_mono h (fun d1 e2 h => ?_))
  refine yb_push (v := 0) rfl ?_
  refine yb_istore rfl rfl rfl ?_
  refine yb_push (v := 0) rfl ?_
  refine yb_istore rfl rfl rfl ?_
  exact h
theorem yk_135_12 {D L : Nat} {P : Int → xh_D → xd_E → Prop} {d : xh_D} {e : xd_E}  {l1 : Int} {l2 : Int}  (hD : 1 ≤ D) (h : ((-2147483648 ≤ l2 ∧ l2 < 2147483648) ∧ ((((9 : Int) ≤ l2) → yC D 67 L [.ref 127] (xs d 4 (1 : Int) (0 : Int)) e (fun x2 d3 e4 => ((0 ≤ (d3 4 (1 : Int)) ∧ (d3 4 (1 : Int)) < 12) ∧ P l1 (xs (xs d3 5 (d3 4 (1 : Int)) x2) 4 (1 : Int) ((d3 4 (1 : Int)) + 1)) e4))) ∧ ((¬ (9 : Int) ≤ l2) → ((0 ≤ l2 ∧ l2 < 9) ∧ yC D 65 L [.ref 127, .int (xJ (xi_and (d 127 (9 : Int)) (xi_xor (d 133 l2) (-1 : Int))))] d e (fun x7 d8 e9 => ((-2147483648 ≤ x7 ∧ x7 < 2147483648) ∧ (((x7 ≤ 0) → yB D xm_c135 (yQi L P) L 12 [.ref 1, .int (xJ (xi_or l1 (0 : Int))), .int (xJ (l2 + 1))] [] d8 e9) ∧ ((¬ x7 ≤ 0) → yB D xm_c135 (yQi L P) L 12 [.ref 1, .int (xJ (xi_or l1 (xi_shl (1 : Int) l2))), .int (xJ (l2 + 1))] [] d8 e9))))))))) : yB D xm_c135 (yQi L P) L 12 [.ref 1, .int (xJ l1), .int (xJ l2)] [] d e := by
  refine yb_iload (x := l2) rfl rfl ?_
  refine yb_push (v := 9) rfl ?_
  have r1 := h.1
  replace h := h.2
  refine yb_icmp_ge (x := l2) (y := (9 : Int)) rfl rfl r1 (by decide) (fun c => ?_) (fun c => ?_)
  · replace h := h.1 c
    refine yb_aload rfl rfl ?_
    refine yb_get (v := .ref 4) rfl (by decide) (by decide) (rfl) rfl ?_
    refine yb_callVv (As := []) (a := 4) rfl rfl rfl rfl rfl rfl rfl rfl (by decide) (by decide) (rfl) (by decide) (sp_31 (by omega) ?_)
    show yB D xm_c135 _ L 36 [.ref 1, .int (xJ l1), .int (xJ l2)] [] (xs d 4 (1 : Int) (0 : Int)) e
    refine yb_aload rfl rfl ?_
    refine yb_get (v := .ref 4) rfl (by decide) (by decide) (rfl) rfl ?_
    refine yb_aload rfl rfl ?_
    refine yb_get (v := .ref 127) rfl (by decide) (by decide) (rfl) rfl ?_
    refine yb_callVi (As := []) (a := 127) rfl rfl rfl rfl rfl rfl rfl rfl (by decide) (by decide) (rfl) (by show (1 : Nat) ≤ 8; decide) (yC_mono h (fun x2 d3 e4 h => ?_))
    have r5 := h.1
    replace h := h.2
    refine yb_callVv (As := [.int (xJ x2)]) (a := 4) rfl rfl rfl rfl rfl rfl rfl rfl (by decide) (by decide) (rfl) (by decide) (sp_32 (by omega) r5 ?_)
    show yB D xm_c135 _ L 42 [.ref 1, .int (xJ l1), .int (xJ l2)] [] (xs (xs d3 5 (d3 4 (1 : Int)) x2) 4 (1 : Int) ((d3 4 (1 : Int)) + 1)) e4
    refine yb_iload (x := l1) rfl rfl ?_
    exact yb_ret rfl h
  · replace h := h.2 c
    refine yb_iload (x := l1) rfl rfl ?_
    refine yb_aload rfl rfl ?_
    refine yb_get (v := .ref 127) rfl (by decide) (by decide) (rfl) rfl ?_
    refine yb_aload rfl rfl ?_
    refine yb_get (v := .ref 127) rfl (by decide) (by decide) (rfl) rfl ?_
    refine yb_iload (x := l2) rfl rfl ?_
    have r6 := h.1
    replace h := h.2
    refine yb_callVi (As := [.int (xJ l2)]) (a := 127) rfl rfl rfl rfl rfl rfl rfl rfl (by decide) (by decide) (rfl) (by show (2 : Nat) ≤ 8; decide) (sp_64 (by omega) r6 ?_)
    show yB D xm_c135 _ L 22 [.ref 1, .int (xJ l1), .int (xJ l2)] [.int (xJ (xi_and (d 127 (9 : Int)) (xi_xor (d 133 l2) (-1 : Int)))), .ref 127, .int (xJ l1)] d e
    refine yb_callVi (As := [.int (xJ (xi_and (d 127 (9 : Int)) (xi_xor (d 133 l2) (-1 : Int))))]) (a := 127) rfl rfl rfl rfl rfl rfl rfl rfl (by decide) (by decide) (rfl) (by show (1 : Nat) ≤ 8; decide) (yC_mono h (fun x7 d8 e9 h => ?_))
    have r10 := h.1
    replace h := h.2
    refine yb_if_le (x := x7) rfl rfl r10 (fun c => ?_) (fun c => ?_)
    · replace h := h.1 c
      refine yb_push (v := 0) rfl ?_
      refine yb_ior (x := l1) (y := (0 : Int)) rfl ?_
      refine yb_istore rfl rfl rfl ?_
      refine yb_iinc (x := l2) (n := 1) rfl rfl rfl rfl ?_
      refine yb_goto rfl rfl ?_
      exact h
    · replace h := h.2 c
      refine yb_push (v := 1) rfl ?_
      refine yb_iload (x := l2) rfl rfl ?_
      refine yb_ishl (x := (1 : Int)) (y := l2) rfl ?_
      refine yb_goto rfl rfl ?_
      refine yb_ior (x := l1) (y := (xi_shl (1 : Int) l2)) rfl ?_
      refine yb_istore rfl rfl rfl ?_
      refine yb_iinc (x := l2) (n := 1) rfl rfl rfl rfl ?_
      refine yb_goto rfl rfl ?_
      exact h
theorem yk_136_0 {D L : Nat} {P : Int → xh_D → xd_E → Prop} {d : xh_D} {e : xd_E}    (h : yB D xm_c136 (yQi L P) L 6 [.ref 1, .int (xJ (0 : Int)), .int (xJ (-1 : Int)), .int (xJ (0 : Int)), .double 0] [] d e) : yB D xm_c136 (yQi L P) L 0 [.ref 1, .double 0, .double 0, .double 0, .double 0] [] d e := by
  refine yb_push (v := 0) rfl ?_
  refine yb_istore rfl rfl rfl ?_
  refine yb_push (v := (-1)) rfl ?_
  refine yb_istore rfl rfl rfl ?_
  refine yb_push (v := 0) rfl ?_
  refine yb_istore rfl rfl rfl ?_
  exact h
theorem yk_136_6 {D L : Nat} {P : Int → xh_D → xd_E → Prop} {d : xh_D} {e : xd_E}  {l1 : Int} {l2 : Int} {l3 : Int}  (hD : 1 ≤ D) (h : ((-2147483648 ≤ l3 ∧ l3 < 2147483648) ∧ ((((9 : Int) ≤ l3) → P l1 (xs (xs (xs d 4 (1 : Int) (0 : Int)) 5 (0 : Int) l2) 4 (1 : Int) (1 : Int)) e) ∧ ((¬ (9 : Int) ≤ l3) → yC D 51 L [.ref 11, .int (xJ l3), .int (xJ (d 6 (4 : Int)))] d e (fun x2 d3 e4 => ((-2147483648 ≤ l2 ∧ l2 < 2147483648) ∧ ((((xp_bc x2) ≤ l2) → yB D xm_c136 (yQi L P) L 6 [.ref 1, .int (xJ l1), .int (xJ l2), .int (xJ (l3 + 1)), .double 0] [] d3 e4) ∧ ((¬ (xp_bc x2) ≤ l2) → yB D xm_c136 (yQi L P) L 6 [.ref 1, .int (xJ l3), .int (xJ (xp_bc x2)), .int (xJ (l3 + 1)), .double 0] [] d3 e4)))))))) : yB D xm_c136 (yQi L P) L 6 [.ref 1, .int (xJ l1), .int (xJ l2), .int (xJ l3), .double 0] [] d e := by
  refine yb_iload (x := l3) rfl rfl ?_
  refine yb_push (v := 9) rfl ?_
  have r1 := h.1
  replace h := h.2
  refine yb_icmp_ge (x := l3) (y := (9 : Int)) rfl rfl r1 (by decide) (fun c => ?_) (fun c => ?_)
  · replace h := h.1 c
    refine yb_aload rfl rfl ?_
    refine yb_get (v := .ref 4) rfl (by decide) (by decide) (rfl) rfl ?_
    refine yb_callVv (As := []) (a := 4) rfl rfl rfl rfl rfl rfl rfl rfl (by decide) (by decide) (rfl) (by decide) (sp_31 (by omega) ?_)
    show yB D xm_c136 _ L 30 [.ref 1, .int (xJ l1), .int (xJ l2), .int (xJ l3), .double 0] [] (xs d 4 (1 : Int) (0 : Int)) e
    refine yb_aload rfl rfl ?_
    refine yb_get (v := .ref 4) rfl (by decide) (by decide) (rfl) rfl ?_
    refine yb_iload (x := l2) rfl rfl ?_
    refine yb_callVv (As := [.int (xJ l2)]) (a := 4) rfl rfl rfl rfl rfl rfl rfl rfl (by decide) (by decide) (rfl) (by decide) (sp_32 (by omega) (by show (0 ≤ (0 : Int) ∧ (0 : Int) < 12); decide) ?_)
    show yB D xm_c136 _ L 34 [.ref 1, .int (xJ l1), .int (xJ l2), .int (xJ l3), .double 0] [] (xs (xs (xs d 4 (1 : Int) (0 : Int)) 5 (0 : Int) l2) 4 (1 : Int) (1 : Int)) e
    refine yb_iload (x := l1) rfl rfl ?_
    exact yb_ret rfl h
  · replace h := h.2 c
    refine yb_aload rfl rfl ?_
    refine yb_get (v := .ref 11) rfl (by decide) (by decide) (rfl) rfl ?_
    refine yb_iload (x := l3) rfl rfl ?_
    refine yb_aload rfl rfl ?_
    refine yb_get (v := .ref 6) rfl (by decide) (by decide) (rfl) rfl ?_
    refine yb_get (v := .int (xJ (d 6 (4 : Int)))) rfl (by decide) (by decide) (rfl) rfl ?_
    refine yb_callVi (As := [.int (xJ l3), .int (xJ (d 6 (4 : Int)))]) (a := 11) rfl rfl rfl rfl rfl rfl rfl rfl (by decide) (by decide) (rfl) (by decide) (yC_mono h (fun x2 d3 e4 h => ?_))
    refine yb_callSi (As := [.int (xJ x2)]) rfl rfl rfl rfl rfl rfl rfl rfl (by decide) (sp_0 (by omega) ?_)
    show yB D xm_c136 _ L 17 [.ref 1, .int (xJ l1), .int (xJ l2), .int (xJ l3), .double 0] [.int (xJ (xp_bc x2))] d3 e4
    refine yb_istore rfl rfl rfl ?_
    refine yb_iload (x := (xp_bc x2)) rfl rfl ?_
    refine yb_iload (x := l2) rfl rfl ?_
    have r5 := h.1
    replace h := h.2
    refine yb_icmp_le (x := (xp_bc x2)) (y := l2) rfl rfl (xJ_rng _) r5 (fun c => ?_) (fun c => ?_)
    · replace h := h.1 c
      refine yb_iinc (x := l3) (n := 1) rfl rfl rfl rfl ?_
      refine yb_goto rfl rfl ?_
      refine yb_forget (dl := [.ref 1, .int (xJ l1), .int (xJ l2), .int (xJ (l3 + 1)), .double 0]) ⟨Or.inl rfl, ⟨Or.inl rfl, ⟨Or.inl rfl, ⟨Or.inl rfl, ⟨Or.inr ⟨rfl, rfl⟩, trivial⟩⟩⟩⟩⟩ ?_
      exact h
    · replace h := h.2 c
      refine yb_iload (x := (xp_bc x2)) rfl rfl ?_
      refine yb_istore rfl rfl rfl ?_
      refine yb_iload (x := l3) rfl rfl ?_
      refine yb_istore rfl rfl rfl ?_
      refine yb_iinc (x := l3) (n := 1) rfl rfl rfl rfl ?_
      refine yb_goto rfl rfl ?_
      refine yb_forget (dl := [.ref 1, .int (xJ l3), .int (xJ (xp_bc x2)), .int (xJ (l3 + 1)), .double 0]) ⟨Or.inl rfl, ⟨Or.inl rfl, ⟨Or.inl rfl, ⟨Or.inl rfl, ⟨Or.inr ⟨rfl, rfl⟩, trivial⟩⟩⟩⟩⟩ ?_
      exact h
theorem yk_137_0 {D L : Nat} {P : Int → xh_D → xd_E → Prop} {d : xh_D} {e : xd_E}    (h : yC D 70 L [.ref 127, .ref 11, .int (xJ (d 6 (4 : Int)))] d e (fun x1 d2 e3 => ((-2147483648 ≤ x1 ∧ x1 < 2147483648) ∧ (((x1 = (-2 : Int)) → P x1 d2 e3) ∧ ((¬ x1 = (-2 : Int)) → yV D 139 L [.ref 1, .int (xJ x1)] d2 e3 (fun d5 e6 => P x1 d5 e6)))))) : yB D xm_c137 (yQi L P) L 0 [.ref 1, .double 0] [] d e := by
  refine yb_aload rfl rfl ?_
  refine yb_get (v := .ref 127) rfl (by decide) (by decide) (rfl) rfl ?_
  refine yb_aload rfl rfl ?_
  refine yb_get (v := .ref 11) rfl (by decide) (by decide) (rfl) rfl ?_
  refine yb_aload rfl rfl ?_
  refine yb_get (v := .ref 6) rfl (by decide) (by decide) (rfl) rfl ?_
  refine yb_get (v := .int (xJ (d 6 (4 : Int)))) rfl (by decide) (by decide) (rfl) rfl ?_
  refine yb_callVi (As := [.ref 11, .int (xJ (d 6 (4 : Int)))]) (a := 127) rfl rfl rfl rfl rfl rfl rfl rfl (by decide) (by decide) (rfl) (by decide) (yC_mono h (fun x1 d2 e3 h => ?_))
  refine yb_istore rfl rfl rfl ?_
  refine yb_iload (x := x1) rfl rfl ?_
  refine yb_push (v := (-2)) rfl ?_
  have r4 := h.1
  replace h := h.2
  refine yb_icmp_eq (x := x1) (y := (-2 : Int)) rfl rfl r4 (by decide) (fun c => ?_) (fun c => ?_)
  · replace h := h.1 c
    refine yb_iload (x := x1) rfl rfl ?_
    exact yb_ret rfl h
  · replace h := h.2 c
    refine yb_aload rfl rfl ?_
    refine yb_iload (x := x1) rfl rfl ?_
    refine yb_callVv (As := [.int (xJ x1)]) (a := 1) rfl rfl rfl rfl rfl rfl rfl rfl (by decide) (by decide) (rfl) (by decide) (yV_mono h (fun d5 e6 h => ?_))
    refine yb_iload (x := x1) rfl rfl ?_
    exact yb_ret rfl h
theorem yk_138_0 {D L : Nat} {P : Int → xh_D → xd_E → Prop} {d : xh_D} {e : xd_E}    (h : yC D 70 L [.ref 127, .ref 11, .int (xJ (d 6 (4 : Int)))] d e (fun x1 d2 e3 => ((-2147483648 ≤ x1 ∧ x1 < 2147483648) ∧ (((¬ x1 = (-2 : Int)) → yV D 139 L [.ref 1, .int (xJ x1)] d2 e3 (fun d5 e6 => (((x1 ≤ 0) → yB D xm_c138 (yQi L P) L 26 [.ref 1, .int (xJ x1), .int (xJ (0 : Int))] [] d5 e6) ∧ ((¬ x1 ≤ 0) → yV D 17 L [.ref 23, .ref 11] d5 e6 (fun d7 e8 => yB D xm_c138 (yQi L P) L 26 [.ref 1, .int (xJ x1), .int (xJ (0 : Int))] [] d7 e8))))) ∧ ((x1 = (-2 : Int)) → P (-2 : Int) d2 e3))))) : yB D xm_c138 (yQi L P) L 0 [.ref 1, .double 0, .double 0] [] d e := by
  refine yb_aload rfl rfl ?_
  refine yb_get (v := .ref 127) rfl (by decide) (by decide) (rfl) rfl ?_
  refine yb_aload rfl rfl ?_
  refine yb_get (v := .ref 11) rfl (by decide) (by decide) (rfl) rfl ?_
  refine yb_aload rfl rfl ?_
  refine yb_get (v := .ref 6) rfl (by decide) (by decide) (rfl) rfl ?_
  refine yb_get (v := .int (xJ (d 6 (4 : Int)))) rfl (by decide) (by decide) (rfl) rfl ?_
  refine yb_callVi (As := [.ref 11, .int (xJ (d 6 (4 : Int)))]) (a := 127) rfl rfl rfl rfl rfl rfl rfl rfl (by decide) (by decide) (rfl) (by decide) (yC_mono h (fun x1 d2 e3 h => ?_))
  refine yb_istore rfl rfl rfl ?_
  refine yb_iload (x := x1) rfl rfl ?_
  refine yb_push (v := (-2)) rfl ?_
  have r4 := h.1
  replace h := h.2
  refine yb_icmp_ne (x := x1) (y := (-2 : Int)) rfl rfl r4 (by decide) (fun c => ?_) (fun c => ?_)
  · replace h := h.1 c
    refine yb_aload rfl rfl ?_
    refine yb_iload (x := x1) rfl rfl ?_
    refine yb_callVv (As := [.int (xJ x1)]) (a := 1) rfl rfl rfl rfl rfl rfl rfl rfl (by decide) (by decide) (rfl) (by decide) (yV_mono h (fun d5 e6 h => ?_))
    refine yb_iload (x := x1) rfl rfl ?_
    refine yb_if_le (x := x1) rfl rfl r4 (fun c => ?_) (fun c => ?_)
    · replace h := h.1 c
      refine yb_push (v := 0) rfl ?_
      refine yb_istore rfl rfl rfl ?_
      exact h
    · replace h := h.2 c
      refine yb_aload rfl rfl ?_
      refine yb_get (v := .ref 23) rfl (by decide) (by decide) (rfl) rfl ?_
      refine yb_aload rfl rfl ?_
      refine yb_get (v := .ref 11) rfl (by decide) (by decide) (rfl) rfl ?_
      refine yb_callVv (As := [.ref 11]) (a := 23) rfl rfl rfl rfl rfl rfl rfl rfl (by decide) (by decide) (rfl) (by decide) (yV_mono h (fun d7 e8 h => ?_))
      refine yb_push (v := 0) rfl ?_
      refine yb_istore rfl rfl rfl ?_
      exact h
  · replace h := h.2 c
    refine yb_push (v := (-2)) rfl ?_
    exact yb_ret rfl h
theorem yk_138_26 {D L : Nat} {P : Int → xh_D → xd_E → Prop} {d : xh_D} {e : xd_E}  {l1 : Int} {l2 : Int}  (h : ((-2147483648 ≤ l2 ∧ l2 < 2147483648) ∧ ((-2147483648 ≤ l1 ∧ l1 < 2147483648) ∧ (((l1 ≤ l2) → P l1 d e) ∧ ((¬ l1 ≤ l2) → ((0 ≤ l2 ∧ l2 < 2) ∧ ((0 ≤ (d 134 l2) ∧ (d 134 l2) < 9) ∧ yB D xm_c138 (yQi L P) L 26 [.ref 1, .int (xJ l1), .int (xJ (l2 + 1))] [] (xs d 12 (d 134 l2) (d 135 l2)) e))))))) : yB D xm_c138 (yQi L P) L 26 [.ref 1, .int (xJ l1), .int (xJ l2)] [] d e := by
  refine yb_iload (x := l2) rfl rfl ?_
  refine yb_iload (x := l1) rfl rfl ?_
  have r1 := h.1
  replace h := h.2
  have r2 := h.1
  replace h := h.2
  refine yb_icmp_ge (x := l2) (y := l1) rfl rfl r1 r2 (fun c => ?_) (fun c => ?_)
  · replace h := h.1 c
    refine yb_iload (x := l1) rfl rfl ?_
    exact yb_ret rfl h
  · replace h := h.2 c
    refine yb_aload rfl rfl ?_
    refine yb_get (v := .ref 11) rfl (by decide) (by decide) (rfl) rfl ?_
    refine yb_get (v := .ref 12) rfl (by decide) (by decide) (rfl) rfl ?_
    refine yb_aload rfl rfl ?_
    refine yb_get (v := .ref 127) rfl (by decide) (by decide) (rfl) rfl ?_
    refine yb_get (v := .ref 134) rfl (by decide) (by decide) (rfl) rfl ?_
    refine yb_iload (x := l2) rfl rfl ?_
    have r3 := h.1
    replace h := h.2
    refine yb_iald (j := l2) rfl xd_A134 (by decide) r3 (v := (d 134 l2)) rfl ?_
    refine yb_aload rfl rfl ?_
    refine yb_get (v := .ref 127) rfl (by decide) (by decide) (rfl) rfl ?_
    refine yb_get (v := .ref 135) rfl (by decide) (by decide) (rfl) rfl ?_
    refine yb_iload (x := l2) rfl rfl ?_
    refine yb_iald (j := l2) rfl xd_A135 (by decide) r3 (v := (d 135 l2)) rfl ?_
    have r4 := h.1
    replace h := h.2
    refine yb_iast (j := (d 134 l2)) (x := (d 135 l2)) rfl xd_A12 (by decide) r4 ?_
    refine yb_iinc (x := l2) (n := 1) rfl rfl rfl rfl ?_
    refine yb_goto rfl rfl ?_
    exact h
theorem yk_139_0 {D L : Nat} {P : xh_D → xd_E → Prop} {d : xh_D} {e : xd_E} {a1 : Int}   (hD : 1 ≤ D) (h : yB D xm_c139 (yQv L P) L 5 [.ref 1, .int (xJ a1), .int (xJ (0 : Int))] [] (xs d 4 (1 : Int) (0 : Int)) e) : yB D xm_c139 (yQv L P) L 0 [.ref 1, .int (xJ a1), .double 0] [] d e := by
  refine yb_aload rfl rfl ?_
  refine yb_get (v := .ref 4) rfl (by decide) (by decide) (rfl) rfl ?_
  refine yb_callVv (As := []) (a := 4) rfl rfl rfl rfl rfl rfl rfl rfl (by decide) (by decide) (rfl) (by decide) (sp_31 (by omega) ?_)
  show yB D xm_c139 _ L 3 [.ref 1, .int (xJ a1), .double 0] [] (xs d 4 (1 : Int) (0 : Int)) e
  refine yb_push (v := 0) rfl ?_
  refine yb_istore rfl rfl rfl ?_
  exact h
theorem yk_139_5 {D L : Nat} {P : xh_D → xd_E → Prop} {d : xh_D} {e : xd_E}  {l1 : Int} {l2 : Int}  (hD : 1 ≤ D) (h : ((-2147483648 ≤ l2 ∧ l2 < 2147483648) ∧ ((-2147483648 ≤ l1 ∧ l1 < 2147483648) ∧ (((l1 ≤ l2) → P d e) ∧ ((¬ l1 ≤ l2) → ((0 ≤ l2 ∧ l2 < 2) ∧ ((0 ≤ (d 4 (1 : Int)) ∧ (d 4 (1 : Int)) < 12) ∧ ((0 ≤ ((d 4 (1 : Int)) + 1) ∧ ((d 4 (1 : Int)) + 1) < 12) ∧ yB D xm_c139 (yQv L P) L 5 [.ref 1, .int (xJ l1), .int (xJ (l2 + 1))] [] (xs (xs (xs (xs d 5 (d 4 (1 : Int)) (d 134 l2)) 4 (1 : Int) ((d 4 (1 : Int)) + 1)) 5 ((d 4 (1 : Int)) + 1) (d 135 l2)) 4 (1 : Int) (((d 4 (1 : Int)) + 1) + 1)) e)))))))) : yB D xm_c139 (yQv L P) L 5 [.ref 1, .int (xJ l1), .int (xJ l2)] [] d e := by
  refine yb_iload (x := l2) rfl rfl ?_
  refine yb_iload (x := l1) rfl rfl ?_
  have r1 := h.1
  replace h := h.2
  have r2 := h.1
  replace h := h.2
  refine yb_icmp_ge (x := l2) (y := l1) rfl rfl r1 r2 (fun c => ?_) (fun c => ?_)
  · replace h := h.1 c
    exact yb_retv rfl h
  · replace h := h.2 c
    refine yb_aload rfl rfl ?_
    refine yb_get (v := .ref 4) rfl (by decide) (by decide) (rfl) rfl ?_
    refine yb_aload rfl rfl ?_
    refine yb_get (v := .ref 127) rfl (by decide) (by decide) (rfl) rfl ?_
    refine yb_get (v := .ref 134) rfl (by decide) (by decide) (rfl) rfl ?_
    refine yb_iload (x := l2) rfl rfl ?_
    have r3 := h.1
    replace h := h.2
    refine yb_iald (j := l2) rfl xd_A134 (by decide) r3 (v := (d 134 l2)) rfl ?_
    have r4 := h.1
    replace h := h.2
    refine yb_callVv (As := [.int (xJ (d 134 l2))]) (a := 4) rfl rfl rfl rfl rfl rfl rfl rfl (by decide) (by decide) (rfl) (by decide) (sp_32 (by omega) r4 ?_)
    show yB D xm_c139 _ L 16 [.ref 1, .int (xJ l1), .int (xJ l2)] [] (xs (xs d 5 (d 4 (1 : Int)) (d 134 l2)) 4 (1 : Int) ((d 4 (1 : Int)) + 1)) e
    refine yb_aload rfl rfl ?_
    refine yb_get (v := .ref 4) rfl (by decide) (by decide) (rfl) rfl ?_
    refine yb_aload rfl rfl ?_
    refine yb_get (v := .ref 127) rfl (by decide) (by decide) (rfl) rfl ?_
    refine yb_get (v := .ref 135) rfl (by decide) (by decide) (rfl) rfl ?_
    refine yb_iload (x := l2) rfl rfl ?_
    refine yb_iald (j := l2) rfl xd_A135 (by decide) r3 (v := (d 135 l2)) ((xs_np (by decide)).trans (xs_np (by decide))) ?_
    have r5 := h.1
    replace h := h.2
    refine yb_callVv (As := [.int (xJ (d 135 l2))]) (a := 4) rfl rfl rfl rfl rfl rfl rfl rfl (by decide) (by decide) (rfl) (by decide) (sp_32 (by omega) r5 ?_)
    show yB D xm_c139 _ L 24 [.ref 1, .int (xJ l1), .int (xJ l2)] [] (xs (xs (xs (xs d 5 (d 4 (1 : Int)) (d 134 l2)) 4 (1 : Int) ((d 4 (1 : Int)) + 1)) 5 ((d 4 (1 : Int)) + 1) (d 135 l2)) 4 (1 : Int) (((d 4 (1 : Int)) + 1) + 1)) e
    refine yb_iinc (x := l2) (n := 1) rfl rfl rfl rfl ?_
    refine yb_goto rfl rfl ?_
    exact h
theorem yk_140_0 {D L : Nat} {P : Int → xh_D → xd_E → Prop} {d : xh_D} {e : xd_E} {a1 : Int}   (h : ((-2147483648 ≤ a1 ∧ a1 < 2147483648) ∧ (((a1 < 0) → P (-1 : Int) d e) ∧ ((¬ a1 < 0) → (((a1 < (64 : Int)) → yV D 63 L [.ref 127, .ref 11, .int (xJ (d 6 (4 : Int)))] d e (fun d2 e3 => yB D xm_c140 (yQi L P) L 19 [.ref 1, .int (xJ a1), .int (xJ (0 : Int)), .int (xJ (0 : Int)), .double 0, .double 0, .double 0, .double 0] [] d2 e3)) ∧ ((¬ a1 < (64 : Int)) → P (-1 : Int) d e)))))) : yB D xm_c140 (yQi L P) L 0 [.ref 1, .int (xJ a1), .double 0, .double 0, .double 0, .double 0, .double 0, .double 0] [] d e := by
  refine yb_iload (x := a1) rfl rfl ?_
  have r1 := h.1
  replace h := h.2
  refine yb_if_lt (x := a1) rfl rfl r1 (fun c => ?_) (fun c => ?_)
  · replace h := h.1 c
    refine yb_push (v := (-1)) rfl ?_
    exact yb_ret rfl h
  · replace h := h.2 c
    refine yb_iload (x := a1) rfl rfl ?_
    refine yb_push (v := 64) rfl ?_
    refine yb_icmp_lt (x := a1) (y := (64 : Int)) rfl rfl r1 (by decide) (fun c => ?_) (fun c => ?_)
    · replace h := h.1 c
      refine yb_aload rfl rfl ?_
      refine yb_get (v := .ref 127) rfl (by decide) (by decide) (rfl) rfl ?_
      refine yb_aload rfl rfl ?_
      refine yb_get (v := .ref 11) rfl (by decide) (by decide) (rfl) rfl ?_
      refine yb_aload rfl rfl ?_
      refine yb_get (v := .ref 6) rfl (by decide) (by decide) (rfl) rfl ?_
      refine yb_get (v := .int (xJ (d 6 (4 : Int)))) rfl (by decide) (by decide) (rfl) rfl ?_
      refine yb_callVv (As := [.ref 11, .int (xJ (d 6 (4 : Int)))]) (a := 127) rfl rfl rfl rfl rfl rfl rfl rfl (by decide) (by decide) (rfl) (by decide) (yV_mono h (fun d2 e3 h => ?_))
      refine yb_push (v := 0) rfl ?_
      refine yb_istore rfl rfl rfl ?_
      refine yb_push (v := 0) rfl ?_
      refine yb_istore rfl rfl rfl ?_
      exact h
    · replace h := h.2 c
      refine yb_push (v := (-1)) rfl ?_
      exact yb_ret rfl h
theorem yk_140_19 {D L : Nat} {P : Int → xh_D → xd_E → Prop} {d : xh_D} {e : xd_E}  {l1 : Int} {l2 : Int} {l3 : Int}  (hD : 1 ≤ D) (h : ((-2147483648 ≤ l3 ∧ l3 < 2147483648) ∧ ((((9 : Int) ≤ l3) → yB D xm_c140 (yQi L P) L 41 [.ref 1, .int (xJ l1), .int (xJ l2), .int (xJ (-1 : Int)), .int (xJ (0 : Int)), .int (xJ (0 : Int)), .double 0, .double 0] [] d e) ∧ ((¬ (9 : Int) ≤ l3) → ((0 ≤ l3 ∧ l3 < 9) ∧ yC D 66 L [.ref 127, .int (xJ (xi_and (d 127 (9 : Int)) (xi_xor (d 133 l3) (-1 : Int)))), .int (xJ l1)] d e (fun x3 d4 e5 => yB D xm_c140 (yQi L P) L 19 [.ref 1, .int (xJ l1), .int (xJ (l2 + x3)), .int (xJ (l3 + 1)), .double 0, .double 0, .double 0, .double 0] [] d4 e5)))))) : yB D xm_c140 (yQi L P) L 19 [.ref 1, .int (xJ l1), .int (xJ l2), .int (xJ l3), .double 0, .double 0, .double 0, .double 0] [] d e := by
  refine yb_iload (x := l3) rfl rfl ?_
  refine yb_push (v := 9) rfl ?_
  have r1 := h.1
  replace h := h.2
  refine yb_icmp_ge (x := l3) (y := (9 : Int)) rfl rfl r1 (by decide) (fun c => ?_) (fun c => ?_)
  · replace h := h.1 c
    refine yb_push (v := (-1)) rfl ?_
    refine yb_istore rfl rfl rfl ?_
    refine yb_push (v := 0) rfl ?_
    refine yb_istore rfl rfl rfl ?_
    refine yb_push (v := 0) rfl ?_
    refine yb_istore rfl rfl rfl ?_
    exact h
  · replace h := h.2 c
    refine yb_iload (x := l2) rfl rfl ?_
    refine yb_aload rfl rfl ?_
    refine yb_get (v := .ref 127) rfl (by decide) (by decide) (rfl) rfl ?_
    refine yb_aload rfl rfl ?_
    refine yb_get (v := .ref 127) rfl (by decide) (by decide) (rfl) rfl ?_
    refine yb_iload (x := l3) rfl rfl ?_
    have r2 := h.1
    replace h := h.2
    refine yb_callVi (As := [.int (xJ l3)]) (a := 127) rfl rfl rfl rfl rfl rfl rfl rfl (by decide) (by decide) (rfl) (by show (2 : Nat) ≤ 8; decide) (sp_64 (by omega) r2 ?_)
    show yB D xm_c140 _ L 29 [.ref 1, .int (xJ l1), .int (xJ l2), .int (xJ l3), .double 0, .double 0, .double 0, .double 0] [.int (xJ (xi_and (d 127 (9 : Int)) (xi_xor (d 133 l3) (-1 : Int)))), .ref 127, .int (xJ l2)] d e
    refine yb_iload (x := l1) rfl rfl ?_
    refine yb_callVi (As := [.int (xJ (xi_and (d 127 (9 : Int)) (xi_xor (d 133 l3) (-1 : Int)))), .int (xJ l1)]) (a := 127) rfl rfl rfl rfl rfl rfl rfl rfl (by decide) (by decide) (rfl) (by show (1 : Nat) ≤ 8; decide) (yC_mono h (fun x3 d4 e5 h => ?_))
    refine yb_iadd (x := l2) (y := x3) rfl ?_
    refine yb_istore rfl rfl rfl ?_
    refine yb_iinc (x := l3) (n := 1) rfl rfl rfl rfl ?_
    refine yb_goto rfl rfl ?_
    exact h
theorem yk_140_41 {D L : Nat} {P : Int → xh_D → xd_E → Prop} {d : xh_D} {e : xd_E}  {l1 : Int} {l2 : Int} {l3 : Int} {l4 : Int} {l5 : Int}  (hD : 1 ≤ D) (h : ((-2147483648 ≤ l5 ∧ l5 < 2147483648) ∧ ((((9 : Int) ≤ l5) → P l3 (xs (xs (xs d 4 (1 : Int) (0 : Int)) 5 (0 : Int) l4) 4 (1 : Int) (1 : Int)) e) ∧ ((¬ (9 : Int) ≤ l5) → ((0 ≤ l5 ∧ l5 < 9) ∧ (∀ v3, v3 = (xi_and (d 127 (9 : Int)) (xi_xor (d 133 l5) (-1 : Int))) → yC D 66 L [.ref 127, .int (xJ v3), .int (xJ l1)] d e (fun x4 d5 e6 => yC D 65 L [.ref 127, .int (xJ v3)] d5 e6 (fun x7 d8 e9 => ((-2147483648 ≤ l3 ∧ l3 < 2147483648) ∧ (((l3 = (-1 : Int)) → yB D xm_c140 (yQi L P) L 41 [.ref 1, .int (xJ l1), .int (xJ l2), .int (xJ l5), .int (xJ ((l2 - x4) + x7)), .int (xJ (l5 + 1)), .double 0, .double 0] [] d8 e9) ∧ ((¬ l3 = (-1 : Int)) → ((-2147483648 ≤ ((l2 - x4) + x7) ∧ ((l2 - x4) + x7) < 2147483648) ∧ ((-2147483648 ≤ l4 ∧ l4 < 2147483648) ∧ (((l4 ≤ ((l2 - x4) + x7)) → yB D xm_c140 (yQi L P) L 41 [.ref 1, .int (xJ l1), .int (xJ l2), .int (xJ l3), .int (xJ l4), .int (xJ (l5 + 1)), .double 0, .double 0] [] d8 e9) ∧ ((¬ l4 ≤ ((l2 - x4) + x7)) → yB D xm_c140 (yQi L P) L 41 [.ref 1, .int (xJ l1), .int (xJ l2), .int (xJ l5), .int (xJ ((l2 - x4) + x7)), .int (xJ (l5 + 1)), .double 0, .double 0] [] d8 e9))))))))))))))) : yB D xm_c140 (yQi L P) L 41 [.ref 1, .int (xJ l1), .int (xJ l2), .int (xJ l3), .int (xJ l4), .int (xJ l5), .double 0, .double 0] [] d e := by
  refine yb_iload (x := l5) rfl rfl ?_
  refine yb_push (v := 9) rfl ?_
  have r1 := h.1
  replace h := h.2
  refine yb_icmp_ge (x := l5) (y := (9 : Int)) rfl rfl r1 (by decide) (fun c => ?_) (fun c => ?_)
  · replace h := h.1 c
    refine yb_aload rfl rfl ?_
    refine yb_get (v := .ref 4) rfl (by decide) (by decide) (rfl) rfl ?_
    refine yb_callVv (As := []) (a := 4) rfl rfl rfl rfl rfl rfl rfl rfl (by decide) (by decide) (rfl) (by decide) (sp_31 (by omega) ?_)
    show yB D xm_c140 _ L 77 [.ref 1, .int (xJ l1), .int (xJ l2), .int (xJ l3), .int (xJ l4), .int (xJ l5), .double 0, .double 0] [] (xs d 4 (1 : Int) (0 : Int)) e
    refine yb_aload rfl rfl ?_
    refine yb_get (v := .ref 4) rfl (by decide) (by decide) (rfl) rfl ?_
    refine yb_iload (x := l4) rfl rfl ?_
    refine yb_callVv (As := [.int (xJ l4)]) (a := 4) rfl rfl rfl rfl rfl rfl rfl rfl (by decide) (by decide) (rfl) (by decide) (sp_32 (by omega) (by show (0 ≤ (0 : Int) ∧ (0 : Int) < 12); decide) ?_)
    show yB D xm_c140 _ L 81 [.ref 1, .int (xJ l1), .int (xJ l2), .int (xJ l3), .int (xJ l4), .int (xJ l5), .double 0, .double 0] [] (xs (xs (xs d 4 (1 : Int) (0 : Int)) 5 (0 : Int) l4) 4 (1 : Int) (1 : Int)) e
    refine yb_iload (x := l3) rfl rfl ?_
    exact yb_ret rfl h
  · replace h := h.2 c
    refine yb_aload rfl rfl ?_
    refine yb_get (v := .ref 127) rfl (by decide) (by decide) (rfl) rfl ?_
    refine yb_iload (x := l5) rfl rfl ?_
    have r2 := h.1
    replace h := h.2
    refine yb_callVi (As := [.int (xJ l5)]) (a := 127) rfl rfl rfl rfl rfl rfl rfl rfl (by decide) (by decide) (rfl) (by decide) (sp_64 (by omega) r2 ?_)
    show yB D xm_c140 _ L 48 [.ref 1, .int (xJ l1), .int (xJ l2), .int (xJ l3), .int (xJ l4), .int (xJ l5), .double 0, .double 0] [.int (xJ (xi_and (d 127 (9 : Int)) (xi_xor (d 133 l5) (-1 : Int))))] d e
    replace h := h _ rfl
    refine yb_istore rfl rfl rfl ?_
    refine yb_iload (x := l2) rfl rfl ?_
    refine yb_aload rfl rfl ?_
    refine yb_get (v := .ref 127) rfl (by decide) (by decide) (rfl) rfl ?_
    refine yb_iload (x := (xi_and (d 127 (9 : Int)) (xi_xor (d 133 l5) (-1 : Int)))) rfl rfl ?_
    refine yb_iload (x := l1) rfl rfl ?_
    refine yb_callVi (As := [.int (xJ (xi_and (d 127 (9 : Int)) (xi_xor (d 133 l5) (-1 : Int)))), .int (xJ l1)]) (a := 127) rfl rfl rfl rfl rfl rfl rfl rfl (by decide) (by decide) (rfl) (by show (1 : Nat) ≤ 8; decide) (yC_mono h (fun x4 d5 e6 h => ?_))
    refine yb_isub (x := l2) (y := x4) rfl ?_
    refine yb_aload rfl rfl ?_
    refine yb_get (v := .ref 127) rfl (by decide) (by decide) (rfl) rfl ?_
    refine yb_iload (x := (xi_and (d 127 (9 : Int)) (xi_xor (d 133 l5) (-1 : Int)))) rfl rfl ?_
    refine yb_callVi (As := [.int (xJ (xi_and (d 127 (9 : Int)) (xi_xor (d 133 l5) (-1 : Int))))]) (a := 127) rfl rfl rfl rfl rfl rfl rfl rfl (by decide) (by decide) (rfl) (by show (1 : Nat) ≤ 8; decide) (yC_mono h (fun x7 d8 e9 h => ?_))
    refine yb_iadd (x := (l2 - x4)) (y := x7) rfl ?_
    refine yb_istore rfl rfl rfl ?_
    refine yb_iload (x := l3) rfl rfl ?_
    refine yb_push (v := (-1)) rfl ?_
    have r10 := h.1
    replace h := h.2
    refine yb_icmp_eq (x := l3) (y := (-1 : Int)) rfl rfl r10 (by decide) (fun c => ?_) (fun c => ?_)
    · replace h := h.1 c
      refine yb_iload (x := ((l2 - x4) + x7)) rfl rfl ?_
      refine yb_istore rfl rfl rfl ?_
      refine yb_iload (x := l5) rfl rfl ?_
      refine yb_istore rfl rfl rfl ?_
      refine yb_iinc (x := l5) (n := 1) rfl rfl rfl rfl ?_
      refine yb_goto rfl rfl ?_
      refine yb_forget (dl := [.ref 1, .int (xJ l1), .int (xJ l2), .int (xJ l5), .int (xJ ((l2 - x4) + x7)), .int (xJ (l5 + 1)), .double 0, .double 0]) ⟨Or.inl rfl, ⟨Or.inl rfl, ⟨Or.inl rfl, ⟨Or.inl rfl, ⟨Or.inl rfl, ⟨Or.inl rfl, ⟨Or.inr ⟨rfl, rfl⟩, ⟨Or.inr ⟨rfl, rfl⟩, trivial⟩⟩⟩⟩⟩⟩⟩⟩ ?_
      exact h
    · replace h := h.2 c
      refine yb_iload (x := ((l2 - x4) + x7)) rfl rfl ?_
      refine yb_iload (x := l4) rfl rfl ?_
      have r11 := h.1
      replace h := h.2
      have r12 := h.1
      replace h := h.2
      refine yb_icmp_ge (x := ((l2 - x4) + x7)) (y := l4) rfl rfl r11 r12 (fun c => ?_) (fun c => ?_)
      · replace h := h.1 c
        refine yb_iinc (x := l5) (n := 1) rfl rfl rfl rfl ?_
        refine yb_goto rfl rfl ?_
        refine yb_forget (dl := [.ref 1, .int (xJ l1), .int (xJ l2), .int (xJ l3), .int (xJ l4), .int (xJ (l5 + 1)), .double 0, .double 0]) ⟨Or.inl rfl, ⟨Or.inl rfl, ⟨Or.inl rfl, ⟨Or.inl rfl, ⟨Or.inl rfl, ⟨Or.inl rfl, ⟨Or.inr ⟨rfl, rfl⟩, ⟨Or.inr ⟨rfl, rfl⟩, trivial⟩⟩⟩⟩⟩⟩⟩⟩ ?_
        exact h
      · replace h := h.2 c
        refine yb_iload (x := ((l2 - x4) + x7)) rfl rfl ?_
        refine yb_istore rfl rfl rfl ?_
        refine yb_iload (x := l5) rfl rfl ?_
        refine yb_istore rfl rfl rfl ?_
        refine yb_iinc (x := l5) (n := 1) rfl rfl rfl rfl ?_
        refine yb_goto rfl rfl ?_
        refine yb_forget (dl := [.ref 1, .int (xJ l1), .int (xJ l2), .int (xJ l5), .int (xJ ((l2 - x4) + x7)), .int (xJ (l5 + 1)), .double 0, .double 0]) ⟨Or.inl rfl, ⟨Or.inl rfl, ⟨Or.inl rfl, ⟨Or.inl rfl, ⟨Or.inl rfl, ⟨Or.inl rfl, ⟨Or.inr ⟨rfl, rfl⟩, ⟨Or.inr ⟨rfl, rfl⟩, trivial⟩⟩⟩⟩⟩⟩⟩⟩ ?_
        exact h
theorem yk_141_0 {D L : Nat} {P : Int → xh_D → xd_E → Prop} {d : xh_D} {e : xd_E}    (h : yV D 63 L [.ref 127, .ref 11, .int (xJ (d 6 (4 : Int)))] d e (fun d1 e2 => yC D 67 L [.ref 127] d1 e2 (fun x3 d4 e5 => yB D xm_c141 (yQi L P) L 16 [.ref 1, .int (xJ x3), .int (xJ (0 : Int)), .int (xJ (0 : Int))] [] d4 e5))) : yB D xm_c141 (yQi L P) L 0 [.ref 1, .double 0, .double 0, .double 0] [] d e := by
  refine yb_aload rfl rfl ?_
  refine yb_get (v := .ref 127) rfl (by decide) (by decide) (rfl) rfl ?_
  refine yb_aload rfl rfl ?_
  refine yb_get (v := .ref 11) rfl (by decide) (by decide) (rfl) rfl ?_
  refine yb_aload rfl rfl ?_
  refine yb_get (v := .ref 6) rfl (by decide) (by decide) (rfl) rfl ?_
  refine yb_get (v := .int (xJ (d 6 (4 : Int)))) rfl (by decide) (by decide) (rfl) rfl ?_
  refine yb_callVv (As := [.ref 11, .int (xJ (d 6 (4 : Int)))]) (a := 127) rfl rfl rfl rfl rfl rfl rfl rfl (by decide) (by decide) (rfl) (by decide) (yV_mono h (fun d1 e2 h => ?_))
  refine yb_aload rfl rfl ?_
  refine yb_get (v := .ref 127) rfl (by decide) (by decide) (rfl) rfl ?_
  refine yb_callVi (As := []) (a := 127) rfl rfl rfl rfl rfl rfl rfl rfl (by decide) (by decide) (rfl) (by decide) (yC_mono h (fun x3 d4 e5 h => ?_))
  refine yb_istore rfl rfl rfl ?_
  refine yb_push (v := 0) rfl ?_
  refine yb_istore rfl rfl rfl ?_
  refine yb_push (v := 0) rfl ?_
  refine yb_istore rfl rfl rfl ?_
  exact h
theorem yk_141_16 {D L : Nat} {P : Int → xh_D → xd_E → Prop} {d : xh_D} {e : xd_E}  {l1 : Int} {l2 : Int} {l3 : Int}  (h : ((-2147483648 ≤ l3 ∧ l3 < 2147483648) ∧ ((-2147483648 ≤ (d 6 (4 : Int)) ∧ (d 6 (4 : Int)) < 2147483648) ∧ ((((d 6 (4 : Int)) ≤ l3) → P l2 d e) ∧ ((¬ (d 6 (4 : Int)) ≤ l3) → yC D 67 L [.ref 127] (xs d 127 (9 : Int) (xi_xor (d 127 (9 : Int)) (xi_shl (1 : Int) l3))) e (fun x3 d4 e5 => ((-2147483648 ≤ x3 ∧ x3 < 2147483648) ∧ ((-2147483648 ≤ l1 ∧ l1 < 2147483648) ∧ (((x3 ≤ l1) → yB D xm_c141 (yQi L P) L 16 [.ref 1, .int (xJ l1), .int (xJ (xi_or l2 (0 : Int))), .int (xJ (l3 + 1))] [] (xs d4 127 (9 : Int) (xi_xor (d4 127 (9 : Int)) (xi_shl (1 : Int) l3))) e5) ∧ ((¬ x3 ≤ l1) → yB D xm_c141 (yQi L P) L 16 [.ref 1, .int (xJ l1), .int (xJ (xi_or l2 (xi_shl (1 : Int) l3))), .int (xJ (l3 + 1))] [] (xs d4 127 (9 : Int) (xi_xor (d4 127 (9 : Int)) (xi_shl (1 : Int) l3))) e5)))))))))) : yB D xm_c141 (yQi L P) L 16 [.ref 1, .int (xJ l1), .int (xJ l2), .int (xJ l3)] [] d e := by
  refine yb_iload (x := l3) rfl rfl ?_
  refine yb_aload rfl rfl ?_
  refine yb_get (v := .ref 6) rfl (by decide) (by decide) (rfl) rfl ?_
  refine yb_get (v := .int (xJ (d 6 (4 : Int)))) rfl (by decide) (by decide) (rfl) rfl ?_
  have r1 := h.1
  replace h := h.2
  have r2 := h.1
  replace h := h.2
  refine yb_icmp_ge (x := l3) (y := (d 6 (4 : Int))) rfl rfl r1 r2 (fun c => ?_) (fun c => ?_)
  · replace h := h.1 c
    refine yb_iload (x := l2) rfl rfl ?_
    exact yb_ret rfl h
  · replace h := h.2 c
    refine yb_aload rfl rfl ?_
    refine yb_get (v := .ref 127) rfl (by decide) (by decide) (rfl) rfl ?_
    refine yb_dup rfl rfl ?_
    refine yb_get (v := .int (xJ (d 127 (9 : Int)))) rfl (by decide) (by decide) (rfl) rfl ?_
    refine yb_push (v := 1) rfl ?_
    refine yb_iload (x := l3) rfl rfl ?_
    refine yb_ishl (x := (1 : Int)) (y := l3) rfl ?_
    refine yb_ixor (x := (d 127 (9 : Int))) (y := (xi_shl (1 : Int) l3)) rfl ?_
    refine yb_put (z := (xi_xor (d 127 (9 : Int)) (xi_shl (1 : Int) l3))) (k := 9) rfl rfl (by decide) (by decide) (rfl) (Nat.le_of_ble_eq_true rfl) rfl (rfl) ?_
    refine yb_iload (x := l2) rfl rfl ?_
    refine yb_aload rfl rfl ?_
    refine yb_get (v := .ref 127) rfl (by decide) (by decide) (rfl) rfl ?_
    refine yb_callVi (As := []) (a := 127) rfl rfl rfl rfl rfl rfl rfl rfl (by decide) (by decide) (rfl) (by show (1 : Nat) ≤ 8; decide) (yC_mono h (fun x3 d4 e5 h => ?_))
    refine yb_iload (x := l1) rfl rfl ?_
    have r6 := h.1
    replace h := h.2
    have r7 := h.1
    replace h := h.2
    refine yb_icmp_le (x := x3) (y := l1) rfl rfl r6 r7 (fun c => ?_) (fun c => ?_)
    · replace h := h.1 c
      refine yb_push (v := 0) rfl ?_
      refine yb_ior (x := l2) (y := (0 : Int)) rfl ?_
      refine yb_istore rfl rfl rfl ?_
      refine yb_aload rfl rfl ?_
      refine yb_get (v := .ref 127) rfl (by decide) (by decide) (rfl) rfl ?_
      refine yb_dup rfl rfl ?_
      refine yb_get (v := .int (xJ (d4 127 (9 : Int)))) rfl (by decide) (by decide) (rfl) rfl ?_
      refine yb_push (v := 1) rfl ?_
      refine yb_iload (x := l3) rfl rfl ?_
      refine yb_ishl (x := (1 : Int)) (y := l3) rfl ?_
      refine yb_ixor (x := (d4 127 (9 : Int))) (y := (xi_shl (1 : Int) l3)) rfl ?_
      refine yb_put (z := (xi_xor (d4 127 (9 : Int)) (xi_shl (1 : Int) l3))) (k := 9) rfl rfl (by decide) (by decide) (rfl) (Nat.le_of_ble_eq_true rfl) rfl (rfl) ?_
      refine yb_iinc (x := l3) (n := 1) rfl rfl rfl rfl ?_
      refine yb_goto rfl rfl ?_
      exact h
    · replace h := h.2 c
      refine yb_push (v := 1) rfl ?_
      refine yb_iload (x := l3) rfl rfl ?_
      refine yb_ishl (x := (1 : Int)) (y := l3) rfl ?_
      refine yb_goto rfl rfl ?_
      refine yb_ior (x := l2) (y := (xi_shl (1 : Int) l3)) rfl ?_
      refine yb_istore rfl rfl rfl ?_
      refine yb_aload rfl rfl ?_
      refine yb_get (v := .ref 127) rfl (by decide) (by decide) (rfl) rfl ?_
      refine yb_dup rfl rfl ?_
      refine yb_get (v := .int (xJ (d4 127 (9 : Int)))) rfl (by decide) (by decide) (rfl) rfl ?_
      refine yb_push (v := 1) rfl ?_
      refine yb_iload (x := l3) rfl rfl ?_
      refine yb_ishl (x := (1 : Int)) (y := l3) rfl ?_
      refine yb_ixor (x := (d4 127 (9 : Int))) (y := (xi_shl (1 : Int) l3)) rfl ?_
      refine yb_put (z := (xi_xor (d4 127 (9 : Int)) (xi_shl (1 : Int) l3))) (k := 9) rfl rfl (by decide) (by decide) (rfl) (Nat.le_of_ble_eq_true rfl) rfl (rfl) ?_
      refine yb_iinc (x := l3) (n := 1) rfl rfl rfl rfl ?_
      refine yb_goto rfl rfl ?_
      exact h
theorem yk_143_0 {D L : Nat} {P : Int → xh_D → xd_E → Prop} {d : xh_D} {e : xd_E} {a1 : Int} {a2 : Int} {a3 : Int}   (hD : 1 ≤ D) (h : ((-2147483648 ≤ a1 ∧ a1 < 2147483648) ∧ (((0 ≤ a1 ∧ a1 ≤ 8) → ((-2147483648 ≤ a2 ∧ a2 < 2147483648) ∧ (((0 ≤ a2 ∧ a2 ≤ 8) → ((-2147483648 ≤ a3 ∧ a3 < 2147483648) ∧ (((a3 < (1 : Int)) → P (-1 : Int) d e) ∧ ((¬ a3 < (1 : Int)) → (((a3 ≤ (3 : Int)) → yC D 52 L [.ref 11, .int (xJ a1), .int (xJ (0 : Int)), .int (xJ (d 6 (4 : Int)))] d e (fun x4 d5 e6 => yC D 52 L [.ref 11, .int (xJ a2), .int (xJ (0 : Int)), .int (xJ (d5 6 (4 : Int)))] d5 e6 (fun x7 d8 e9 => yB D xm_c143 (yQi L P) L 36 [.ref 1, .double 0, .double 0, .int (xJ a3), .int (xJ (xi_or x4 x7)), .int (xJ (0 : Int)), .int (xJ (0 : Int)), .double 0] [] d8 e9))) ∧ ((¬ a3 ≤ (3 : Int)) → P (-1 : Int) d e)))))) ∧ (¬ (0 ≤ a2 ∧ a2 ≤ 8) → P (-1 : Int) d e)))) ∧ (¬ (0 ≤ a1 ∧ a1 ≤ 8) → P (-1 : Int) d e)))) : yB D xm_c143 (yQi L P) L 0 [.ref 1, .int (xJ a1), .int (xJ a2), .int (xJ a3), .double 0, .double 0, .double 0, .double 0] [] d e := by
  refine yb_iload (x := a1) rfl rfl ?_
  have r1 := h.1
  replace h := h.2
  refine yb_callSz (As := [.int (xJ a1)]) rfl rfl rfl rfl rfl rfl rfl rfl (by decide) (sp_174 (by omega) r1 (fun c => ?_) (fun c => ?_))
  · replace h := h.1 c
    show yB D xm_c143 _ L 2 [.ref 1, .int (xJ a1), .int (xJ a2), .int (xJ a3), .double 0, .double 0, .double 0, .double 0] [.int (xJ (1 : Int))] d e
    refine yb_if_eq (x := (1 : Int)) rfl rfl (by decide) (fun c => absurd c (by decide)) (fun _ => ?_)
    refine yb_iload (x := a2) rfl rfl ?_
    have r2 := h.1
    replace h := h.2
    refine yb_callSz (As := [.int (xJ a2)]) rfl rfl rfl rfl rfl rfl rfl rfl (by decide) (sp_174 (by omega) r2 (fun c => ?_) (fun c => ?_))
    · replace h := h.1 c
      show yB D xm_c143 _ L 5 [.ref 1, .int (xJ a1), .int (xJ a2), .int (xJ a3), .double 0, .double 0, .double 0, .double 0] [.int (xJ (1 : Int))] d e
      refine yb_if_eq (x := (1 : Int)) rfl rfl (by decide) (fun c => absurd c (by decide)) (fun _ => ?_)
      refine yb_iload (x := a3) rfl rfl ?_
      refine yb_push (v := 1) rfl ?_
      have r3 := h.1
      replace h := h.2
      refine yb_icmp_lt (x := a3) (y := (1 : Int)) rfl rfl r3 (by decide) (fun c => ?_) (fun c => ?_)
      · replace h := h.1 c
        refine yb_push (v := (-1)) rfl ?_
        exact yb_ret rfl h
      · replace h := h.2 c
        refine yb_iload (x := a3) rfl rfl ?_
        refine yb_push (v := 3) rfl ?_
        refine yb_icmp_le (x := a3) (y := (3 : Int)) rfl rfl r3 (by decide) (fun c => ?_) (fun c => ?_)
        · replace h := h.1 c
          refine yb_aload rfl rfl ?_
          refine yb_get (v := .ref 11) rfl (by decide) (by decide) (rfl) rfl ?_
          refine yb_iload (x := a1) rfl rfl ?_
          refine yb_push (v := 0) rfl ?_
          refine yb_aload rfl rfl ?_
          refine yb_get (v := .ref 6) rfl (by decide) (by decide) (rfl) rfl ?_
          refine yb_get (v := .int (xJ (d 6 (4 : Int)))) rfl (by decide) (by decide) (rfl) rfl ?_
          refine yb_callVi (As := [.int (xJ a1), .int (xJ (0 : Int)), .int (xJ (d 6 (4 : Int)))]) (a := 11) rfl rfl rfl rfl rfl rfl rfl rfl (by decide) (by decide) (rfl) (by decide) (yC_mono h (fun x4 d5 e6 h => ?_))
          refine yb_aload rfl rfl ?_
          refine yb_get (v := .ref 11) rfl (by decide) (by decide) (rfl) rfl ?_
          refine yb_iload (x := a2) rfl rfl ?_
          refine yb_push (v := 0) rfl ?_
          refine yb_aload rfl rfl ?_
          refine yb_get (v := .ref 6) rfl (by decide) (by decide) (rfl) rfl ?_
          refine yb_get (v := .int (xJ (d5 6 (4 : Int)))) rfl (by decide) (by decide) (rfl) rfl ?_
          refine yb_callVi (As := [.int (xJ a2), .int (xJ (0 : Int)), .int (xJ (d5 6 (4 : Int)))]) (a := 11) rfl rfl rfl rfl rfl rfl rfl rfl (by decide) (by decide) (rfl) (by show (1 : Nat) ≤ 8; decide) (yC_mono h (fun x7 d8 e9 h => ?_))
          refine yb_ior (x := x4) (y := x7) rfl ?_
          refine yb_istore rfl rfl rfl ?_
          refine yb_push (v := 0) rfl ?_
          refine yb_istore rfl rfl rfl ?_
          refine yb_push (v := 0) rfl ?_
          refine yb_istore rfl rfl rfl ?_
          refine yb_forget (dl := [.ref 1, .double 0, .double 0, .int (xJ a3), .int (xJ (xi_or x4 x7)), .int (xJ (0 : Int)), .int (xJ (0 : Int)), .double 0]) ⟨Or.inl rfl, ⟨Or.inr ⟨rfl, rfl⟩, ⟨Or.inr ⟨rfl, rfl⟩, ⟨Or.inl rfl, ⟨Or.inl rfl, ⟨Or.inl rfl, ⟨Or.inl rfl, ⟨Or.inl rfl, trivial⟩⟩⟩⟩⟩⟩⟩⟩ ?_
          exact h
        · replace h := h.2 c
          refine yb_push (v := (-1)) rfl ?_
          exact yb_ret rfl h
    · replace h := h.2 c
      show yB D xm_c143 _ L 5 [.ref 1, .int (xJ a1), .int (xJ a2), .int (xJ a3), .double 0, .double 0, .double 0, .double 0] [.int (xJ (0 : Int))] d e
      refine yb_if_eq (x := (0 : Int)) rfl rfl (by decide) (fun _ => ?_) (fun c => absurd (by decide) c)
      refine yb_push (v := (-1)) rfl ?_
      exact yb_ret rfl h
  · replace h := h.2 c
    show yB D xm_c143 _ L 2 [.ref 1, .int (xJ a1), .int (xJ a2), .int (xJ a3), .double 0, .double 0, .double 0, .double 0] [.int (xJ (0 : Int))] d e
    refine yb_if_eq (x := (0 : Int)) rfl rfl (by decide) (fun _ => ?_) (fun c => absurd (by decide) c)
    refine yb_push (v := (-1)) rfl ?_
    exact yb_ret rfl h
theorem yk_143_36 {D L : Nat} {P : Int → xh_D → xd_E → Prop} {d : xh_D} {e : xd_E}  {l3 : Int} {l4 : Int} {l5 : Int} {l6 : Int}  (hD : 1 ≤ D) (h : ((-2147483648 ≤ l6 ∧ l6 < 2147483648) ∧ ((((9 : Int) ≤ l6) → P l5 d e) ∧ ((¬ (9 : Int) ≤ l6) → yC D 51 L [.ref 11, .int (xJ l6), .int (xJ (d 6 (4 : Int)))] d e (fun x2 d3 e4 => ((-2147483648 ≤ l3 ∧ l3 < 2147483648) ∧ ((((xp_bc (xi_and l4 (xi_xor x2 (-1 : Int)))) < l3) → yB D xm_c143 (yQi L P) L 36 [.ref 1, .double 0, .double 0, .int (xJ l3), .int (xJ l4), .int (xJ (xi_or l5 (0 : Int))), .int (xJ (l6 + 1)), .double 0] [] d3 e4) ∧ ((¬ (xp_bc (xi_and l4 (xi_xor x2 (-1 : Int)))) < l3) → yB D xm_c143 (yQi L P) L 36 [.ref 1, .double 0, .double 0, .int (xJ l3), .int (xJ l4), .int (xJ (xi_or l5 (xi_shl (1 : Int) l6))), .int (xJ (l6 + 1)), .double 0] [] d3 e4)))))))) : yB D xm_c143 (yQi L P) L 36 [.ref 1, .double 0, .double 0, .int (xJ l3), .int (xJ l4), .int (xJ l5), .int (xJ l6), .double 0] [] d e := by
  refine yb_iload (x := l6) rfl rfl ?_
  refine yb_push (v := 9) rfl ?_
  have r1 := h.1
  replace h := h.2
  refine yb_icmp_ge (x := l6) (y := (9 : Int)) rfl rfl r1 (by decide) (fun c => ?_) (fun c => ?_)
  · replace h := h.1 c
    refine yb_iload (x := l5) rfl rfl ?_
    exact yb_ret rfl h
  · replace h := h.2 c
    refine yb_iload (x := l4) rfl rfl ?_
    refine yb_aload rfl rfl ?_
    refine yb_get (v := .ref 11) rfl (by decide) (by decide) (rfl) rfl ?_
    refine yb_iload (x := l6) rfl rfl ?_
    refine yb_aload rfl rfl ?_
    refine yb_get (v := .ref 6) rfl (by decide) (by decide) (rfl) rfl ?_
    refine yb_get (v := .int (xJ (d 6 (4 : Int)))) rfl (by decide) (by decide) (rfl) rfl ?_
    refine yb_callVi (As := [.int (xJ l6), .int (xJ (d 6 (4 : Int)))]) (a := 11) rfl rfl rfl rfl rfl rfl rfl rfl (by decide) (by decide) (rfl) (by show (1 : Nat) ≤ 8; decide) (yC_mono h (fun x2 d3 e4 h => ?_))
    refine yb_push (v := (-1)) rfl ?_
    refine yb_ixor (x := x2) (y := (-1 : Int)) rfl ?_
    refine yb_iand (x := l4) (y := (xi_xor x2 (-1 : Int))) rfl ?_
    refine yb_istore rfl rfl rfl ?_
    refine yb_iload (x := l5) rfl rfl ?_
    refine yb_iload (x := (xi_and l4 (xi_xor x2 (-1 : Int)))) rfl rfl ?_
    refine yb_callSi (As := [.int (xJ (xi_and l4 (xi_xor x2 (-1 : Int))))]) rfl rfl rfl rfl rfl rfl rfl rfl (by show (1 : Nat) ≤ 8; decide) (sp_0 (by omega) ?_)
    show yB D xm_c143 _ L 54 [.ref 1, .double 0, .double 0, .int (xJ l3), .int (xJ l4), .int (xJ l5), .int (xJ l6), .int (xJ (xi_and l4 (xi_xor x2 (-1 : Int))))] [.int (xJ (xp_bc (xi_and l4 (xi_xor x2 (-1 : Int))))), .int (xJ l5)] d3 e4
    refine yb_iload (x := l3) rfl rfl ?_
    have r5 := h.1
    replace h := h.2
    refine yb_icmp_lt (x := (xp_bc (xi_and l4 (xi_xor x2 (-1 : Int))))) (y := l3) rfl rfl (xJ_rng _) r5 (fun c => ?_) (fun c => ?_)
    · replace h := h.1 c
      refine yb_push (v := 0) rfl ?_
      refine yb_ior (x := l5) (y := (0 : Int)) rfl ?_
      refine yb_istore rfl rfl rfl ?_
      refine yb_iinc (x := l6) (n := 1) rfl rfl rfl rfl ?_
      refine yb_goto rfl rfl ?_
      refine yb_forget (dl := [.ref 1, .double 0, .double 0, .int (xJ l3), .int (xJ l4), .int (xJ (xi_or l5 (0 : Int))), .int (xJ (l6 + 1)), .double 0]) ⟨Or.inl rfl, ⟨Or.inl rfl, ⟨Or.inl rfl, ⟨Or.inl rfl, ⟨Or.inl rfl, ⟨Or.inl rfl, ⟨Or.inl rfl, ⟨Or.inr ⟨rfl, rfl⟩, trivial⟩⟩⟩⟩⟩⟩⟩⟩ ?_
      exact h
    · replace h := h.2 c
      refine yb_push (v := 1) rfl ?_
      refine yb_iload (x := l6) rfl rfl ?_
      refine yb_ishl (x := (1 : Int)) (y := l6) rfl ?_
      refine yb_goto rfl rfl ?_
      refine yb_ior (x := l5) (y := (xi_shl (1 : Int) l6)) rfl ?_
      refine yb_istore rfl rfl rfl ?_
      refine yb_iinc (x := l6) (n := 1) rfl rfl rfl rfl ?_
      refine yb_goto rfl rfl ?_
      refine yb_forget (dl := [.ref 1, .double 0, .double 0, .int (xJ l3), .int (xJ l4), .int (xJ (xi_or l5 (xi_shl (1 : Int) l6))), .int (xJ (l6 + 1)), .double 0]) ⟨Or.inl rfl, ⟨Or.inl rfl, ⟨Or.inl rfl, ⟨Or.inl rfl, ⟨Or.inl rfl, ⟨Or.inl rfl, ⟨Or.inl rfl, ⟨Or.inr ⟨rfl, rfl⟩, trivial⟩⟩⟩⟩⟩⟩⟩⟩ ?_
      exact h
theorem yk_144_0 {D L : Nat} {P : Int → xh_D → xd_E → Prop} {d : xh_D} {e : xd_E} {a1 : Int} {a2 : Int} {a3 : Int}   (hD : 2 ≤ D) (h : ((-2147483648 ≤ a1 ∧ a1 < 2147483648) ∧ ((-2147483648 ≤ a2 ∧ a2 < 2147483648) ∧ ((-2147483648 ≤ (d 6 (4 : Int)) ∧ (d 6 (4 : Int)) < 2147483648) ∧ ((((0 ≤ a1 ∧ a1 < (d 6 (4 : Int))) ∧ (0 ≤ a2 ∧ a2 < (d 6 (4 : Int))) ∧ ¬ a1 = a2) → ((-2147483648 ≤ a3 ∧ a3 < 2147483648) ∧ (((a3 < 0) → P (-1 : Int) d e) ∧ ((¬ a3 < 0) → (((a3 ≤ (1 : Int)) → ((-2147483648 ≤ (d 136 (5 : Int)) ∧ (d 136 (5 : Int)) < 2147483648) ∧ (((¬ (d 136 (5 : Int)) = (12 : Int)) → ((0 ≤ (d 136 (5 : Int)) ∧ (d 136 (5 : Int)) < 12) ∧ P ((d 136 (5 : Int)) + 1) (xs (xs (xs (xs d 137 (d 136 (5 : Int)) a1) 138 (d 136 (5 : Int)) a2) 139 (d 136 (5 : Int)) a3) 136 (5 : Int) ((d 136 (5 : Int)) + 1)) e)) ∧ (((d 136 (5 : Int)) = (12 : Int)) → P (-2 : Int) d e)))) ∧ ((¬ a3 ≤ (1 : Int)) → P (-1 : Int) d e)))))) ∧ (¬ ((0 ≤ a1 ∧ a1 < (d 6 (4 : Int))) ∧ (0 ≤ a2 ∧ a2 < (d 6 (4 : Int))) ∧ ¬ a1 = a2) → P (-1 : Int) d e)))))) : yB D xm_c144 (yQi L P) L 0 [.ref 1, .int (xJ a1), .int (xJ a2), .int (xJ a3)] [] d e := by
  refine yb_aload rfl rfl ?_
  refine yb_get (v := .ref 6) rfl (by decide) (by decide) (rfl) rfl ?_
  refine yb_iload (x := a1) rfl rfl ?_
  refine yb_iload (x := a2) rfl rfl ?_
  have r1 := h.1
  replace h := h.2
  have r2 := h.1
  replace h := h.2
  have r3 := h.1
  replace h := h.2
  refine yb_callVz (As := [.int (xJ a1), .int (xJ a2)]) (a := 6) rfl rfl rfl rfl rfl rfl rfl rfl (by decide) (by decide) (rfl) (by decide) (sp_22 (by omega) ⟨r1, r2, r3⟩ (fun c => ?_) (fun c => ?_))
  · replace h := h.1 c
    show yB D xm_c144 _ L 5 [.ref 1, .int (xJ a1), .int (xJ a2), .int (xJ a3)] [.int (xJ (1 : Int))] d e
    refine yb_if_eq (x := (1 : Int)) rfl rfl (by decide) (fun c => absurd c (by decide)) (fun _ => ?_)
    refine yb_iload (x := a3) rfl rfl ?_
    have r4 := h.1
    replace h := h.2
    refine yb_if_lt (x := a3) rfl rfl r4 (fun c => ?_) (fun c => ?_)
    · replace h := h.1 c
      refine yb_push (v := (-1)) rfl ?_
      exact yb_ret rfl h
    · replace h := h.2 c
      refine yb_iload (x := a3) rfl rfl ?_
      refine yb_push (v := 1) rfl ?_
      refine yb_icmp_le (x := a3) (y := (1 : Int)) rfl rfl r4 (by decide) (fun c => ?_) (fun c => ?_)
      · replace h := h.1 c
        refine yb_aload rfl rfl ?_
        refine yb_get (v := .ref 136) rfl (by decide) (by decide) (rfl) rfl ?_
        refine yb_get (v := .int (xJ (d 136 (5 : Int)))) rfl (by decide) (by decide) (rfl) rfl ?_
        refine yb_push (v := 12) rfl ?_
        have r5 := h.1
        replace h := h.2
        refine yb_icmp_ne (x := (d 136 (5 : Int))) (y := (12 : Int)) rfl rfl r5 (by decide) (fun c => ?_) (fun c => ?_)
        · replace h := h.1 c
          refine yb_aload rfl rfl ?_
          refine yb_get (v := .ref 136) rfl (by decide) (by decide) (rfl) rfl ?_
          refine yb_iload (x := a1) rfl rfl ?_
          refine yb_iload (x := a2) rfl rfl ?_
          refine yb_iload (x := a3) rfl rfl ?_
          have r6 := h.1
          replace h := h.2
          refine yb_callVv (As := [.int (xJ a1), .int (xJ a2), .int (xJ a3)]) (a := 136) rfl rfl rfl rfl rfl rfl rfl rfl (by decide) (by decide) (rfl) (by decide) (sp_89 (by omega) r6 ?_)
          show yB D xm_c144 _ L 26 [.ref 1, .int (xJ a1), .int (xJ a2), .int (xJ a3)] [] (xs (xs (xs (xs d 137 (d 136 (5 : Int)) a1) 138 (d 136 (5 : Int)) a2) 139 (d 136 (5 : Int)) a3) 136 (5 : Int) ((d 136 (5 : Int)) + 1)) e
          refine yb_aload rfl rfl ?_
          refine yb_get (v := .ref 136) rfl (by decide) (by decide) (rfl) rfl ?_
          refine yb_get (v := .int (xJ ((d 136 (5 : Int)) + 1))) rfl (by decide) (by decide) (rfl) rfl ?_
          exact yb_ret rfl h
        · replace h := h.2 c
          refine yb_push (v := (-2)) rfl ?_
          exact yb_ret rfl h
      · replace h := h.2 c
        refine yb_push (v := (-1)) rfl ?_
        exact yb_ret rfl h
  · replace h := h.2 c
    show yB D xm_c144 _ L 5 [.ref 1, .int (xJ a1), .int (xJ a2), .int (xJ a3)] [.int (xJ (0 : Int))] d e
    refine yb_if_eq (x := (0 : Int)) rfl rfl (by decide) (fun _ => ?_) (fun c => absurd (by decide) c)
    refine yb_push (v := (-1)) rfl ?_
    exact yb_ret rfl h
theorem yk_145_0 {D L : Nat} {P : Int → xh_D → xd_E → Prop} {d : xh_D} {e : xd_E}    (h : P (d 136 (5 : Int)) (xs d 136 (5 : Int) (0 : Int)) e) : yB D xm_c145 (yQi L P) L 0 [.ref 1, .double 0] [] d e := by
  refine yb_aload rfl rfl ?_
  refine yb_get (v := .ref 136) rfl (by decide) (by decide) (rfl) rfl ?_
  refine yb_get (v := .int (xJ (d 136 (5 : Int)))) rfl (by decide) (by decide) (rfl) rfl ?_
  refine yb_istore rfl rfl rfl ?_
  refine yb_aload rfl rfl ?_
  refine yb_get (v := .ref 136) rfl (by decide) (by decide) (rfl) rfl ?_
  refine yb_push (v := 0) rfl ?_
  refine yb_put (z := (0 : Int)) (k := 5) rfl rfl (by decide) (by decide) (rfl) (Nat.le_of_ble_eq_true rfl) rfl (rfl) ?_
  refine yb_iload (x := (d 136 (5 : Int))) rfl rfl ?_
  exact yb_ret rfl h
theorem yk_146_0 {D L : Nat} {P : Int → xh_D → xd_E → Prop} {d : xh_D} {e : xd_E}    (hD : 1 ≤ D) (h : yC D 90 L [.ref 136, .ref 12] d e (fun x1 d2 e3 => P (xp_bc x1) (xs (xs (xs d2 4 (1 : Int) (0 : Int)) 5 (0 : Int) x1) 4 (1 : Int) (1 : Int)) e3)) : yB D xm_c146 (yQi L P) L 0 [.ref 1, .double 0] [] d e := by
  refine yb_aload rfl rfl ?_
  refine yb_get (v := .ref 136) rfl (by decide) (by decide) (rfl) rfl ?_
  refine yb_aload rfl rfl ?_
  refine yb_get (v := .ref 11) rfl (by decide) (by decide) (rfl) rfl ?_
  refine yb_get (v := .ref 12) rfl (by decide) (by decide) (rfl) rfl ?_
  refine yb_callVi (As := [.ref 12]) (a := 136) rfl rfl rfl rfl rfl rfl rfl rfl (by decide) (by decide) (rfl) (by decide) (yC_mono h (fun x1 d2 e3 h => ?_))
  refine yb_istore rfl rfl rfl ?_
  refine yb_aload rfl rfl ?_
  refine yb_get (v := .ref 4) rfl (by decide) (by decide) (rfl) rfl ?_
  refine yb_callVv (As := []) (a := 4) rfl rfl rfl rfl rfl rfl rfl rfl (by decide) (by decide) (rfl) (by decide) (sp_31 (by omega) ?_)
  show yB D xm_c146 _ L 10 [.ref 1, .int (xJ x1)] [] (xs d2 4 (1 : Int) (0 : Int)) e3
  refine yb_aload rfl rfl ?_
  refine yb_get (v := .ref 4) rfl (by decide) (by decide) (rfl) rfl ?_
  refine yb_iload (x := x1) rfl rfl ?_
  refine yb_callVv (As := [.int (xJ x1)]) (a := 4) rfl rfl rfl rfl rfl rfl rfl rfl (by decide) (by decide) (rfl) (by decide) (sp_32 (by omega) (by show (0 ≤ (0 : Int) ∧ (0 : Int) < 12); decide) ?_)
  show yB D xm_c146 _ L 14 [.ref 1, .int (xJ x1)] [] (xs (xs (xs d2 4 (1 : Int) (0 : Int)) 5 (0 : Int) x1) 4 (1 : Int) (1 : Int)) e3
  refine yb_iload (x := x1) rfl rfl ?_
  refine yb_callSi (As := [.int (xJ x1)]) rfl rfl rfl rfl rfl rfl rfl rfl (by decide) (sp_0 (by omega) ?_)
  show yB D xm_c146 _ L 16 [.ref 1, .int (xJ x1)] [.int (xJ (xp_bc x1))] (xs (xs (xs d2 4 (1 : Int) (0 : Int)) 5 (0 : Int) x1) 4 (1 : Int) (1 : Int)) e3
  exact yb_ret rfl h
theorem yk_147_0 {D L : Nat} {P : Int → xh_D → xd_E → Prop} {d : xh_D} {e : xd_E}    (hD : 1 ≤ D) (h : yV D 50 L [.ref 17, .ref 11] d e (fun d1 e2 => yV D 63 L [.ref 127, .ref 11, .int (xJ (d1 6 (4 : Int)))] d1 e2 (fun d3 e4 => yC D 67 L [.ref 127] d3 e4 (fun x5 d6 e7 => yC D 90 L [.ref 136, .ref 12] d6 e7 (fun x8 d9 e10 => yB D xm_c147 (yQi L P) L 31 [.ref 1, .int (xJ x5), .int (xJ (xp_bc x8)), .int (xJ (-1 : Int)), .int (xJ (-1 : Int)), .int (xJ (0 : Int)), .double 0, .double 0, .double 0] [] d9 e10))))) : yB D xm_c147 (yQi L P) L 0 [.ref 1, .double 0, .double 0, .double 0, .double 0, .double 0, .double 0, .double 0, .double 0] [] d e := by
  refine yb_aload rfl rfl ?_
  refine yb_get (v := .ref 17) rfl (by decide) (by decide) (rfl) rfl ?_
  refine yb_aload rfl rfl ?_
  refine yb_get (v := .ref 11) rfl (by decide) (by decide) (rfl) rfl ?_
  refine yb_callVv (As := [.ref 11]) (a := 17) rfl rfl rfl rfl rfl rfl rfl rfl (by decide) (by decide) (rfl) (by decide) (yV_mono h (fun d1 e2 h => ?_))
  refine yb_aload rfl rfl ?_
  refine yb_get (v := .ref 127) rfl (by decide) (by decide) (rfl) rfl ?_
  refine yb_aload rfl rfl ?_
  refine yb_get (v := .ref 11) rfl (by decide) (by decide) (rfl) rfl ?_
  refine yb_aload rfl rfl ?_
  refine yb_get (v := .ref 6) rfl (by decide) (by decide) (rfl) rfl ?_
  refine yb_get (v := .int (xJ (d1 6 (4 : Int)))) rfl (by decide) (by decide) (rfl) rfl ?_
  refine yb_callVv (As := [.ref 11, .int (xJ (d1 6 (4 : Int)))]) (a := 127) rfl rfl rfl rfl rfl rfl rfl rfl (by decide) (by decide) (rfl) (by decide) (yV_mono h (fun d3 e4 h => ?_))
  refine yb_aload rfl rfl ?_
  refine yb_get (v := .ref 127) rfl (by decide) (by decide) (rfl) rfl ?_
  refine yb_callVi (As := []) (a := 127) rfl rfl rfl rfl rfl rfl rfl rfl (by decide) (by decide) (rfl) (by decide) (yC_mono h (fun x5 d6 e7 h => ?_))
  refine yb_istore rfl rfl rfl ?_
  refine yb_aload rfl rfl ?_
  refine yb_get (v := .ref 136) rfl (by decide) (by decide) (rfl) rfl ?_
  refine yb_aload rfl rfl ?_
  refine yb_get (v := .ref 11) rfl (by decide) (by decide) (rfl) rfl ?_
  refine yb_get (v := .ref 12) rfl (by decide) (by decide) (rfl) rfl ?_
  refine yb_callVi (As := [.ref 12]) (a := 136) rfl rfl rfl rfl rfl rfl rfl rfl (by decide) (by decide) (rfl) (by decide) (yC_mono h (fun x8 d9 e10 h => ?_))
  refine yb_callSi (As := [.int (xJ x8)]) rfl rfl rfl rfl rfl rfl rfl rfl (by decide) (sp_0 (by omega) ?_)
  show yB D xm_c147 _ L 24 [.ref 1, .int (xJ x5), .double 0, .double 0, .double 0, .double 0, .double 0, .double 0, .double 0] [.int (xJ (xp_bc x8))] d9 e10
  refine yb_istore rfl rfl rfl ?_
  refine yb_push (v := (-1)) rfl ?_
  refine yb_istore rfl rfl rfl ?_
  refine yb_push (v := (-1)) rfl ?_
  refine yb_istore rfl rfl rfl ?_
  refine yb_push (v := 0) rfl ?_
  refine yb_istore rfl rfl rfl ?_
  exact h
theorem yk_147_31 {D L : Nat} {P : Int → xh_D → xd_E → Prop} {d : xh_D} {e : xd_E}  {l1 : Int} {l2 : Int} {l3 : Int} {l4 : Int} {l5 : Int}  (hD : 1 ≤ D) (h : ((-2147483648 ≤ l5 ∧ l5 < 2147483648) ∧ ((-2147483648 ≤ (d 6 (4 : Int)) ∧ (d 6 (4 : Int)) < 2147483648) ∧ ((((d 6 (4 : Int)) ≤ l5) → P l3 (xs (xs (xs (xs (xs d 4 (1 : Int) (0 : Int)) 5 (0 : Int) l4) 4 (1 : Int) (1 : Int)) 5 (1 : Int) l2) 4 (1 : Int) (2 : Int)) e) ∧ ((¬ (d 6 (4 : Int)) ≤ l5) → ((0 ≤ l5 ∧ l5 < 9) ∧ yB D xm_c147 (yQi L P) L 44 [.ref 1, .int (xJ l1), .int (xJ l2), .int (xJ l3), .int (xJ l4), .int (xJ l5), .int (xJ (d 12 l5)), .int (xJ (0 : Int)), .double 0] [] d e)))))) : yB D xm_c147 (yQi L P) L 31 [.ref 1, .int (xJ l1), .int (xJ l2), .int (xJ l3), .int (xJ l4), .int (xJ l5), .double 0, .double 0, .double 0] [] d e := by
  refine yb_iload (x := l5) rfl rfl ?_
  refine yb_aload rfl rfl ?_
  refine yb_get (v := .ref 6) rfl (by decide) (by decide) (rfl) rfl ?_
  refine yb_get (v := .int (xJ (d 6 (4 : Int)))) rfl (by decide) (by decide) (rfl) rfl ?_
  have r1 := h.1
  replace h := h.2
  have r2 := h.1
  replace h := h.2
  refine yb_icmp_ge (x := l5) (y := (d 6 (4 : Int))) rfl rfl r1 r2 (fun c => ?_) (fun c => ?_)
  · replace h := h.1 c
    refine yb_aload rfl rfl ?_
    refine yb_get (v := .ref 4) rfl (by decide) (by decide) (rfl) rfl ?_
    refine yb_callVv (As := []) (a := 4) rfl rfl rfl rfl rfl rfl rfl rfl (by decide) (by decide) (rfl) (by decide) (sp_31 (by omega) ?_)
    show yB D xm_c147 _ L 100 [.ref 1, .int (xJ l1), .int (xJ l2), .int (xJ l3), .int (xJ l4), .int (xJ l5), .double 0, .double 0, .double 0] [] (xs d 4 (1 : Int) (0 : Int)) e
    refine yb_aload rfl rfl ?_
    refine yb_get (v := .ref 4) rfl (by decide) (by decide) (rfl) rfl ?_
    refine yb_iload (x := l4) rfl rfl ?_
    refine yb_callVv (As := [.int (xJ l4)]) (a := 4) rfl rfl rfl rfl rfl rfl rfl rfl (by decide) (by decide) (rfl) (by decide) (sp_32 (by omega) (by show (0 ≤ (0 : Int) ∧ (0 : Int) < 12); decide) ?_)
    show yB D xm_c147 _ L 104 [.ref 1, .int (xJ l1), .int (xJ l2), .int (xJ l3), .int (xJ l4), .int (xJ l5), .double 0, .double 0, .double 0] [] (xs (xs (xs d 4 (1 : Int) (0 : Int)) 5 (0 : Int) l4) 4 (1 : Int) (1 : Int)) e
    refine yb_aload rfl rfl ?_
    refine yb_get (v := .ref 4) rfl (by decide) (by decide) (rfl) rfl ?_
    refine yb_iload (x := l2) rfl rfl ?_
    refine yb_callVv (As := [.int (xJ l2)]) (a := 4) rfl rfl rfl rfl rfl rfl rfl rfl (by decide) (by decide) (rfl) (by decide) (sp_32 (by omega) (by show (0 ≤ (1 : Int) ∧ (1 : Int) < 12); decide) ?_)
    show yB D xm_c147 _ L 108 [.ref 1, .int (xJ l1), .int (xJ l2), .int (xJ l3), .int (xJ l4), .int (xJ l5), .double 0, .double 0, .double 0] [] (xs (xs (xs (xs (xs d 4 (1 : Int) (0 : Int)) 5 (0 : Int) l4) 4 (1 : Int) (1 : Int)) 5 (1 : Int) l2) 4 (1 : Int) (2 : Int)) e
    refine yb_iload (x := l3) rfl rfl ?_
    exact yb_ret rfl h
  · replace h := h.2 c
    refine yb_aload rfl rfl ?_
    refine yb_get (v := .ref 11) rfl (by decide) (by decide) (rfl) rfl ?_
    refine yb_get (v := .ref 12) rfl (by decide) (by decide) (rfl) rfl ?_
    refine yb_iload (x := l5) rfl rfl ?_
    have r3 := h.1
    replace h := h.2
    refine yb_iald (j := l5) rfl xd_A12 (by decide) r3 (v := (d 12 l5)) rfl ?_
    refine yb_istore rfl rfl rfl ?_
    refine yb_push (v := 0) rfl ?_
    refine yb_istore rfl rfl rfl ?_
    exact h
theorem yk_147_44 {D L : Nat} {P : Int → xh_D → xd_E → Prop} {d : xh_D} {e : xd_E}  {l1 : Int} {l2 : Int} {l3 : Int} {l4 : Int} {l5 : Int} {l6 : Int} {l7 : Int}  (hD : 1 ≤ D) (h : ((-2147483648 ≤ l7 ∧ l7 < 2147483648) ∧ ((((9 : Int) ≤ l7) → ((0 ≤ l5 ∧ l5 < 9) ∧ yB D xm_c147 (yQi L P) L 31 [.ref 1, .int (xJ l1), .int (xJ l2), .int (xJ l3), .int (xJ l4), .int (xJ (l5 + 1)), .double 0, .double 0, .double 0] [] (xs d 18 l5 l6) e)) ∧ ((¬ (9 : Int) ≤ l7) → ((0 ≤ l5 ∧ l5 < 9) ∧ ((0 ≤ l6 ∧ l6 < 9) ∧ ((0 ≤ l7 ∧ l7 < 9) ∧ yC D 90 L [.ref 136, .ref 18] (xs (xs (xs d 18 l5 l7) 133 l6 (xi_xor (d 133 l6) (xi_shl (1 : Int) l5))) 133 l7 (xi_xor ((xs (xs d 18 l5 l7) 133 l6 (xi_xor (d 133 l6) (xi_shl (1 : Int) l5))) 133 l7) (xi_shl (1 : Int) l5))) e (fun x6 d7 e8 => ((-2147483648 ≤ l2 ∧ l2 < 2147483648) ∧ ((((xp_bc x6) ≤ l2) → yB D xm_c147 (yQi L P) L 44 [.ref 1, .int (xJ l1), .int (xJ l2), .int (xJ l3), .int (xJ l4), .int (xJ l5), .int (xJ l6), .int (xJ (l7 + 1)), .double 0] [] (xs (xs d7 133 l7 (xi_xor (d7 133 l7) (xi_shl (1 : Int) l5))) 133 l6 (xi_xor ((xs d7 133 l7 (xi_xor (d7 133 l7) (xi_shl (1 : Int) l5))) 133 l6) (xi_shl (1 : Int) l5))) e8) ∧ ((¬ (xp_bc x6) ≤ l2) → yC D 67 L [.ref 127] d7 e8 (fun x10 d11 e12 => ((-2147483648 ≤ x10 ∧ x10 < 2147483648) ∧ ((-2147483648 ≤ l1 ∧ l1 < 2147483648) ∧ (((l1 < x10) → yB D xm_c147 (yQi L P) L 44 [.ref 1, .int (xJ l1), .int (xJ l2), .int (xJ l3), .int (xJ l4), .int (xJ l5), .int (xJ l6), .int (xJ (l7 + 1)), .double 0] [] (xs (xs d11 133 l7 (xi_xor (d11 133 l7) (xi_shl (1 : Int) l5))) 133 l6 (xi_xor ((xs d11 133 l7 (xi_xor (d11 133 l7) (xi_shl (1 : Int) l5))) 133 l6) (xi_shl (1 : Int) l5))) e12) ∧ ((¬ l1 < x10) → yB D xm_c147 (yQi L P) L 44 [.ref 1, .int (xJ l1), .int (xJ (xp_bc x6)), .int (xJ l5), .int (xJ l7), .int (xJ l5), .int (xJ l6), .int (xJ (l7 + 1)), .double 0] [] (xs (xs d11 133 l7 (xi_xor (d11 133 l7) (xi_shl (1 : Int) l5))) 133 l6 (xi_xor ((xs d11 133 l7 (xi_xor (d11 133 l7) (xi_shl (1 : Int) l5))) 133 l6) (xi_shl (1 : Int) l5))) e12)))))))))))))))) : yB D xm_c147 (yQi L P) L 44 [.ref 1, .int (xJ l1), .int (xJ l2), .int (xJ l3), .int (xJ l4), .int (xJ l5), .int (xJ l6), .int (xJ l7), .double 0] [] d e := by
  refine yb_iload (x := l7) rfl rfl ?_
  refine yb_push (v := 9) rfl ?_
  have r1 := h.1
  replace h := h.2
  refine yb_icmp_ge (x := l7) (y := (9 : Int)) rfl rfl r1 (by decide) (fun c => ?_) (fun c => ?_)
  · replace h := h.1 c
    refine yb_aload rfl rfl ?_
    refine yb_get (v := .ref 17) rfl (by decide) (by decide) (rfl) rfl ?_
    refine yb_get (v := .ref 18) rfl (by decide) (by decide) (rfl) rfl ?_
    refine yb_iload (x := l5) rfl rfl ?_
    refine yb_iload (x := l6) rfl rfl ?_
    have r2 := h.1
    replace h := h.2
    refine yb_iast (j := l5) (x := l6) rfl xd_A18 (by decide) r2 ?_
    refine yb_iinc (x := l5) (n := 1) rfl rfl rfl rfl ?_
    refine yb_goto rfl rfl ?_
    refine yb_forget (dl := [.ref 1, .int (xJ l1), .int (xJ l2), .int (xJ l3), .int (xJ l4), .int (xJ (l5 + 1)), .double 0, .double 0, .double 0]) ⟨Or.inl rfl, ⟨Or.inl rfl, ⟨Or.inl rfl, ⟨Or.inl rfl, ⟨Or.inl rfl, ⟨Or.inl rfl, ⟨Or.inr ⟨rfl, rfl⟩, ⟨Or.inr ⟨rfl, rfl⟩, ⟨Or.inl rfl, trivial⟩⟩⟩⟩⟩⟩⟩⟩⟩ ?_
    exact h
  · replace h := h.2 c
    refine yb_aload rfl rfl ?_
    refine yb_get (v := .ref 17) rfl (by decide) (by decide) (rfl) rfl ?_
    refine yb_get (v := .ref 18) rfl (by decide) (by decide) (rfl) rfl ?_
    refine yb_iload (x := l5) rfl rfl ?_
    refine yb_iload (x := l7) rfl rfl ?_
    have r3 := h.1
    replace h := h.2
    refine yb_iast (j := l5) (x := l7) rfl xd_A18 (by decide) r3 ?_
    refine yb_aload rfl rfl ?_
    refine yb_get (v := .ref 127) rfl (by decide) (by decide) (rfl) rfl ?_
    refine yb_iload (x := l5) rfl rfl ?_
    refine yb_iload (x := l6) rfl rfl ?_
    refine yb_iload (x := l7) rfl rfl ?_
    have r4 := h.1
    replace h := h.2
    have r5 := h.1
    replace h := h.2
    refine yb_callVv (As := [.int (xJ l5), .int (xJ l6), .int (xJ l7)]) (a := 127) rfl rfl rfl rfl rfl rfl rfl rfl (by decide) (by decide) (rfl) (by decide) (sp_69 (by omega) ⟨r4, r5⟩ ?_)
    show yB D xm_c147 _ L 59 [.ref 1, .int (xJ l1), .int (xJ l2), .int (xJ l3), .int (xJ l4), .int (xJ l5), .int (xJ l6), .int (xJ l7), .double 0] [] (xs (xs (xs d 18 l5 l7) 133 l6 (xi_xor (d 133 l6) (xi_shl (1 : Int) l5))) 133 l7 (xi_xor ((xs (xs d 18 l5 l7) 133 l6 (xi_xor (d 133 l6) (xi_shl (1 : Int) l5))) 133 l7) (xi_shl (1 : Int) l5))) e
    refine yb_aload rfl rfl ?_
    refine yb_get (v := .ref 136) rfl (by decide) (by decide) (rfl) rfl ?_
    refine yb_aload rfl rfl ?_
    refine yb_get (v := .ref 17) rfl (by decide) (by decide) (rfl) rfl ?_
    refine yb_get (v := .ref 18) rfl (by decide) (by decide) (rfl) rfl ?_
    refine yb_callVi (As := [.ref 18]) (a := 136) rfl rfl rfl rfl rfl rfl rfl rfl (by decide) (by decide) (rfl) (by decide) (yC_mono h (fun x6 d7 e8 h => ?_))
    refine yb_callSi (As := [.int (xJ x6)]) rfl rfl rfl rfl rfl rfl rfl rfl (by decide) (sp_0 (by omega) ?_)
    show yB D xm_c147 _ L 66 [.ref 1, .int (xJ l1), .int (xJ l2), .int (xJ l3), .int (xJ l4), .int (xJ l5), .int (xJ l6), .int (xJ l7), .double 0] [.int (xJ (xp_bc x6))] d7 e8
    refine yb_istore rfl rfl rfl ?_
    refine yb_iload (x := (xp_bc x6)) rfl rfl ?_
    refine yb_iload (x := l2) rfl rfl ?_
    have r9 := h.1
    replace h := h.2
    refine yb_icmp_le (x := (xp_bc x6)) (y := l2) rfl rfl (xJ_rng _) r9 (fun c => ?_) (fun c => ?_)
    · replace h := h.1 c
      refine yb_aload rfl rfl ?_
      refine yb_get (v := .ref 127) rfl (by decide) (by decide) (rfl) rfl ?_
      refine yb_iload (x := l5) rfl rfl ?_
      refine yb_iload (x := l7) rfl rfl ?_
      refine yb_iload (x := l6) rfl rfl ?_
      refine yb_callVv (As := [.int (xJ l5), .int (xJ l7), .int (xJ l6)]) (a := 127) rfl rfl rfl rfl rfl rfl rfl rfl (by decide) (by decide) (rfl) (by decide) (sp_69 (by omega) ⟨r5, r4⟩ ?_)
      show yB D xm_c147 _ L 87 [.ref 1, .int (xJ l1), .int (xJ l2), .int (xJ l3), .int (xJ l4), .int (xJ l5), .int (xJ l6), .int (xJ l7), .int (xJ (xp_bc x6))] [] (xs (xs d7 133 l7 (xi_xor (d7 133 l7) (xi_shl (1 : Int) l5))) 133 l6 (xi_xor ((xs d7 133 l7 (xi_xor (d7 133 l7) (xi_shl (1 : Int) l5))) 133 l6) (xi_shl (1 : Int) l5))) e8
      refine yb_iinc (x := l7) (n := 1) rfl rfl rfl rfl ?_
      refine yb_goto rfl rfl ?_
      refine yb_forget (dl := [.ref 1, .int (xJ l1), .int (xJ l2), .int (xJ l3), .int (xJ l4), .int (xJ l5), .int (xJ l6), .int (xJ (l7 + 1)), .double 0]) ⟨Or.inl rfl, ⟨Or.inl rfl, ⟨Or.inl rfl, ⟨Or.inl rfl, ⟨Or.inl rfl, ⟨Or.inl rfl, ⟨Or.inl rfl, ⟨Or.inl rfl, ⟨Or.inr ⟨rfl, rfl⟩, trivial⟩⟩⟩⟩⟩⟩⟩⟩⟩ ?_
      exact h
    · replace h := h.2 c
      refine yb_aload rfl rfl ?_
      refine yb_get (v := .ref 127) rfl (by decide) (by decide) (rfl) rfl ?_
      refine yb_callVi (As := []) (a := 127) rfl rfl rfl rfl rfl rfl rfl rfl (by decide) (by decide) (rfl) (by decide) (yC_mono h (fun x10 d11 e12 h => ?_))
      refine yb_iload (x := l1) rfl rfl ?_
      have r13 := h.1
      replace h := h.2
      have r14 := h.1
      replace h := h.2
      refine yb_icmp_gt (x := x10) (y := l1) rfl rfl r13 r14 (fun c => ?_) (fun c => ?_)
      · replace h := h.1 c
        refine yb_aload rfl rfl ?_
        refine yb_get (v := .ref 127) rfl (by decide) (by decide) (rfl) rfl ?_
        refine yb_iload (x := l5) rfl rfl ?_
        refine yb_iload (x := l7) rfl rfl ?_
        refine yb_iload (x := l6) rfl rfl ?_
        refine yb_callVv (As := [.int (xJ l5), .int (xJ l7), .int (xJ l6)]) (a := 127) rfl rfl rfl rfl rfl rfl rfl rfl (by decide) (by decide) (rfl) (by decide) (sp_69 (by omega) ⟨r5, r4⟩ ?_)
        show yB D xm_c147 _ L 87 [.ref 1, .int (xJ l1), .int (xJ l2), .int (xJ l3), .int (xJ l4), .int (xJ l5), .int (xJ l6), .int (xJ l7), .int (xJ (xp_bc x6))] [] (xs (xs d11 133 l7 (xi_xor (d11 133 l7) (xi_shl (1 : Int) l5))) 133 l6 (xi_xor ((xs d11 133 l7 (xi_xor (d11 133 l7) (xi_shl (1 : Int) l5))) 133 l6) (xi_shl (1 : Int) l5))) e12
        refine yb_iinc (x := l7) (n := 1) rfl rfl rfl rfl ?_
        refine yb_goto rfl rfl ?_
        refine yb_forget (dl := [.ref 1, .int (xJ l1), .int (xJ l2), .int (xJ l3), .int (xJ l4), .int (xJ l5), .int (xJ l6), .int (xJ (l7 + 1)), .double 0]) ⟨Or.inl rfl, ⟨Or.inl rfl, ⟨Or.inl rfl, ⟨Or.inl rfl, ⟨Or.inl rfl, ⟨Or.inl rfl, ⟨Or.inl rfl, ⟨Or.inl rfl, ⟨Or.inr ⟨rfl, rfl⟩, trivial⟩⟩⟩⟩⟩⟩⟩⟩⟩ ?_
        exact h
      · replace h := h.2 c
        refine yb_iload (x := (xp_bc x6)) rfl rfl ?_
        refine yb_istore rfl rfl rfl ?_
        refine yb_iload (x := l5) rfl rfl ?_
        refine yb_istore rfl rfl rfl ?_
        refine yb_iload (x := l7) rfl rfl ?_
        refine yb_istore rfl rfl rfl ?_
        refine yb_aload rfl rfl ?_
        refine yb_get (v := .ref 127) rfl (by decide) (by decide) (rfl) rfl ?_
        refine yb_iload (x := l5) rfl rfl ?_
        refine yb_iload (x := l7) rfl rfl ?_
        refine yb_iload (x := l6) rfl rfl ?_
        refine yb_callVv (As := [.int (xJ l5), .int (xJ l7), .int (xJ l6)]) (a := 127) rfl rfl rfl rfl rfl rfl rfl rfl (by decide) (by decide) (rfl) (by decide) (sp_69 (by omega) ⟨r5, r4⟩ ?_)
        show yB D xm_c147 _ L 87 [.ref 1, .int (xJ l1), .int (xJ (xp_bc x6)), .int (xJ l5), .int (xJ l7), .int (xJ l5), .int (xJ l6), .int (xJ l7), .int (xJ (xp_bc x6))] [] (xs (xs d11 133 l7 (xi_xor (d11 133 l7) (xi_shl (1 : Int) l5))) 133 l6 (xi_xor ((xs d11 133 l7 (xi_xor (d11 133 l7) (xi_shl (1 : Int) l5))) 133 l6) (xi_shl (1 : Int) l5))) e12
        refine yb_iinc (x := l7) (n := 1) rfl rfl rfl rfl ?_
        refine yb_goto rfl rfl ?_
        refine yb_forget (dl := [.ref 1, .int (xJ l1), .int (xJ (xp_bc x6)), .int (xJ l5), .int (xJ l7), .int (xJ l5), .int (xJ l6), .int (xJ (l7 + 1)), .double 0]) ⟨Or.inl rfl, ⟨Or.inl rfl, ⟨Or.inl rfl, ⟨Or.inl rfl, ⟨Or.inl rfl, ⟨Or.inl rfl, ⟨Or.inl rfl, ⟨Or.inl rfl, ⟨Or.inr ⟨rfl, rfl⟩, trivial⟩⟩⟩⟩⟩⟩⟩⟩⟩ ?_
        exact h
theorem yk_148_0 {D L : Nat} {P : Int → xh_D → xd_E → Prop} {d : xh_D} {e : xd_E}    (hD : 1 ≤ D) (h : yZ D 92 L [.ref 136, .int (xJ (d 6 (4 : Int)))] d e (fun d1 e2 => yC D 94 L [.ref 136, .int (xJ (d1 6 (4 : Int)))] d1 e2 (fun x3 d4 e5 => yB D xm_c148 (yQi L P) L 21 [.ref 1, .int (xJ x3), .int (xJ (0 : Int))] [] (xs d4 4 (1 : Int) (0 : Int)) e5)) (fun d1 e2 => P (-2 : Int) d1 e2)) : yB D xm_c148 (yQi L P) L 0 [.ref 1, .double 0, .double 0] [] d e := by
  refine yb_aload rfl rfl ?_
  refine yb_get (v := .ref 136) rfl (by decide) (by decide) (rfl) rfl ?_
  refine yb_aload rfl rfl ?_
  refine yb_get (v := .ref 6) rfl (by decide) (by decide) (rfl) rfl ?_
  refine yb_get (v := .int (xJ (d 6 (4 : Int)))) rfl (by decide) (by decide) (rfl) rfl ?_
  refine yb_callVz (As := [.int (xJ (d 6 (4 : Int)))]) (a := 136) rfl rfl rfl rfl rfl rfl rfl rfl (by decide) (by decide) (rfl) (by decide) (yZ_mono h (fun d1 e2 h => ?_) (fun d1 e2 h => ?_))
  · refine yb_if_ne (x := (1 : Int)) rfl rfl (by decide) (fun _ => ?_) (fun c => absurd c (by decide))
    refine yb_aload rfl rfl ?_
    refine yb_get (v := .ref 136) rfl (by decide) (by decide) (rfl) rfl ?_
    refine yb_aload rfl rfl ?_
    refine yb_get (v := .ref 6) rfl (by decide) (by decide) (rfl) rfl ?_
    refine yb_get (v := .int (xJ (d1 6 (4 : Int)))) rfl (by decide) (by decide) (rfl) rfl ?_
    refine yb_callVi (As := [.int (xJ (d1 6 (4 : Int)))]) (a := 136) rfl rfl rfl rfl rfl rfl rfl rfl (by decide) (by decide) (rfl) (by decide) (yC_mono h (fun x3 d4 e5 h => ?_))
    refine yb_istore rfl rfl rfl ?_
    refine yb_aload rfl rfl ?_
    refine yb_get (v := .ref 4) rfl (by decide) (by decide) (rfl) rfl ?_
    refine yb_callVv (As := []) (a := 4) rfl rfl rfl rfl rfl rfl rfl rfl (by decide) (by decide) (rfl) (by decide) (sp_31 (by omega) ?_)
    show yB D xm_c148 _ L 19 [.ref 1, .int (xJ x3), .double 0] [] (xs d4 4 (1 : Int) (0 : Int)) e5
    refine yb_push (v := 0) rfl ?_
    refine yb_istore rfl rfl rfl ?_
    exact h
  · refine yb_if_ne (x := (0 : Int)) rfl rfl (by decide) (fun c => absurd (by decide) c) (fun _ => ?_)
    refine yb_push (v := (-2)) rfl ?_
    exact yb_ret rfl h
theorem yk_148_21 {D L : Nat} {P : Int → xh_D → xd_E → Prop} {d : xh_D} {e : xd_E}  {l1 : Int} {l2 : Int}  (hD : 1 ≤ D) (h : ((-2147483648 ≤ l2 ∧ l2 < 2147483648) ∧ ((-2147483648 ≤ (d 6 (4 : Int)) ∧ (d 6 (4 : Int)) < 2147483648) ∧ ((((d 6 (4 : Int)) ≤ l2) → P l1 d e) ∧ ((¬ (d 6 (4 : Int)) ≤ l2) → ((0 ≤ l2 ∧ l2 < 9) ∧ ((0 ≤ (d 4 (1 : Int)) ∧ (d 4 (1 : Int)) < 12) ∧ yB D xm_c148 (yQi L P) L 21 [.ref 1, .int (xJ l1), .int (xJ (l2 + 1))] [] (xs (xs d 5 (d 4 (1 : Int)) (d 140 l2)) 4 (1 : Int) ((d 4 (1 : Int)) + 1)) e))))))) : yB D xm_c148 (yQi L P) L 21 [.ref 1, .int (xJ l1), .int (xJ l2)] [] d e := by
  refine yb_iload (x := l2) rfl rfl ?_
  refine yb_aload rfl rfl ?_
  refine yb_get (v := .ref 6) rfl (by decide) (by decide) (rfl) rfl ?_
  refine yb_get (v := .int (xJ (d 6 (4 : Int)))) rfl (by decide) (by decide) (rfl) rfl ?_
  have r1 := h.1
  replace h := h.2
  have r2 := h.1
  replace h := h.2
  refine yb_icmp_ge (x := l2) (y := (d 6 (4 : Int))) rfl rfl r1 r2 (fun c => ?_) (fun c => ?_)
  · replace h := h.1 c
    refine yb_iload (x := l1) rfl rfl ?_
    exact yb_ret rfl h
  · replace h := h.2 c
    refine yb_aload rfl rfl ?_
    refine yb_get (v := .ref 4) rfl (by decide) (by decide) (rfl) rfl ?_
    refine yb_aload rfl rfl ?_
    refine yb_get (v := .ref 136) rfl (by decide) (by decide) (rfl) rfl ?_
    refine yb_get (v := .ref 140) rfl (by decide) (by decide) (rfl) rfl ?_
    refine yb_iload (x := l2) rfl rfl ?_
    have r3 := h.1
    replace h := h.2
    refine yb_iald (j := l2) rfl xd_A140 (by decide) r3 (v := (d 140 l2)) rfl ?_
    have r4 := h.1
    replace h := h.2
    refine yb_callVv (As := [.int (xJ (d 140 l2))]) (a := 4) rfl rfl rfl rfl rfl rfl rfl rfl (by decide) (by decide) (rfl) (by decide) (sp_32 (by omega) r4 ?_)
    show yB D xm_c148 _ L 34 [.ref 1, .int (xJ l1), .int (xJ l2)] [] (xs (xs d 5 (d 4 (1 : Int)) (d 140 l2)) 4 (1 : Int) ((d 4 (1 : Int)) + 1)) e
    refine yb_iinc (x := l2) (n := 1) rfl rfl rfl rfl ?_
    refine yb_goto rfl rfl ?_
    exact h
theorem yk_149_0 {D L : Nat} {P : Int → xh_D → xd_E → Prop} {d : xh_D} {e : xd_E} {a1 : Int}   (hD : 1 ≤ D) (h : ((-2147483648 ≤ a1 ∧ a1 < 2147483648) ∧ ((-2147483648 ≤ (d 6 (4 : Int)) ∧ (d 6 (4 : Int)) < 2147483648) ∧ (((0 ≤ a1 ∧ a1 < (d 6 (4 : Int))) → yC D 150 L [.ref 1] d e (fun x3 d4 e5 => yB D xm_c149 (yQi L P) L 14 [.ref 1, .int (xJ a1), .int (xJ x3), .int (xJ (-1 : Int)), .int (xJ (0 : Int)), .double 0, .double 0, .double 0] [] d4 e5)) ∧ (¬ (0 ≤ a1 ∧ a1 < (d 6 (4 : Int))) → P (-2 : Int) d e))))) : yB D xm_c149 (yQi L P) L 0 [.ref 1, .int (xJ a1), .double 0, .double 0, .double 0, .double 0, .double 0, .double 0] [] d e := by
  refine yb_aload rfl rfl ?_
  refine yb_get (v := .ref 6) rfl (by decide) (by decide) (rfl) rfl ?_
  refine yb_iload (x := a1) rfl rfl ?_
  have r1 := h.1
  replace h := h.2
  have r2 := h.1
  replace h := h.2
  refine yb_callVz (As := [.int (xJ a1)]) (a := 6) rfl rfl rfl rfl rfl rfl rfl rfl (by decide) (by decide) (rfl) (by decide) (sp_21 (by omega) ⟨r1, r2⟩ (fun c => ?_) (fun c => ?_))
  · replace h := h.1 c
    show yB D xm_c149 _ L 4 [.ref 1, .int (xJ a1), .double 0, .double 0, .double 0, .double 0, .double 0, .double 0] [.int (xJ (1 : Int))] d e
    refine yb_if_ne (x := (1 : Int)) rfl rfl (by decide) (fun _ => ?_) (fun c => absurd c (by decide))
    refine yb_aload rfl rfl ?_
    refine yb_callVi (As := []) (a := 1) rfl rfl rfl rfl rfl rfl rfl rfl (by decide) (by decide) (rfl) (by decide) (yC_mono h (fun x3 d4 e5 h => ?_))
    refine yb_istore rfl rfl rfl ?_
    refine yb_push (v := (-1)) rfl ?_
    refine yb_istore rfl rfl rfl ?_
    refine yb_push (v := 0) rfl ?_
    refine yb_istore rfl rfl rfl ?_
    exact h
  · replace h := h.2 c
    show yB D xm_c149 _ L 4 [.ref 1, .int (xJ a1), .double 0, .double 0, .double 0, .double 0, .double 0, .double 0] [.int (xJ (0 : Int))] d e
    refine yb_if_ne (x := (0 : Int)) rfl rfl (by decide) (fun c => absurd (by decide) c) (fun _ => ?_)
    refine yb_push (v := (-2)) rfl ?_
    exact yb_ret rfl h
theorem yk_149_14 {D L : Nat} {P : Int → xh_D → xd_E → Prop} {d : xh_D} {e : xd_E}  {l1 : Int} {l2 : Int} {l3 : Int} {l4 : Int}  (hD : 1 ≤ D) (h : ((-2147483648 ≤ l4 ∧ l4 < 2147483648) ∧ ((-2147483648 ≤ (d 6 (4 : Int)) ∧ (d 6 (4 : Int)) < 2147483648) ∧ ((((d 6 (4 : Int)) ≤ l4) → ((0 ≤ l2 ∧ l2 < 2147483648) ∧ P l3 (xs (xs (xs (xs (xs d 4 (1 : Int) (0 : Int)) 5 (0 : Int) (l2 / (1000 : Int))) 4 (1 : Int) (1 : Int)) 5 (1 : Int) (l2 % (1000 : Int))) 4 (1 : Int) (2 : Int)) e)) ∧ ((¬ (d 6 (4 : Int)) ≤ l4) → ((-2147483648 ≤ l1 ∧ l1 < 2147483648) ∧ (((l4 = l1) → yB D xm_c149 (yQi L P) L 14 [.ref 1, .int (xJ l1), .int (xJ l2), .int (xJ l3), .int (xJ (l4 + 1)), .double 0, .double 0, .double 0] [] d e) ∧ ((¬ l4 = l1) → ((0 ≤ ((l1 * (9 : Int)) + l4) ∧ ((l1 * (9 : Int)) + l4) < 81) ∧ yC D 150 L [.ref 1] (xs d 7 ((l1 * (9 : Int)) + l4) (9 : Int)) e (fun x6 d7 e8 => ((-2147483648 ≤ x6 ∧ x6 < 2147483648) ∧ ((-2147483648 ≤ l2 ∧ l2 < 2147483648) ∧ (((l2 ≤ x6) → yB D xm_c149 (yQi L P) L 14 [.ref 1, .int (xJ l1), .int (xJ l2), .int (xJ l3), .int (xJ (l4 + 1)), .double 0, .double 0, .double 0] [] (xs d7 7 ((l1 * (9 : Int)) + l4) (d 7 ((l1 * (9 : Int)) + l4))) e8) ∧ ((¬ l2 ≤ x6) → yB D xm_c149 (yQi L P) L 14 [.ref 1, .int (xJ l1), .int (xJ x6), .int (xJ l4), .int (xJ (l4 + 1)), .double 0, .double 0, .double 0] [] (xs d7 7 ((l1 * (9 : Int)) + l4) (d 7 ((l1 * (9 : Int)) + l4))) e8)))))))))))))) : yB D xm_c149 (yQi L P) L 14 [.ref 1, .int (xJ l1), .int (xJ l2), .int (xJ l3), .int (xJ l4), .double 0, .double 0, .double 0] [] d e := by
  refine yb_iload (x := l4) rfl rfl ?_
  refine yb_aload rfl rfl ?_
  refine yb_get (v := .ref 6) rfl (by decide) (by decide) (rfl) rfl ?_
  refine yb_get (v := .int (xJ (d 6 (4 : Int)))) rfl (by decide) (by decide) (rfl) rfl ?_
  have r1 := h.1
  replace h := h.2
  have r2 := h.1
  replace h := h.2
  refine yb_icmp_ge (x := l4) (y := (d 6 (4 : Int))) rfl rfl r1 r2 (fun c => ?_) (fun c => ?_)
  · replace h := h.1 c
    refine yb_aload rfl rfl ?_
    refine yb_get (v := .ref 4) rfl (by decide) (by decide) (rfl) rfl ?_
    refine yb_callVv (As := []) (a := 4) rfl rfl rfl rfl rfl rfl rfl rfl (by decide) (by decide) (rfl) (by decide) (sp_31 (by omega) ?_)
    show yB D xm_c149 _ L 61 [.ref 1, .int (xJ l1), .int (xJ l2), .int (xJ l3), .int (xJ l4), .double 0, .double 0, .double 0] [] (xs d 4 (1 : Int) (0 : Int)) e
    refine yb_aload rfl rfl ?_
    refine yb_get (v := .ref 4) rfl (by decide) (by decide) (rfl) rfl ?_
    refine yb_iload (x := l2) rfl rfl ?_
    refine yb_push (v := 1000) rfl ?_
    have r3 := h.1
    replace h := h.2
    refine yb_idiv (x := l2) (y := (1000 : Int)) rfl r3 (by decide) ?_
    refine yb_callVv (As := [.int (xJ (l2 / (1000 : Int)))]) (a := 4) rfl rfl rfl rfl rfl rfl rfl rfl (by decide) (by decide) (rfl) (by decide) (sp_32 (by omega) (by show (0 ≤ (0 : Int) ∧ (0 : Int) < 12); decide) ?_)
    show yB D xm_c149 _ L 67 [.ref 1, .int (xJ l1), .int (xJ l2), .int (xJ l3), .int (xJ l4), .double 0, .double 0, .double 0] [] (xs (xs (xs d 4 (1 : Int) (0 : Int)) 5 (0 : Int) (l2 / (1000 : Int))) 4 (1 : Int) (1 : Int)) e
    refine yb_aload rfl rfl ?_
    refine yb_get (v := .ref 4) rfl (by decide) (by decide) (rfl) rfl ?_
    refine yb_iload (x := l2) rfl rfl ?_
    refine yb_push (v := 1000) rfl ?_
    refine yb_irem (x := l2) (y := (1000 : Int)) rfl r3 (by decide) ?_
    refine yb_callVv (As := [.int (xJ (l2 % (1000 : Int)))]) (a := 4) rfl rfl rfl rfl rfl rfl rfl rfl (by decide) (by decide) (rfl) (by decide) (sp_32 (by omega) (by show (0 ≤ (1 : Int) ∧ (1 : Int) < 12); decide) ?_)
    show yB D xm_c149 _ L 73 [.ref 1, .int (xJ l1), .int (xJ l2), .int (xJ l3), .int (xJ l4), .double 0, .double 0, .double 0] [] (xs (xs (xs (xs (xs d 4 (1 : Int) (0 : Int)) 5 (0 : Int) (l2 / (1000 : Int))) 4 (1 : Int) (1 : Int)) 5 (1 : Int) (l2 % (1000 : Int))) 4 (1 : Int) (2 : Int)) e
    refine yb_iload (x := l3) rfl rfl ?_
    exact yb_ret rfl h
  · replace h := h.2 c
    refine yb_iload (x := l4) rfl rfl ?_
    refine yb_iload (x := l1) rfl rfl ?_
    have r4 := h.1
    replace h := h.2
    refine yb_icmp_eq (x := l4) (y := l1) rfl rfl r1 r4 (fun c => ?_) (fun c => ?_)
    · replace h := h.1 c
      refine yb_iinc (x := l4) (n := 1) rfl rfl rfl rfl ?_
      refine yb_goto rfl rfl ?_
      exact h
    · replace h := h.2 c
      refine yb_iload (x := l1) rfl rfl ?_
      refine yb_push (v := 9) rfl ?_
      refine yb_imul (x := l1) (y := (9 : Int)) rfl ?_
      refine yb_iload (x := l4) rfl rfl ?_
      refine yb_iadd (x := (l1 * (9 : Int))) (y := l4) rfl ?_
      refine yb_istore rfl rfl rfl ?_
      refine yb_aload rfl rfl ?_
      refine yb_get (v := .ref 6) rfl (by decide) (by decide) (rfl) rfl ?_
      refine yb_get (v := .ref 7) rfl (by decide) (by decide) (rfl) rfl ?_
      refine yb_iload (x := ((l1 * (9 : Int)) + l4)) rfl rfl ?_
      have r5 := h.1
      replace h := h.2
      refine yb_iald (j := ((l1 * (9 : Int)) + l4)) rfl xd_A7 (by decide) r5 (v := (d 7 ((l1 * (9 : Int)) + l4))) rfl ?_
      refine yb_istore rfl rfl rfl ?_
      refine yb_aload rfl rfl ?_
      refine yb_get (v := .ref 6) rfl (by decide) (by decide) (rfl) rfl ?_
      refine yb_get (v := .ref 7) rfl (by decide) (by decide) (rfl) rfl ?_
      refine yb_iload (x := ((l1 * (9 : Int)) + l4)) rfl rfl ?_
      refine yb_push (v := 9) rfl ?_
      refine yb_iast (j := ((l1 * (9 : Int)) + l4)) (x := (9 : Int)) rfl xd_A7 (by decide) r5 ?_
      refine yb_aload rfl rfl ?_
      refine yb_callVi (As := []) (a := 1) rfl rfl rfl rfl rfl rfl rfl rfl (by decide) (by decide) (rfl) (by decide) (yC_mono h (fun x6 d7 e8 h => ?_))
      refine yb_istore rfl rfl rfl ?_
      refine yb_aload rfl rfl ?_
      refine yb_get (v := .ref 6) rfl (by decide) (by decide) (rfl) rfl ?_
      refine yb_get (v := .ref 7) rfl (by decide) (by decide) (rfl) rfl ?_
      refine yb_iload (x := ((l1 * (9 : Int)) + l4)) rfl rfl ?_
      refine yb_iload (x := (d 7 ((l1 * (9 : Int)) + l4))) rfl rfl ?_
      refine yb_iast (j := ((l1 * (9 : Int)) + l4)) (x := (d 7 ((l1 * (9 : Int)) + l4))) rfl xd_A7 (by decide) r5 ?_
      refine yb_iload (x := x6) rfl rfl ?_
      refine yb_iload (x := l2) rfl rfl ?_
      have r9 := h.1
      replace h := h.2
      have r10 := h.1
      replace h := h.2
      refine yb_icmp_ge (x := x6) (y := l2) rfl rfl r9 r10 (fun c => ?_) (fun c => ?_)
      · replace h := h.1 c
        refine yb_iinc (x := l4) (n := 1) rfl rfl rfl rfl ?_
        refine yb_goto rfl rfl ?_
        refine yb_forget (dl := [.ref 1, .int (xJ l1), .int (xJ l2), .int (xJ l3), .int (xJ (l4 + 1)), .double 0, .double 0, .double 0]) ⟨Or.inl rfl, ⟨Or.inl rfl, ⟨Or.inl rfl, ⟨Or.inl rfl, ⟨Or.inl rfl, ⟨Or.inr ⟨rfl, rfl⟩, ⟨Or.inr ⟨rfl, rfl⟩, ⟨Or.inr ⟨rfl, rfl⟩, trivial⟩⟩⟩⟩⟩⟩⟩⟩ ?_
        exact h
      · replace h := h.2 c
        refine yb_iload (x := x6) rfl rfl ?_
        refine yb_istore rfl rfl rfl ?_
        refine yb_iload (x := l4) rfl rfl ?_
        refine yb_istore rfl rfl rfl ?_
        refine yb_iinc (x := l4) (n := 1) rfl rfl rfl rfl ?_
        refine yb_goto rfl rfl ?_
        refine yb_forget (dl := [.ref 1, .int (xJ l1), .int (xJ x6), .int (xJ l4), .int (xJ (l4 + 1)), .double 0, .double 0, .double 0]) ⟨Or.inl rfl, ⟨Or.inl rfl, ⟨Or.inl rfl, ⟨Or.inl rfl, ⟨Or.inl rfl, ⟨Or.inr ⟨rfl, rfl⟩, ⟨Or.inr ⟨rfl, rfl⟩, ⟨Or.inr ⟨rfl, rfl⟩, trivial⟩⟩⟩⟩⟩⟩⟩⟩ ?_
        exact h
theorem yk_150_0 {D L : Nat} {P : Int → xh_D → xd_E → Prop} {d : xh_D} {e : xd_E}    (h : yB D xm_c150 (yQi L P) L 4 [.ref 1, .int (xJ (0 : Int)), .int (xJ (0 : Int))] [] d e) : yB D xm_c150 (yQi L P) L 0 [.ref 1, .double 0, .double 0] [] d e := by
  refine yb_push (v := 0) rfl ?_
  refine yb_istore rfl rfl rfl ?_
  refine yb_push (v := 0) rfl ?_
  refine yb_istore rfl rfl rfl ?_
  exact h
theorem yk_150_4 {D L : Nat} {P : Int → xh_D → xd_E → Prop} {d : xh_D} {e : xd_E}  {l1 : Int} {l2 : Int}  (h : ((-2147483648 ≤ l2 ∧ l2 < 2147483648) ∧ ((((9 : Int) ≤ l2) → P l1 d e) ∧ ((¬ (9 : Int) ≤ l2) → yV D 8 L [.ref 119, .ref 6, .ref 111, .ref 11, .int (xJ ((d 11 (5 : Int)) + l2))] d e (fun d2 e3 => yB D xm_c150 (yQi L P) L 4 [.ref 1, .int (xJ (l1 + (d2 119 (8 : Int)))), .int (xJ (l2 + 1))] [] d2 e3))))) : yB D xm_c150 (yQi L P) L 4 [.ref 1, .int (xJ l1), .int (xJ l2)] [] d e := by
  refine yb_iload (x := l2) rfl rfl ?_
  refine yb_push (v := 9) rfl ?_
  have r1 := h.1
  replace h := h.2
  refine yb_icmp_ge (x := l2) (y := (9 : Int)) rfl rfl r1 (by decide) (fun c => ?_) (fun c => ?_)
  · replace h := h.1 c
    refine yb_iload (x := l1) rfl rfl ?_
    exact yb_ret rfl h
  · replace h := h.2 c
    refine yb_aload rfl rfl ?_
    refine yb_get (v := .ref 118) rfl (by decide) (by decide) (rfl) rfl ?_
    refine yb_get (v := .ref 119) rfl (by decide) (by decide) (rfl) rfl ?_
    refine yb_aload rfl rfl ?_
    refine yb_get (v := .ref 6) rfl (by decide) (by decide) (rfl) rfl ?_
    refine yb_aload rfl rfl ?_
    refine yb_get (v := .ref 111) rfl (by decide) (by decide) (rfl) rfl ?_
    refine yb_aload rfl rfl ?_
    refine yb_get (v := .ref 11) rfl (by decide) (by decide) (rfl) rfl ?_
    refine yb_aload rfl rfl ?_
    refine yb_get (v := .ref 11) rfl (by decide) (by decide) (rfl) rfl ?_
    refine yb_get (v := .int (xJ (d 11 (5 : Int)))) rfl (by decide) (by decide) (rfl) rfl ?_
    refine yb_iload (x := l2) rfl rfl ?_
    refine yb_iadd (x := (d 11 (5 : Int))) (y := l2) rfl ?_
    refine yb_callVv (As := [.ref 6, .ref 111, .ref 11, .int (xJ ((d 11 (5 : Int)) + l2))]) (a := 119) rfl rfl rfl rfl rfl rfl rfl rfl (by decide) (by decide) (rfl) (by decide) (yV_mono h (fun d2 e3 h => ?_))
    refine yb_iload (x := l1) rfl rfl ?_
    refine yb_aload rfl rfl ?_
    refine yb_get (v := .ref 118) rfl (by decide) (by decide) (rfl) rfl ?_
    refine yb_get (v := .ref 119) rfl (by decide) (by decide) (rfl) rfl ?_
    refine yb_get (v := .int (xJ (d2 119 (8 : Int)))) rfl (by decide) (by decide) (rfl) rfl ?_
    refine yb_iadd (x := l1) (y := (d2 119 (8 : Int))) rfl ?_
    refine yb_istore rfl rfl rfl ?_
    refine yb_iinc (x := l2) (n := 1) rfl rfl rfl rfl ?_
    refine yb_goto rfl rfl ?_
    exact h
theorem yk_151_0 {D L : Nat} {P1 P0 : xh_D → xd_E → Prop} {d : xh_D} {e : xd_E} {a1 : Int} {a2 : Int}   (hD : 2 ≤ D) (h : ((-2147483648 ≤ a1 ∧ a1 < 2147483648) ∧ ((-2147483648 ≤ a2 ∧ a2 < 2147483648) ∧ ((-2147483648 ≤ (d 6 (4 : Int)) ∧ (d 6 (4 : Int)) < 2147483648) ∧ ((((0 ≤ a1 ∧ a1 < (d 6 (4 : Int))) ∧ (0 ≤ a2 ∧ a2 < (d 6 (4 : Int))) ∧ ¬ a1 = a2) → yV D 17 L [.ref 23, .ref 11] d e (fun d4 e5 => ((0 ≤ a1 ∧ a1 < 9) ∧ ((0 ≤ a2 ∧ a2 < 9) ∧ P1 (xs (xs d4 12 a1 (d4 12 a2)) 12 a2 (d4 12 a1)) e5)))) ∧ (¬ ((0 ≤ a1 ∧ a1 < (d 6 (4 : Int))) ∧ (0 ≤ a2 ∧ a2 < (d 6 (4 : Int))) ∧ ¬ a1 = a2) → P0 d e)))))) : yB D xm_c151 (yQz L P1 P0) L 0 [.ref 1, .int (xJ a1), .int (xJ a2)] [] d e := by
  refine yb_aload rfl rfl ?_
  refine yb_get (v := .ref 6) rfl (by decide) (by decide) (rfl) rfl ?_
  refine yb_iload (x := a1) rfl rfl ?_
  refine yb_iload (x := a2) rfl rfl ?_
  have r1 := h.1
  replace h := h.2
  have r2 := h.1
  replace h := h.2
  have r3 := h.1
  replace h := h.2
  refine yb_callVz (As := [.int (xJ a1), .int (xJ a2)]) (a := 6) rfl rfl rfl rfl rfl rfl rfl rfl (by decide) (by decide) (rfl) (by decide) (sp_22 (by omega) ⟨r1, r2, r3⟩ (fun c => ?_) (fun c => ?_))
  · replace h := h.1 c
    show yB D xm_c151 _ L 5 [.ref 1, .int (xJ a1), .int (xJ a2)] [.int (xJ (1 : Int))] d e
    refine yb_if_ne (x := (1 : Int)) rfl rfl (by decide) (fun _ => ?_) (fun c => absurd c (by decide))
    refine yb_aload rfl rfl ?_
    refine yb_get (v := .ref 23) rfl (by decide) (by decide) (rfl) rfl ?_
    refine yb_aload rfl rfl ?_
    refine yb_get (v := .ref 11) rfl (by decide) (by decide) (rfl) rfl ?_
    refine yb_callVv (As := [.ref 11]) (a := 23) rfl rfl rfl rfl rfl rfl rfl rfl (by decide) (by decide) (rfl) (by decide) (yV_mono h (fun d4 e5 h => ?_))
    refine yb_aload rfl rfl ?_
    refine yb_get (v := .ref 11) rfl (by decide) (by decide) (rfl) rfl ?_
    refine yb_iload (x := a1) rfl rfl ?_
    refine yb_iload (x := a2) rfl rfl ?_
    have r6 := h.1
    replace h := h.2
    have r7 := h.1
    replace h := h.2
    refine yb_callVv (As := [.int (xJ a1), .int (xJ a2)]) (a := 11) rfl rfl rfl rfl rfl rfl rfl rfl (by decide) (by decide) (rfl) (by decide) (sp_53_11 (by omega) ⟨r6, r7⟩ ?_)
    show yB D xm_c151 _ L 18 [.ref 1, .int (xJ a1), .int (xJ a2)] [] (xs (xs d4 12 a1 (d4 12 a2)) 12 a2 (d4 12 a1)) e5
    refine yb_push (v := 1) rfl ?_
    exact yb_ret1 rfl h
  · replace h := h.2 c
    show yB D xm_c151 _ L 5 [.ref 1, .int (xJ a1), .int (xJ a2)] [.int (xJ (0 : Int))] d e
    refine yb_if_ne (x := (0 : Int)) rfl rfl (by decide) (fun c => absurd (by decide) c) (fun _ => ?_)
    refine yb_push (v := 0) rfl ?_
    exact yb_ret0 rfl h
theorem yk_152_0 {D L : Nat} {P : Int → xh_D → xd_E → Prop} {d : xh_D} {e : xd_E}    (h : yC D 24 L [.ref 6, .ref 12] d e (fun x1 d2 e3 => ((-2147483648 ≤ x1 ∧ x1 < 2147483648) ∧ (((¬ x1 = 0) → yV D 154 L [.ref 1, .int (xJ x1)] d2 e3 (fun d5 e6 => P x1 d5 e6)) ∧ ((x1 = 0) → P (-2 : Int) d2 e3))))) : yB D xm_c152 (yQi L P) L 0 [.ref 1, .double 0] [] d e := by
  refine yb_aload rfl rfl ?_
  refine yb_get (v := .ref 6) rfl (by decide) (by decide) (rfl) rfl ?_
  refine yb_aload rfl rfl ?_
  refine yb_get (v := .ref 11) rfl (by decide) (by decide) (rfl) rfl ?_
  refine yb_get (v := .ref 12) rfl (by decide) (by decide) (rfl) rfl ?_
  refine yb_callVi (As := [.ref 12]) (a := 6) rfl rfl rfl rfl rfl rfl rfl rfl (by decide) (by decide) (rfl) (by decide) (yC_mono h (fun x1 d2 e3 h => ?_))
  refine yb_istore rfl rfl rfl ?_
  refine yb_iload (x := x1) rfl rfl ?_
  have r4 := h.1
  replace h := h.2
  refine yb_if_ne (x := x1) rfl rfl r4 (fun c => ?_) (fun c => ?_)
  · replace h := h.1 c
    refine yb_aload rfl rfl ?_
    refine yb_iload (x := x1) rfl rfl ?_
    refine yb_callVv (As := [.int (xJ x1)]) (a := 1) rfl rfl rfl rfl rfl rfl rfl rfl (by decide) (by decide) (rfl) (by decide) (yV_mono h (fun d5 e6 h => ?_))
    refine yb_iload (x := x1) rfl rfl ?_
    exact yb_ret rfl h
  · replace h := h.2 c
    refine yb_push (v := (-2)) rfl ?_
    exact yb_ret rfl h
theorem yk_153_0 {D L : Nat} {P : Int → xh_D → xd_E → Prop} {d : xh_D} {e : xd_E}    (h : yC D 24 L [.ref 6, .ref 12] d e (fun x1 d2 e3 => ((-2147483648 ≤ x1 ∧ x1 < 2147483648) ∧ (((¬ x1 = 0) → yV D 154 L [.ref 1, .int (xJ x1)] d2 e3 (fun d5 e6 => yV D 17 L [.ref 23, .ref 11] d5 e6 (fun d7 e8 => yV D 28 L [.ref 6, .ref 12, .int (xJ x1)] d7 e8 (fun d9 e10 => P x1 d9 e10)))) ∧ ((x1 = 0) → P (-2 : Int) d2 e3))))) : yB D xm_c153 (yQi L P) L 0 [.ref 1, .double 0] [] d e := by
  refine yb_aload rfl rfl ?_
  refine yb_get (v := .ref 6) rfl (by decide) (by decide) (rfl) rfl ?_
  refine yb_aload rfl rfl ?_
  refine yb_get (v := .ref 11) rfl (by decide) (by decide) (rfl) rfl ?_
  refine yb_get (v := .ref 12) rfl (by decide) (by decide) (rfl) rfl ?_
  refine yb_callVi (As := [.ref 12]) (a := 6) rfl rfl rfl rfl rfl rfl rfl rfl (by decide) (by decide) (rfl) (by decide) (yC_mono h (fun x1 d2 e3 h => ?_))
  refine yb_istore rfl rfl rfl ?_
  refine yb_iload (x := x1) rfl rfl ?_
  have r4 := h.1
  replace h := h.2
  refine yb_if_ne (x := x1) rfl rfl r4 (fun c => ?_) (fun c => ?_)
  · replace h := h.1 c
    refine yb_aload rfl rfl ?_
    refine yb_iload (x := x1) rfl rfl ?_
    refine yb_callVv (As := [.int (xJ x1)]) (a := 1) rfl rfl rfl rfl rfl rfl rfl rfl (by decide) (by decide) (rfl) (by decide) (yV_mono h (fun d5 e6 h => ?_))
    refine yb_aload rfl rfl ?_
    refine yb_get (v := .ref 23) rfl (by decide) (by decide) (rfl) rfl ?_
    refine yb_aload rfl rfl ?_
    refine yb_get (v := .ref 11) rfl (by decide) (by decide) (rfl) rfl ?_
    refine yb_callVv (As := [.ref 11]) (a := 23) rfl rfl rfl rfl rfl rfl rfl rfl (by decide) (by decide) (rfl) (by decide) (yV_mono h (fun d7 e8 h => ?_))
    refine yb_aload rfl rfl ?_
    refine yb_get (v := .ref 6) rfl (by decide) (by decide) (rfl) rfl ?_
    refine yb_aload rfl rfl ?_
    refine yb_get (v := .ref 11) rfl (by decide) (by decide) (rfl) rfl ?_
    refine yb_get (v := .ref 12) rfl (by decide) (by decide) (rfl) rfl ?_
    refine yb_iload (x := x1) rfl rfl ?_
    refine yb_callVv (As := [.ref 12, .int (xJ x1)]) (a := 6) rfl rfl rfl rfl rfl rfl rfl rfl (by decide) (by decide) (rfl) (by decide) (yV_mono h (fun d9 e10 h => ?_))
    refine yb_iload (x := x1) rfl rfl ?_
    exact yb_ret rfl h
  · replace h := h.2 c
    refine yb_push (v := (-2)) rfl ?_
    exact yb_ret rfl h
theorem yk_154_0 {D L : Nat} {P : xh_D → xd_E → Prop} {d : xh_D} {e : xd_E} {a1 : Int}   (hD : 1 ≤ D) (h : yB D xm_c154 (yQv L P) L 5 [.ref 1, .int (xJ a1), .int (xJ (0 : Int))] [] (xs d 4 (1 : Int) (0 : Int)) e) : yB D xm_c154 (yQv L P) L 0 [.ref 1, .int (xJ a1), .double 0] [] d e := by
  refine yb_aload rfl rfl ?_
  refine yb_get (v := .ref 4) rfl (by decide) (by decide) (rfl) rfl ?_
  refine yb_callVv (As := []) (a := 4) rfl rfl rfl rfl rfl rfl rfl rfl (by decide) (by decide) (rfl) (by decide) (sp_31 (by omega) ?_)
  show yB D xm_c154 _ L 3 [.ref 1, .int (xJ a1), .double 0] [] (xs d 4 (1 : Int) (0 : Int)) e
  refine yb_push (v := 0) rfl ?_
  refine yb_istore rfl rfl rfl ?_
  exact h
theorem yk_154_5 {D L : Nat} {P : xh_D → xd_E → Prop} {d : xh_D} {e : xd_E}  {l1 : Int} {l2 : Int}  (hD : 1 ≤ D) (h : ((-2147483648 ≤ l2 ∧ l2 < 2147483648) ∧ ((-2147483648 ≤ l1 ∧ l1 < 2147483648) ∧ (((l1 ≤ l2) → P d e) ∧ ((¬ l1 ≤ l2) → ((0 ≤ l2 ∧ l2 < 4) ∧ ((0 ≤ (d 4 (1 : Int)) ∧ (d 4 (1 : Int)) < 12) ∧ yB D xm_c154 (yQv L P) L 5 [.ref 1, .int (xJ l1), .int (xJ (l2 + 1))] [] (xs (xs d 5 (d 4 (1 : Int)) (d 9 l2)) 4 (1 : Int) ((d 4 (1 : Int)) + 1)) e))))))) : yB D xm_c154 (yQv L P) L 5 [.ref 1, .int (xJ l1), .int (xJ l2)] [] d e := by
  refine yb_iload (x := l2) rfl rfl ?_
  refine yb_iload (x := l1) rfl rfl ?_
  have r1 := h.1
  replace h := h.2
  have r2 := h.1
  replace h := h.2
  refine yb_icmp_ge (x := l2) (y := l1) rfl rfl r1 r2 (fun c => ?_) (fun c => ?_)
  · replace h := h.1 c
    exact yb_retv rfl h
  · replace h := h.2 c
    refine yb_aload rfl rfl ?_
    refine yb_get (v := .ref 4) rfl (by decide) (by decide) (rfl) rfl ?_
    refine yb_aload rfl rfl ?_
    refine yb_get (v := .ref 6) rfl (by decide) (by decide) (rfl) rfl ?_
    refine yb_get (v := .ref 9) rfl (by decide) (by decide) (rfl) rfl ?_
    refine yb_iload (x := l2) rfl rfl ?_
    have r3 := h.1
    replace h := h.2
    refine yb_iald (j := l2) rfl xd_A9 (by decide) r3 (v := (d 9 l2)) rfl ?_
    have r4 := h.1
    replace h := h.2
    refine yb_callVv (As := [.int (xJ (d 9 l2))]) (a := 4) rfl rfl rfl rfl rfl rfl rfl rfl (by decide) (by decide) (rfl) (by decide) (sp_32 (by omega) r4 ?_)
    show yB D xm_c154 _ L 16 [.ref 1, .int (xJ l1), .int (xJ l2)] [] (xs (xs d 5 (d 4 (1 : Int)) (d 9 l2)) 4 (1 : Int) ((d 4 (1 : Int)) + 1)) e
    refine yb_iinc (x := l2) (n := 1) rfl rfl rfl rfl ?_
    refine yb_goto rfl rfl ?_
    exact h
theorem yk_155_0 {D L : Nat} {P : Int → xh_D → xd_E → Prop} {d : xh_D} {e : xd_E}    (h : yV D 50 L [.ref 17, .ref 11] d e (fun d1 e2 => yC D 24 L [.ref 6, .ref 18] d1 e2 (fun x3 d4 e5 => yB D xm_c155 (yQi L P) L 16 [.ref 1, .int (xJ (0 : Int)), .int (xJ x3), .int (xJ (0 : Int))] [] d4 e5))) : yB D xm_c155 (yQi L P) L 0 [.ref 1, .double 0, .double 0, .double 0] [] d e := by
  refine yb_aload rfl rfl ?_
  refine yb_get (v := .ref 17) rfl (by decide) (by decide) (rfl) rfl ?_
  refine yb_aload rfl rfl ?_
  refine yb_get (v := .ref 11) rfl (by decide) (by decide) (rfl) rfl ?_
  refine yb_callVv (As := [.ref 11]) (a := 17) rfl rfl rfl rfl rfl rfl rfl rfl (by decide) (by decide) (rfl) (by decide) (yV_mono h (fun d1 e2 h => ?_))
  refine yb_push (v := 0) rfl ?_
  refine yb_istore rfl rfl rfl ?_
  refine yb_aload rfl rfl ?_
  refine yb_get (v := .ref 6) rfl (by decide) (by decide) (rfl) rfl ?_
  refine yb_aload rfl rfl ?_
  refine yb_get (v := .ref 17) rfl (by decide) (by decide) (rfl) rfl ?_
  refine yb_get (v := .ref 18) rfl (by decide) (by decide) (rfl) rfl ?_
  refine yb_callVi (As := [.ref 18]) (a := 6) rfl rfl rfl rfl rfl rfl rfl rfl (by decide) (by decide) (rfl) (by decide) (yC_mono h (fun x3 d4 e5 h => ?_))
  refine yb_istore rfl rfl rfl ?_
  refine yb_push (v := 0) rfl ?_
  refine yb_istore rfl rfl rfl ?_
  exact h
theorem yk_155_16 {D L : Nat} {P : Int → xh_D → xd_E → Prop} {d : xh_D} {e : xd_E}  {l1 : Int} {l2 : Int} {l3 : Int}  (hD : 1 ≤ D) (h : ((-2147483648 ≤ l3 ∧ l3 < 2147483648) ∧ ((((81 : Int) ≤ l3) → yB D xm_c155 (yQi L P) L 43 [.ref 1, .int (xJ l1), .double 0, .int (xJ (0 : Int))] [] (xs d 4 (1 : Int) (0 : Int)) e) ∧ ((¬ (81 : Int) ≤ l3) → ((-2147483648 ≤ l2 ∧ l2 < 2147483648) ∧ (((l2 ≤ 0) → yB D xm_c155 (yQi L P) L 43 [.ref 1, .int (xJ l1), .double 0, .int (xJ (0 : Int))] [] (xs d 4 (1 : Int) (0 : Int)) e) ∧ ((¬ l2 ≤ 0) → yV D 28 L [.ref 6, .ref 18, .int (xJ l2)] d e (fun d3 e4 => yC D 24 L [.ref 6, .ref 18] d3 e4 (fun x5 d6 e7 => yB D xm_c155 (yQi L P) L 16 [.ref 1, .int (xJ (l1 + 1)), .int (xJ x5), .int (xJ (l3 + 1))] [] d6 e7))))))))) : yB D xm_c155 (yQi L P) L 16 [.ref 1, .int (xJ l1), .int (xJ l2), .int (xJ l3)] [] d e := by
  refine yb_iload (x := l3) rfl rfl ?_
  refine yb_push (v := 81) rfl ?_
  have r1 := h.1
  replace h := h.2
  refine yb_icmp_ge (x := l3) (y := (81 : Int)) rfl rfl r1 (by decide) (fun c => ?_) (fun c => ?_)
  · replace h := h.1 c
    refine yb_aload rfl rfl ?_
    refine yb_get (v := .ref 4) rfl (by decide) (by decide) (rfl) rfl ?_
    refine yb_callVv (As := []) (a := 4) rfl rfl rfl rfl rfl rfl rfl rfl (by decide) (by decide) (rfl) (by decide) (sp_31 (by omega) ?_)
    show yB D xm_c155 _ L 41 [.ref 1, .int (xJ l1), .int (xJ l2), .int (xJ l3)] [] (xs d 4 (1 : Int) (0 : Int)) e
    refine yb_push (v := 0) rfl ?_
    refine yb_istore rfl rfl rfl ?_
    refine yb_forget (dl := [.ref 1, .int (xJ l1), .double 0, .int (xJ (0 : Int))]) ⟨Or.inl rfl, ⟨Or.inl rfl, ⟨Or.inr ⟨rfl, rfl⟩, ⟨Or.inl rfl, trivial⟩⟩⟩⟩ ?_
    exact h
  · replace h := h.2 c
    refine yb_iload (x := l2) rfl rfl ?_
    have r2 := h.1
    replace h := h.2
    refine yb_if_le (x := l2) rfl rfl r2 (fun c => ?_) (fun c => ?_)
    · replace h := h.1 c
      refine yb_aload rfl rfl ?_
      refine yb_get (v := .ref 4) rfl (by decide) (by decide) (rfl) rfl ?_
      refine yb_callVv (As := []) (a := 4) rfl rfl rfl rfl rfl rfl rfl rfl (by decide) (by decide) (rfl) (by decide) (sp_31 (by omega) ?_)
      show yB D xm_c155 _ L 41 [.ref 1, .int (xJ l1), .int (xJ l2), .int (xJ l3)] [] (xs d 4 (1 : Int) (0 : Int)) e
      refine yb_push (v := 0) rfl ?_
      refine yb_istore rfl rfl rfl ?_
      refine yb_forget (dl := [.ref 1, .int (xJ l1), .double 0, .int (xJ (0 : Int))]) ⟨Or.inl rfl, ⟨Or.inl rfl, ⟨Or.inr ⟨rfl, rfl⟩, ⟨Or.inl rfl, trivial⟩⟩⟩⟩ ?_
      exact h
    · replace h := h.2 c
      refine yb_aload rfl rfl ?_
      refine yb_get (v := .ref 6) rfl (by decide) (by decide) (rfl) rfl ?_
      refine yb_aload rfl rfl ?_
      refine yb_get (v := .ref 17) rfl (by decide) (by decide) (rfl) rfl ?_
      refine yb_get (v := .ref 18) rfl (by decide) (by decide) (rfl) rfl ?_
      refine yb_iload (x := l2) rfl rfl ?_
      refine yb_callVv (As := [.ref 18, .int (xJ l2)]) (a := 6) rfl rfl rfl rfl rfl rfl rfl rfl (by decide) (by decide) (rfl) (by decide) (yV_mono h (fun d3 e4 h => ?_))
      refine yb_iinc (x := l1) (n := 1) rfl rfl rfl rfl ?_
      refine yb_aload rfl rfl ?_
      refine yb_get (v := .ref 6) rfl (by decide) (by decide) (rfl) rfl ?_
      refine yb_aload rfl rfl ?_
      refine yb_get (v := .ref 17) rfl (by decide) (by decide) (rfl) rfl ?_
      refine yb_get (v := .ref 18) rfl (by decide) (by decide) (rfl) rfl ?_
      refine yb_callVi (As := [.ref 18]) (a := 6) rfl rfl rfl rfl rfl rfl rfl rfl (by decide) (by decide) (rfl) (by decide) (yC_mono h (fun x5 d6 e7 h => ?_))
      refine yb_istore rfl rfl rfl ?_
      refine yb_iinc (x := l3) (n := 1) rfl rfl rfl rfl ?_
      refine yb_goto rfl rfl ?_
      exact h
theorem yk_155_43 {D L : Nat} {P : Int → xh_D → xd_E → Prop} {d : xh_D} {e : xd_E}  {l1 : Int} {l3 : Int}  (hD : 1 ≤ D) (h : ((-2147483648 ≤ l3 ∧ l3 < 2147483648) ∧ ((-2147483648 ≤ (d 6 (4 : Int)) ∧ (d 6 (4 : Int)) < 2147483648) ∧ ((((d 6 (4 : Int)) ≤ l3) → P l1 d e) ∧ ((¬ (d 6 (4 : Int)) ≤ l3) → ((0 ≤ l3 ∧ l3 < 9) ∧ ((0 ≤ (d 4 (1 : Int)) ∧ (d 4 (1 : Int)) < 12) ∧ yB D xm_c155 (yQi L P) L 43 [.ref 1, .int (xJ l1), .double 0, .int (xJ (l3 + 1))] [] (xs (xs d 5 (d 4 (1 : Int)) (d 18 l3)) 4 (1 : Int) ((d 4 (1 : Int)) + 1)) e))))))) : yB D xm_c155 (yQi L P) L 43 [.ref 1, .int (xJ l1), .double 0, .int (xJ l3)] [] d e := by
  refine yb_iload (x := l3) rfl rfl ?_
  refine yb_aload rfl rfl ?_
  refine yb_get (v := .ref 6) rfl (by decide) (by decide) (rfl) rfl ?_
  refine yb_get (v := .int (xJ (d 6 (4 : Int)))) rfl (by decide) (by decide) (rfl) rfl ?_
  have r1 := h.1
  replace h := h.2
  have r2 := h.1
  replace h := h.2
  refine yb_icmp_ge (x := l3) (y := (d 6 (4 : Int))) rfl rfl r1 r2 (fun c => ?_) (fun c => ?_)
  · replace h := h.1 c
    refine yb_iload (x := l1) rfl rfl ?_
    exact yb_ret rfl h
  · replace h := h.2 c
    refine yb_aload rfl rfl ?_
    refine yb_get (v := .ref 4) rfl (by decide) (by decide) (rfl) rfl ?_
    refine yb_aload rfl rfl ?_
    refine yb_get (v := .ref 17) rfl (by decide) (by decide) (rfl) rfl ?_
    refine yb_get (v := .ref 18) rfl (by decide) (by decide) (rfl) rfl ?_
    refine yb_iload (x := l3) rfl rfl ?_
    have r3 := h.1
    replace h := h.2
    refine yb_iald (j := l3) rfl xd_A18 (by decide) r3 (v := (d 18 l3)) rfl ?_
    have r4 := h.1
    replace h := h.2
    refine yb_callVv (As := [.int (xJ (d 18 l3))]) (a := 4) rfl rfl rfl rfl rfl rfl rfl rfl (by decide) (by decide) (rfl) (by decide) (sp_32 (by omega) r4 ?_)
    show yB D xm_c155 _ L 56 [.ref 1, .int (xJ l1), .double 0, .int (xJ l3)] [] (xs (xs d 5 (d 4 (1 : Int)) (d 18 l3)) 4 (1 : Int) ((d 4 (1 : Int)) + 1)) e
    refine yb_iinc (x := l3) (n := 1) rfl rfl rfl rfl ?_
    refine yb_goto rfl rfl ?_
    exact h
theorem yk_156_0 {D L : Nat} {P : Int → xh_D → xd_E → Prop} {d : xh_D} {e : xd_E}    (h : yB D xm_c156 (yQi L P) L 4 [.ref 1, .int (xJ (0 : Int)), .int (xJ (0 : Int))] [] d e) : yB D xm_c156 (yQi L P) L 0 [.ref 1, .double 0, .double 0] [] d e := by
  refine yb_push (v := 0) rfl ?_
  refine yb_istore rfl rfl rfl ?_
  refine yb_push (v := 0) rfl ?_
  refine yb_istore rfl rfl rfl ?_
  exact h
theorem yk_156_4 {D L : Nat} {P : Int → xh_D → xd_E → Prop} {d : xh_D} {e : xd_E}  {l1 : Int} {l2 : Int}  (hD : 1 ≤ D) (h : ((-2147483648 ≤ l2 ∧ l2 < 2147483648) ∧ ((-2147483648 ≤ (d 6 (4 : Int)) ∧ (d 6 (4 : Int)) < 2147483648) ∧ ((((d 6 (4 : Int)) ≤ l2) → yC D 29 L [.ref 6, .ref 12] (xs d 4 (1 : Int) (0 : Int)) e (fun x3 d4 e5 => ((0 ≤ (d4 4 (1 : Int)) ∧ (d4 4 (1 : Int)) < 12) ∧ P l1 (xs (xs d4 5 (d4 4 (1 : Int)) x3) 4 (1 : Int) ((d4 4 (1 : Int)) + 1)) e5))) ∧ ((¬ (d 6 (4 : Int)) ≤ l2) → ((0 ≤ l2 ∧ l2 < 9) ∧ ((0 ≤ ((l2 * (9 : Int)) + (d 12 l2)) ∧ ((l2 * (9 : Int)) + (d 12 l2)) < 81) ∧ (∀ v9, v9 = (l1 + (d 8 ((l2 * (9 : Int)) + (d 12 l2)))) → yB D xm_c156 (yQi L P) L 4 [.ref 1, .int (xJ v9), .int (xJ (l2 + 1))] [] d e)))))))) : yB D xm_c156 (yQi L P) L 4 [.ref 1, .int (xJ l1), .int (xJ l2)] [] d e := by
  refine yb_iload (x := l2) rfl rfl ?_
  refine yb_aload rfl rfl ?_
  refine yb_get (v := .ref 6) rfl (by decide) (by decide) (rfl) rfl ?_
  refine yb_get (v := .int (xJ (d 6 (4 : Int)))) rfl (by decide) (by decide) (rfl) rfl ?_
  have r1 := h.1
  replace h := h.2
  have r2 := h.1
  replace h := h.2
  refine yb_icmp_ge (x := l2) (y := (d 6 (4 : Int))) rfl rfl r1 r2 (fun c => ?_) (fun c => ?_)
  · replace h := h.1 c
    refine yb_aload rfl rfl ?_
    refine yb_get (v := .ref 4) rfl (by decide) (by decide) (rfl) rfl ?_
    refine yb_callVv (As := []) (a := 4) rfl rfl rfl rfl rfl rfl rfl rfl (by decide) (by decide) (rfl) (by decide) (sp_31 (by omega) ?_)
    show yB D xm_c156 _ L 30 [.ref 1, .int (xJ l1), .int (xJ l2)] [] (xs d 4 (1 : Int) (0 : Int)) e
    refine yb_aload rfl rfl ?_
    refine yb_get (v := .ref 4) rfl (by decide) (by decide) (rfl) rfl ?_
    refine yb_aload rfl rfl ?_
    refine yb_get (v := .ref 6) rfl (by decide) (by decide) (rfl) rfl ?_
    refine yb_aload rfl rfl ?_
    refine yb_get (v := .ref 11) rfl (by decide) (by decide) (rfl) rfl ?_
    refine yb_get (v := .ref 12) rfl (by decide) (by decide) (rfl) rfl ?_
    refine yb_callVi (As := [.ref 12]) (a := 6) rfl rfl rfl rfl rfl rfl rfl rfl (by decide) (by decide) (rfl) (by show (1 : Nat) ≤ 8; decide) (yC_mono h (fun x3 d4 e5 h => ?_))
    have r6 := h.1
    replace h := h.2
    refine yb_callVv (As := [.int (xJ x3)]) (a := 4) rfl rfl rfl rfl rfl rfl rfl rfl (by decide) (by decide) (rfl) (by decide) (sp_32 (by omega) r6 ?_)
    show yB D xm_c156 _ L 39 [.ref 1, .int (xJ l1), .int (xJ l2)] [] (xs (xs d4 5 (d4 4 (1 : Int)) x3) 4 (1 : Int) ((d4 4 (1 : Int)) + 1)) e5
    refine yb_iload (x := l1) rfl rfl ?_
    exact yb_ret rfl h
  · replace h := h.2 c
    refine yb_iload (x := l1) rfl rfl ?_
    refine yb_aload rfl rfl ?_
    refine yb_get (v := .ref 6) rfl (by decide) (by decide) (rfl) rfl ?_
    refine yb_get (v := .ref 8) rfl (by decide) (by decide) (rfl) rfl ?_
    refine yb_iload (x := l2) rfl rfl ?_
    refine yb_push (v := 9) rfl ?_
    refine yb_imul (x := l2) (y := (9 : Int)) rfl ?_
    refine yb_aload rfl rfl ?_
    refine yb_get (v := .ref 11) rfl (by decide) (by decide) (rfl) rfl ?_
    refine yb_get (v := .ref 12) rfl (by decide) (by decide) (rfl) rfl ?_
    refine yb_iload (x := l2) rfl rfl ?_
    have r7 := h.1
    replace h := h.2
    refine yb_iald (j := l2) rfl xd_A12 (by decide) r7 (v := (d 12 l2)) rfl ?_
    refine yb_iadd (x := (l2 * (9 : Int))) (y := (d 12 l2)) rfl ?_
    have r8 := h.1
    replace h := h.2
    refine yb_iald (j := ((l2 * (9 : Int)) + (d 12 l2))) rfl xd_A8 (by decide) r8 (v := (d 8 ((l2 * (9 : Int)) + (d 12 l2)))) rfl ?_
    refine yb_iadd (x := l1) (y := (d 8 ((l2 * (9 : Int)) + (d 12 l2)))) rfl ?_
    replace h := h _ rfl
    refine yb_istore rfl rfl rfl ?_
    refine yb_iinc (x := l2) (n := 1) rfl rfl rfl rfl ?_
    refine yb_goto rfl rfl ?_
    exact h
theorem yk_157_0 {D L : Nat} {P : Int → xh_D → xd_E → Prop} {d : xh_D} {e : xd_E} {a1 : Int} {a2 : Int}   (hD : 1 ≤ D) (h : ((-2147483648 ≤ a1 ∧ a1 < 2147483648) ∧ ((-2147483648 ≤ (d 6 (4 : Int)) ∧ (d 6 (4 : Int)) < 2147483648) ∧ (((0 ≤ a1 ∧ a1 < (d 6 (4 : Int))) → ((-2147483648 ≤ a2 ∧ a2 < 2147483648) ∧ (((0 ≤ a2 ∧ a2 ≤ 999) → ((-2147483648 ≤ (d 142 (3 : Int)) ∧ (d 142 (3 : Int)) < 2147483648) ∧ (((¬ (d 142 (3 : Int)) = (10 : Int)) → ((0 ≤ (d 142 (3 : Int)) ∧ (d 142 (3 : Int)) < 10) ∧ P ((d 142 (3 : Int)) + 1) (xs (xs (xs d 143 (d 142 (3 : Int)) a1) 144 (d 142 (3 : Int)) a2) 142 (3 : Int) ((d 142 (3 : Int)) + 1)) e)) ∧ (((d 142 (3 : Int)) = (10 : Int)) → P (-1 : Int) d e)))) ∧ (¬ (0 ≤ a2 ∧ a2 ≤ 999) → P (-1 : Int) d e)))) ∧ (¬ (0 ≤ a1 ∧ a1 < (d 6 (4 : Int))) → P (-1 : Int) d e))))) : yB D xm_c157 (yQi L P) L 0 [.ref 1, .int (xJ a1), .int (xJ a2)] [] d e := by
  refine yb_aload rfl rfl ?_
  refine yb_get (v := .ref 6) rfl (by decide) (by decide) (rfl) rfl ?_
  refine yb_iload (x := a1) rfl rfl ?_
  have r1 := h.1
  replace h := h.2
  have r2 := h.1
  replace h := h.2
  refine yb_callVz (As := [.int (xJ a1)]) (a := 6) rfl rfl rfl rfl rfl rfl rfl rfl (by decide) (by decide) (rfl) (by decide) (sp_21 (by omega) ⟨r1, r2⟩ (fun c => ?_) (fun c => ?_))
  · replace h := h.1 c
    show yB D xm_c157 _ L 4 [.ref 1, .int (xJ a1), .int (xJ a2)] [.int (xJ (1 : Int))] d e
    refine yb_if_eq (x := (1 : Int)) rfl rfl (by decide) (fun c => absurd c (by decide)) (fun _ => ?_)
    refine yb_iload (x := a2) rfl rfl ?_
    have r3 := h.1
    replace h := h.2
    refine yb_callSz (As := [.int (xJ a2)]) rfl rfl rfl rfl rfl rfl rfl rfl (by decide) (sp_175 (by omega) r3 (fun c => ?_) (fun c => ?_))
    · replace h := h.1 c
      show yB D xm_c157 _ L 7 [.ref 1, .int (xJ a1), .int (xJ a2)] [.int (xJ (1 : Int))] d e
      refine yb_if_eq (x := (1 : Int)) rfl rfl (by decide) (fun c => absurd c (by decide)) (fun _ => ?_)
      refine yb_aload rfl rfl ?_
      refine yb_get (v := .ref 142) rfl (by decide) (by decide) (rfl) rfl ?_
      refine yb_get (v := .int (xJ (d 142 (3 : Int)))) rfl (by decide) (by decide) (rfl) rfl ?_
      refine yb_push (v := 10) rfl ?_
      have r4 := h.1
      replace h := h.2
      refine yb_icmp_ne (x := (d 142 (3 : Int))) (y := (10 : Int)) rfl rfl r4 (by decide) (fun c => ?_) (fun c => ?_)
      · replace h := h.1 c
        refine yb_aload rfl rfl ?_
        refine yb_get (v := .ref 142) rfl (by decide) (by decide) (rfl) rfl ?_
        refine yb_iload (x := a1) rfl rfl ?_
        refine yb_iload (x := a2) rfl rfl ?_
        have r5 := h.1
        replace h := h.2
        refine yb_callVv (As := [.int (xJ a1), .int (xJ a2)]) (a := 142) rfl rfl rfl rfl rfl rfl rfl rfl (by decide) (by decide) (rfl) (by decide) (sp_80 (by omega) r5 ?_)
        show yB D xm_c157 _ L 20 [.ref 1, .int (xJ a1), .int (xJ a2)] [] (xs (xs (xs d 143 (d 142 (3 : Int)) a1) 144 (d 142 (3 : Int)) a2) 142 (3 : Int) ((d 142 (3 : Int)) + 1)) e
        refine yb_aload rfl rfl ?_
        refine yb_get (v := .ref 142) rfl (by decide) (by decide) (rfl) rfl ?_
        refine yb_get (v := .int (xJ ((d 142 (3 : Int)) + 1))) rfl (by decide) (by decide) (rfl) rfl ?_
        exact yb_ret rfl h
      · replace h := h.2 c
        refine yb_push (v := (-1)) rfl ?_
        exact yb_ret rfl h
    · replace h := h.2 c
      show yB D xm_c157 _ L 7 [.ref 1, .int (xJ a1), .int (xJ a2)] [.int (xJ (0 : Int))] d e
      refine yb_if_eq (x := (0 : Int)) rfl rfl (by decide) (fun _ => ?_) (fun c => absurd (by decide) c)
      refine yb_push (v := (-1)) rfl ?_
      exact yb_ret rfl h
  · replace h := h.2 c
    show yB D xm_c157 _ L 4 [.ref 1, .int (xJ a1), .int (xJ a2)] [.int (xJ (0 : Int))] d e
    refine yb_if_eq (x := (0 : Int)) rfl rfl (by decide) (fun _ => ?_) (fun c => absurd (by decide) c)
    refine yb_push (v := (-1)) rfl ?_
    exact yb_ret rfl h
theorem yk_158_0 {D L : Nat} {P : Int → xh_D → xd_E → Prop} {d : xh_D} {e : xd_E}    (h : P (d 142 (3 : Int)) (xs d 142 (3 : Int) (0 : Int)) e) : yB D xm_c158 (yQi L P) L 0 [.ref 1, .double 0] [] d e := by
  refine yb_aload rfl rfl ?_
  refine yb_get (v := .ref 142) rfl (by decide) (by decide) (rfl) rfl ?_
  refine yb_get (v := .int (xJ (d 142 (3 : Int)))) rfl (by decide) (by decide) (rfl) rfl ?_
  refine yb_istore rfl rfl rfl ?_
  refine yb_aload rfl rfl ?_
  refine yb_get (v := .ref 142) rfl (by decide) (by decide) (rfl) rfl ?_
  refine yb_push (v := 0) rfl ?_
  refine yb_put (z := (0 : Int)) (k := 3) rfl rfl (by decide) (by decide) (rfl) (Nat.le_of_ble_eq_true rfl) rfl (rfl) ?_
  refine yb_iload (x := (d 142 (3 : Int))) rfl rfl ?_
  exact yb_ret rfl h
theorem yk_159_0 {D L : Nat} {P : Int → xh_D → xd_E → Prop} {d : xh_D} {e : xd_E} {a1 : Int}   (hD : 1 ≤ D) (h : ((-2147483648 ≤ a1 ∧ a1 < 2147483648) ∧ (((a1 < 0) → P (-1 : Int) d e) ∧ ((¬ a1 < 0) → ((-2147483648 ≤ (d 142 (3 : Int)) ∧ (d 142 (3 : Int)) < 2147483648) ∧ (((a1 < (d 142 (3 : Int))) → yC D 81 L [.ref 142, .int (xJ a1), .ref 6, .ref 11] d e (fun x3 d4 e5 => P (xp_bc x3) (xs (xs (xs d4 4 (1 : Int) (0 : Int)) 5 (0 : Int) x3) 4 (1 : Int) (1 : Int)) e5)) ∧ ((¬ a1 < (d 142 (3 : Int))) → P (-1 : Int) d e))))))) : yB D xm_c159 (yQi L P) L 0 [.ref 1, .int (xJ a1), .double 0] [] d e := by
  refine yb_iload (x := a1) rfl rfl ?_
  have r1 := h.1
  replace h := h.2
  refine yb_if_lt (x := a1) rfl rfl r1 (fun c => ?_) (fun c => ?_)
  · replace h := h.1 c
    refine yb_push (v := (-1)) rfl ?_
    exact yb_ret rfl h
  · replace h := h.2 c
    refine yb_iload (x := a1) rfl rfl ?_
    refine yb_aload rfl rfl ?_
    refine yb_get (v := .ref 142) rfl (by decide) (by decide) (rfl) rfl ?_
    refine yb_get (v := .int (xJ (d 142 (3 : Int)))) rfl (by decide) (by decide) (rfl) rfl ?_
    have r2 := h.1
    replace h := h.2
    refine yb_icmp_lt (x := a1) (y := (d 142 (3 : Int))) rfl rfl r1 r2 (fun c => ?_) (fun c => ?_)
    · replace h := h.1 c
      refine yb_aload rfl rfl ?_
      refine yb_get (v := .ref 142) rfl (by decide) (by decide) (rfl) rfl ?_
      refine yb_iload (x := a1) rfl rfl ?_
      refine yb_aload rfl rfl ?_
      refine yb_get (v := .ref 6) rfl (by decide) (by decide) (rfl) rfl ?_
      refine yb_aload rfl rfl ?_
      refine yb_get (v := .ref 11) rfl (by decide) (by decide) (rfl) rfl ?_
      refine yb_callVi (As := [.int (xJ a1), .ref 6, .ref 11]) (a := 142) rfl rfl rfl rfl rfl rfl rfl rfl (by decide) (by decide) (rfl) (by decide) (yC_mono h (fun x3 d4 e5 h => ?_))
      refine yb_istore rfl rfl rfl ?_
      refine yb_aload rfl rfl ?_
      refine yb_get (v := .ref 4) rfl (by decide) (by decide) (rfl) rfl ?_
      refine yb_callVv (As := []) (a := 4) rfl rfl rfl rfl rfl rfl rfl rfl (by decide) (by decide) (rfl) (by decide) (sp_31 (by omega) ?_)
      show yB D xm_c159 _ L 21 [.ref 1, .int (xJ a1), .int (xJ x3)] [] (xs d4 4 (1 : Int) (0 : Int)) e5
      refine yb_aload rfl rfl ?_
      refine yb_get (v := .ref 4) rfl (by decide) (by decide) (rfl) rfl ?_
      refine yb_iload (x := x3) rfl rfl ?_
      refine yb_callVv (As := [.int (xJ x3)]) (a := 4) rfl rfl rfl rfl rfl rfl rfl rfl (by decide) (by decide) (rfl) (by decide) (sp_32 (by omega) (by show (0 ≤ (0 : Int) ∧ (0 : Int) < 12); decide) ?_)
      show yB D xm_c159 _ L 25 [.ref 1, .int (xJ a1), .int (xJ x3)] [] (xs (xs (xs d4 4 (1 : Int) (0 : Int)) 5 (0 : Int) x3) 4 (1 : Int) (1 : Int)) e5
      refine yb_iload (x := x3) rfl rfl ?_
      refine yb_callSi (As := [.int (xJ x3)]) rfl rfl rfl rfl rfl rfl rfl rfl (by decide) (sp_0 (by omega) ?_)
      show yB D xm_c159 _ L 27 [.ref 1, .int (xJ a1), .int (xJ x3)] [.int (xJ (xp_bc x3))] (xs (xs (xs d4 4 (1 : Int) (0 : Int)) 5 (0 : Int) x3) 4 (1 : Int) (1 : Int)) e5
      exact yb_ret rfl h
    · replace h := h.2 c
      refine yb_push (v := (-1)) rfl ?_
      exact yb_ret rfl h
theorem yk_160_0 {D L : Nat} {P : Int → xh_D → xd_E → Prop} {d : xh_D} {e : xd_E}    (hD : 1 ≤ D) (h : yB D xm_c160 (yQi L P) L 6 [.ref 1, .int (xJ (xi_shl (1 : Int) (d 6 (4 : Int)) - 1)), .int (xJ (0 : Int))] [] d e) : yB D xm_c160 (yQi L P) L 0 [.ref 1, .double 0, .double 0] [] d e := by
  refine yb_aload rfl rfl ?_
  refine yb_get (v := .ref 6) rfl (by decide) (by decide) (rfl) rfl ?_
  refine yb_callVi (As := []) (a := 6) rfl rfl rfl rfl rfl rfl rfl rfl (by decide) (by decide) (rfl) (by decide) (sp_23 (by omega) ?_)
  show yB D xm_c160 _ L 3 [.ref 1, .double 0, .double 0] [.int (xJ (xi_shl (1 : Int) (d 6 (4 : Int)) - 1))] d e
  refine yb_istore rfl rfl rfl ?_
  refine yb_push (v := 0) rfl ?_
  refine yb_istore rfl rfl rfl ?_
  exact h
theorem yk_160_6 {D L : Nat} {P : Int → xh_D → xd_E → Prop} {d : xh_D} {e : xd_E}  {l1 : Int} {l2 : Int}  (hD : 1 ≤ D) (h : ((-2147483648 ≤ l2 ∧ l2 < 2147483648) ∧ ((-2147483648 ≤ (d 142 (3 : Int)) ∧ (d 142 (3 : Int)) < 2147483648) ∧ ((((d 142 (3 : Int)) ≤ l2) → yC D 82 L [.ref 142, .ref 6, .ref 11] d e (fun x3 d4 e5 => ((-2147483648 ≤ x3 ∧ x3 < 2147483648) ∧ (((¬ x3 = (-1 : Int)) → (((¬ x3 = (-1 : Int)) → P l1 (xs (xs (xs (xs (xs d4 4 (1 : Int) (0 : Int)) 5 (0 : Int) (xp_bc x3)) 4 (1 : Int) (1 : Int)) 5 (1 : Int) x3) 4 (1 : Int) (2 : Int)) e5) ∧ ((x3 = (-1 : Int)) → P l1 (xs (xs (xs (xs (xs d4 4 (1 : Int) (0 : Int)) 5 (0 : Int) (xp_bc x3)) 4 (1 : Int) (1 : Int)) 5 (1 : Int) (0 : Int)) 4 (1 : Int) (2 : Int)) e5))) ∧ ((x3 = (-1 : Int)) → (((¬ x3 = (-1 : Int)) → P l1 (xs (xs (xs (xs (xs d4 4 (1 : Int) (0 : Int)) 5 (0 : Int) (-1 : Int)) 4 (1 : Int) (1 : Int)) 5 (1 : Int) x3) 4 (1 : Int) (2 : Int)) e5) ∧ ((x3 = (-1 : Int)) → P l1 (xs (xs (xs (xs (xs d4 4 (1 : Int) (0 : Int)) 5 (0 : Int) (-1 : Int)) 4 (1 : Int) (1 : Int)) 5 (1 : Int) (0 : Int)) 4 (1 : Int) (2 : Int)) e5))))))) ∧ ((¬ (d 142 (3 : Int)) ≤ l2) → yC D 81 L [.ref 142, .int (xJ l2), .ref 6, .ref 11] d e (fun x7 d8 e9 => yB D xm_c160 (yQi L P) L 6 [.ref 1, .int (xJ (xi_and l1 x7)), .int (xJ (l2 + 1))] [] d8 e9)))))) : yB D xm_c160 (yQi L P) L 6 [.ref 1, .int (xJ l1), .int (xJ l2)] [] d e := by
  refine yb_iload (x := l2) rfl rfl ?_
  refine yb_aload rfl rfl ?_
  refine yb_get (v := .ref 142) rfl (by decide) (by decide) (rfl) rfl ?_
  refine yb_get (v := .int (xJ (d 142 (3 : Int)))) rfl (by decide) (by decide) (rfl) rfl ?_
  have r1 := h.1
  replace h := h.2
  have r2 := h.1
  replace h := h.2
  refine yb_icmp_ge (x := l2) (y := (d 142 (3 : Int))) rfl rfl r1 r2 (fun c => ?_) (fun c => ?_)
  · replace h := h.1 c
    refine yb_aload rfl rfl ?_
    refine yb_get (v := .ref 142) rfl (by decide) (by decide) (rfl) rfl ?_
    refine yb_aload rfl rfl ?_
    refine yb_get (v := .ref 6) rfl (by decide) (by decide) (rfl) rfl ?_
    refine yb_aload rfl rfl ?_
    refine yb_get (v := .ref 11) rfl (by decide) (by decide) (rfl) rfl ?_
    refine yb_callVi (As := [.ref 6, .ref 11]) (a := 142) rfl rfl rfl rfl rfl rfl rfl rfl (by decide) (by decide) (rfl) (by decide) (yC_mono h (fun x3 d4 e5 h => ?_))
    refine yb_istore rfl rfl rfl ?_
    refine yb_aload rfl rfl ?_
    refine yb_get (v := .ref 4) rfl (by decide) (by decide) (rfl) rfl ?_
    refine yb_callVv (As := []) (a := 4) rfl rfl rfl rfl rfl rfl rfl rfl (by decide) (by decide) (rfl) (by decide) (sp_31 (by omega) ?_)
    show yB D xm_c160 _ L 35 [.ref 1, .int (xJ l1), .int (xJ x3)] [] (xs d4 4 (1 : Int) (0 : Int)) e5
    refine yb_aload rfl rfl ?_
    refine yb_get (v := .ref 4) rfl (by decide) (by decide) (rfl) rfl ?_
    refine yb_iload (x := x3) rfl rfl ?_
    refine yb_push (v := (-1)) rfl ?_
    have r6 := h.1
    replace h := h.2
    refine yb_icmp_ne (x := x3) (y := (-1 : Int)) rfl rfl r6 (by decide) (fun c => ?_) (fun c => ?_)
    · replace h := h.1 c
      refine yb_iload (x := x3) rfl rfl ?_
      refine yb_callSi (As := [.int (xJ x3)]) rfl rfl rfl rfl rfl rfl rfl rfl (by show (1 : Nat) ≤ 8; decide) (sp_0 (by omega) ?_)
      show yB D xm_c160 _ L 44 [.ref 1, .int (xJ l1), .int (xJ x3)] [.int (xJ (xp_bc x3)), .ref 4] (xs d4 4 (1 : Int) (0 : Int)) e5
      refine yb_callVv (As := [.int (xJ (xp_bc x3))]) (a := 4) rfl rfl rfl rfl rfl rfl rfl rfl (by decide) (by decide) (rfl) (by decide) (sp_32 (by omega) (by show (0 ≤ (0 : Int) ∧ (0 : Int) < 12); decide) ?_)
      show yB D xm_c160 _ L 45 [.ref 1, .int (xJ l1), .int (xJ x3)] [] (xs (xs (xs d4 4 (1 : Int) (0 : Int)) 5 (0 : Int) (xp_bc x3)) 4 (1 : Int) (1 : Int)) e5
      refine yb_aload rfl rfl ?_
      refine yb_get (v := .ref 4) rfl (by decide) (by decide) (rfl) rfl ?_
      refine yb_iload (x := x3) rfl rfl ?_
      refine yb_push (v := (-1)) rfl ?_
      refine yb_icmp_ne (x := x3) (y := (-1 : Int)) rfl rfl r6 (by decide) (fun c => ?_) (fun c => ?_)
      · replace h := h.1 c
        refine yb_iload (x := x3) rfl rfl ?_
        refine yb_callVv (As := [.int (xJ x3)]) (a := 4) rfl rfl rfl rfl rfl rfl rfl rfl (by decide) (by decide) (rfl) (by decide) (sp_32 (by omega) (by show (0 ≤ (1 : Int) ∧ (1 : Int) < 12); decide) ?_)
        show yB D xm_c160 _ L 54 [.ref 1, .int (xJ l1), .int (xJ x3)] [] (xs (xs (xs (xs (xs d4 4 (1 : Int) (0 : Int)) 5 (0 : Int) (xp_bc x3)) 4 (1 : Int) (1 : Int)) 5 (1 : Int) x3) 4 (1 : Int) (2 : Int)) e5
        refine yb_iload (x := l1) rfl rfl ?_
        exact yb_ret rfl h
      · replace h := h.2 c
        refine yb_push (v := 0) rfl ?_
        refine yb_goto rfl rfl ?_
        refine yb_callVv (As := [.int (xJ (0 : Int))]) (a := 4) rfl rfl rfl rfl rfl rfl rfl rfl (by decide) (by decide) (rfl) (by decide) (sp_32 (by omega) (by show (0 ≤ (1 : Int) ∧ (1 : Int) < 12); decide) ?_)
        show yB D xm_c160 _ L 54 [.ref 1, .int (xJ l1), .int (xJ x3)] [] (xs (xs (xs (xs (xs d4 4 (1 : Int) (0 : Int)) 5 (0 : Int) (xp_bc x3)) 4 (1 : Int) (1 : Int)) 5 (1 : Int) (0 : Int)) 4 (1 : Int) (2 : Int)) e5
        refine yb_iload (x := l1) rfl rfl ?_
        exact yb_ret rfl h
    · replace h := h.2 c
      refine yb_push (v := (-1)) rfl ?_
      refine yb_goto rfl rfl ?_
      refine yb_callVv (As := [.int (xJ (-1 : Int))]) (a := 4) rfl rfl rfl rfl rfl rfl rfl rfl (by decide) (by decide) (rfl) (by decide) (sp_32 (by omega) (by show (0 ≤ (0 : Int) ∧ (0 : Int) < 12); decide) ?_)
      show yB D xm_c160 _ L 45 [.ref 1, .int (xJ l1), .int (xJ x3)] [] (xs (xs (xs d4 4 (1 : Int) (0 : Int)) 5 (0 : Int) (-1 : Int)) 4 (1 : Int) (1 : Int)) e5
      refine yb_aload rfl rfl ?_
      refine yb_get (v := .ref 4) rfl (by decide) (by decide) (rfl) rfl ?_
      refine yb_iload (x := x3) rfl rfl ?_
      refine yb_push (v := (-1)) rfl ?_
      refine yb_icmp_ne (x := x3) (y := (-1 : Int)) rfl rfl r6 (by decide) (fun c => ?_) (fun c => ?_)
      · replace h := h.1 c
        refine yb_iload (x := x3) rfl rfl ?_
        refine yb_callVv (As := [.int (xJ x3)]) (a := 4) rfl rfl rfl rfl rfl rfl rfl rfl (by decide) (by decide) (rfl) (by decide) (sp_32 (by omega) (by show (0 ≤ (1 : Int) ∧ (1 : Int) < 12); decide) ?_)
        show yB D xm_c160 _ L 54 [.ref 1, .int (xJ l1), .int (xJ x3)] [] (xs (xs (xs (xs (xs d4 4 (1 : Int) (0 : Int)) 5 (0 : Int) (-1 : Int)) 4 (1 : Int) (1 : Int)) 5 (1 : Int) x3) 4 (1 : Int) (2 : Int)) e5
        refine yb_iload (x := l1) rfl rfl ?_
        exact yb_ret rfl h
      · replace h := h.2 c
        refine yb_push (v := 0) rfl ?_
        refine yb_goto rfl rfl ?_
        refine yb_callVv (As := [.int (xJ (0 : Int))]) (a := 4) rfl rfl rfl rfl rfl rfl rfl rfl (by decide) (by decide) (rfl) (by decide) (sp_32 (by omega) (by show (0 ≤ (1 : Int) ∧ (1 : Int) < 12); decide) ?_)
        show yB D xm_c160 _ L 54 [.ref 1, .int (xJ l1), .int (xJ x3)] [] (xs (xs (xs (xs (xs d4 4 (1 : Int) (0 : Int)) 5 (0 : Int) (-1 : Int)) 4 (1 : Int) (1 : Int)) 5 (1 : Int) (0 : Int)) 4 (1 : Int) (2 : Int)) e5
        refine yb_iload (x := l1) rfl rfl ?_
        exact yb_ret rfl h
  · replace h := h.2 c
    refine yb_iload (x := l1) rfl rfl ?_
    refine yb_aload rfl rfl ?_
    refine yb_get (v := .ref 142) rfl (by decide) (by decide) (rfl) rfl ?_
    refine yb_iload (x := l2) rfl rfl ?_
    refine yb_aload rfl rfl ?_
    refine yb_get (v := .ref 6) rfl (by decide) (by decide) (rfl) rfl ?_
    refine yb_aload rfl rfl ?_
    refine yb_get (v := .ref 11) rfl (by decide) (by decide) (rfl) rfl ?_
    refine yb_callVi (As := [.int (xJ l2), .ref 6, .ref 11]) (a := 142) rfl rfl rfl rfl rfl rfl rfl rfl (by decide) (by decide) (rfl) (by show (1 : Nat) ≤ 8; decide) (yC_mono h (fun x7 d8 e9 h => ?_))
    refine yb_iand (x := l1) (y := x7) rfl ?_
    refine yb_istore rfl rfl rfl ?_
    refine yb_iinc (x := l2) (n := 1) rfl rfl rfl rfl ?_
    refine yb_goto rfl rfl ?_
    exact h
theorem yk_161_0 {D L : Nat} {P : Int → xh_D → xd_E → Prop} {d : xh_D} {e : xd_E} {a1 : Int} {a2 : Int}   (hD : 2 ≤ D) (h : ((-2147483648 ≤ a1 ∧ a1 < 2147483648) ∧ (((0 ≤ a1 ∧ a1 ≤ 8) → ((-2147483648 ≤ a2 ∧ a2 < 2147483648) ∧ (((0 ≤ a2 ∧ a2 ≤ 999) → yC D 52 L [.ref 11, .int (xJ a1), .int (xJ (1 : Int)), .int (xJ (d 6 (4 : Int)))] d e (fun x3 d4 e5 => yC D 51 L [.ref 11, .int (xJ a2), .int (xJ (d4 6 (4 : Int)))] d4 e5 (fun x6 d7 e8 => P (xp_bc x3 + xp_bc (xi_and x3 (xi_xor x6 (-1 : Int)))) (xs (xs (xs (xs (xs d7 4 (1 : Int) (0 : Int)) 5 (0 : Int) (xi_and x3 (xi_xor x6 (-1 : Int)))) 4 (1 : Int) (1 : Int)) 5 (1 : Int) (xi_and x3 x6)) 4 (1 : Int) (2 : Int)) e8))) ∧ (¬ (0 ≤ a2 ∧ a2 ≤ 999) → P (-1 : Int) d e)))) ∧ (¬ (0 ≤ a1 ∧ a1 ≤ 8) → P (-1 : Int) d e)))) : yB D xm_c161 (yQi L P) L 0 [.ref 1, .int (xJ a1), .int (xJ a2), .double 0, .double 0] [] d e := by
  refine yb_iload (x := a1) rfl rfl ?_
  have r1 := h.1
  replace h := h.2
  refine yb_callSz (As := [.int (xJ a1)]) rfl rfl rfl rfl rfl rfl rfl rfl (by decide) (sp_174 (by omega) r1 (fun c => ?_) (fun c => ?_))
  · replace h := h.1 c
    show yB D xm_c161 _ L 2 [.ref 1, .int (xJ a1), .int (xJ a2), .double 0, .double 0] [.int (xJ (1 : Int))] d e
    refine yb_if_eq (x := (1 : Int)) rfl rfl (by decide) (fun c => absurd c (by decide)) (fun _ => ?_)
    refine yb_iload (x := a2) rfl rfl ?_
    have r2 := h.1
    replace h := h.2
    refine yb_callSz (As := [.int (xJ a2)]) rfl rfl rfl rfl rfl rfl rfl rfl (by decide) (sp_175 (by omega) r2 (fun c => ?_) (fun c => ?_))
    · replace h := h.1 c
      show yB D xm_c161 _ L 5 [.ref 1, .int (xJ a1), .int (xJ a2), .double 0, .double 0] [.int (xJ (1 : Int))] d e
      refine yb_if_ne (x := (1 : Int)) rfl rfl (by decide) (fun _ => ?_) (fun c => absurd c (by decide))
      refine yb_aload rfl rfl ?_
      refine yb_get (v := .ref 11) rfl (by decide) (by decide) (rfl) rfl ?_
      refine yb_iload (x := a1) rfl rfl ?_
      refine yb_push (v := 1) rfl ?_
      refine yb_aload rfl rfl ?_
      refine yb_get (v := .ref 6) rfl (by decide) (by decide) (rfl) rfl ?_
      refine yb_get (v := .int (xJ (d 6 (4 : Int)))) rfl (by decide) (by decide) (rfl) rfl ?_
      refine yb_callVi (As := [.int (xJ a1), .int (xJ (1 : Int)), .int (xJ (d 6 (4 : Int)))]) (a := 11) rfl rfl rfl rfl rfl rfl rfl rfl (by decide) (by decide) (rfl) (by decide) (yC_mono h (fun x3 d4 e5 h => ?_))
      refine yb_istore rfl rfl rfl ?_
      refine yb_aload rfl rfl ?_
      refine yb_get (v := .ref 11) rfl (by decide) (by decide) (rfl) rfl ?_
      refine yb_iload (x := a2) rfl rfl ?_
      refine yb_aload rfl rfl ?_
      refine yb_get (v := .ref 6) rfl (by decide) (by decide) (rfl) rfl ?_
      refine yb_get (v := .int (xJ (d4 6 (4 : Int)))) rfl (by decide) (by decide) (rfl) rfl ?_
      refine yb_callVi (As := [.int (xJ a2), .int (xJ (d4 6 (4 : Int)))]) (a := 11) rfl rfl rfl rfl rfl rfl rfl rfl (by decide) (by decide) (rfl) (by decide) (yC_mono h (fun x6 d7 e8 h => ?_))
      refine yb_istore rfl rfl rfl ?_
      refine yb_aload rfl rfl ?_
      refine yb_get (v := .ref 4) rfl (by decide) (by decide) (rfl) rfl ?_
      refine yb_callVv (As := []) (a := 4) rfl rfl rfl rfl rfl rfl rfl rfl (by decide) (by decide) (rfl) (by decide) (sp_31 (by omega) ?_)
      show yB D xm_c161 _ L 28 [.ref 1, .int (xJ a1), .int (xJ a2), .int (xJ x3), .int (xJ x6)] [] (xs d7 4 (1 : Int) (0 : Int)) e8
      refine yb_aload rfl rfl ?_
      refine yb_get (v := .ref 4) rfl (by decide) (by decide) (rfl) rfl ?_
      refine yb_iload (x := x3) rfl rfl ?_
      refine yb_iload (x := x6) rfl rfl ?_
      refine yb_push (v := (-1)) rfl ?_
      refine yb_ixor (x := x6) (y := (-1 : Int)) rfl ?_
      refine yb_iand (x := x3) (y := (xi_xor x6 (-1 : Int))) rfl ?_
      refine yb_callVv (As := [.int (xJ (xi_and x3 (xi_xor x6 (-1 : Int))))]) (a := 4) rfl rfl rfl rfl rfl rfl rfl rfl (by decide) (by decide) (rfl) (by decide) (sp_32 (by omega) (by show (0 ≤ (0 : Int) ∧ (0 : Int) < 12); decide) ?_)
      show yB D xm_c161 _ L 36 [.ref 1, .int (xJ a1), .int (xJ a2), .int (xJ x3), .int (xJ x6)] [] (xs (xs (xs d7 4 (1 : Int) (0 : Int)) 5 (0 : Int) (xi_and x3 (xi_xor x6 (-1 : Int)))) 4 (1 : Int) (1 : Int)) e8
      refine yb_aload rfl rfl ?_
      refine yb_get (v := .ref 4) rfl (by decide) (by decide) (rfl) rfl ?_
      refine yb_iload (x := x3) rfl rfl ?_
      refine yb_iload (x := x6) rfl rfl ?_
      refine yb_iand (x := x3) (y := x6) rfl ?_
      refine yb_callVv (As := [.int (xJ (xi_and x3 x6))]) (a := 4) rfl rfl rfl rfl rfl rfl rfl rfl (by decide) (by decide) (rfl) (by decide) (sp_32 (by omega) (by show (0 ≤ (1 : Int) ∧ (1 : Int) < 12); decide) ?_)
      show yB D xm_c161 _ L 42 [.ref 1, .int (xJ a1), .int (xJ a2), .int (xJ x3), .int (xJ x6)] [] (xs (xs (xs (xs (xs d7 4 (1 : Int) (0 : Int)) 5 (0 : Int) (xi_and x3 (xi_xor x6 (-1 : Int)))) 4 (1 : Int) (1 : Int)) 5 (1 : Int) (xi_and x3 x6)) 4 (1 : Int) (2 : Int)) e8
      refine yb_iload (x := x3) rfl rfl ?_
      refine yb_iload (x := x6) rfl rfl ?_
      refine yb_callSi (As := [.int (xJ x3), .int (xJ x6)]) rfl rfl rfl rfl rfl rfl rfl rfl (by decide) (sp_162 (by omega) ?_)
      show yB D xm_c161 _ L 45 [.ref 1, .int (xJ a1), .int (xJ a2), .int (xJ x3), .int (xJ x6)] [.int (xJ (xp_bc x3 + xp_bc (xi_and x3 (xi_xor x6 (-1 : Int)))))] (xs (xs (xs (xs (xs d7 4 (1 : Int) (0 : Int)) 5 (0 : Int) (xi_and x3 (xi_xor x6 (-1 : Int)))) 4 (1 : Int) (1 : Int)) 5 (1 : Int) (xi_and x3 x6)) 4 (1 : Int) (2 : Int)) e8
      exact yb_ret rfl h
    · replace h := h.2 c
      show yB D xm_c161 _ L 5 [.ref 1, .int (xJ a1), .int (xJ a2), .double 0, .double 0] [.int (xJ (0 : Int))] d e
      refine yb_if_ne (x := (0 : Int)) rfl rfl (by decide) (fun c => absurd (by decide) c) (fun _ => ?_)
      refine yb_push (v := (-1)) rfl ?_
      exact yb_ret rfl h
  · replace h := h.2 c
    show yB D xm_c161 _ L 2 [.ref 1, .int (xJ a1), .int (xJ a2), .double 0, .double 0] [.int (xJ (0 : Int))] d e
    refine yb_if_eq (x := (0 : Int)) rfl rfl (by decide) (fun _ => ?_) (fun c => absurd (by decide) c)
    refine yb_push (v := (-1)) rfl ?_
    exact yb_ret rfl h
theorem yk_163_0 {D L : Nat} {P : Int → xh_D → xd_E → Prop} {d : xh_D} {e : xd_E} {a1 : Int} {a2 : Int} {a3 : Int}   (hD : 1 ≤ D) (h : ((-2147483648 ≤ a1 ∧ a1 < 2147483648) ∧ (((0 ≤ a1 ∧ a1 ≤ 8) → ((-2147483648 ≤ a2 ∧ a2 < 2147483648) ∧ (((a2 < 0) → P (-1 : Int) d e) ∧ ((¬ a2 < 0) → ((((20 : Int) < a2) → P (-1 : Int) d e) ∧ ((¬ (20 : Int) < a2) → ((-2147483648 ≤ a3 ∧ a3 < 2147483648) ∧ (((a3 < (1 : Int)) → P (-1 : Int) d e) ∧ ((¬ a3 < (1 : Int)) → (((a3 ≤ (40 : Int)) → yC D 52 L [.ref 11, .int (xJ a1), .int (xJ (1 : Int)), .int (xJ (d 6 (4 : Int)))] d e (fun x4 d5 e6 => yB D xm_c163 (yQi L P) L 27 [.ref 1, .double 0, .int (xJ a2), .int (xJ a3), .int (xJ x4), .int (xJ (0 : Int))] [] d5 e6)) ∧ ((¬ a3 ≤ (40 : Int)) → P (-1 : Int) d e))))))))))) ∧ (¬ (0 ≤ a1 ∧ a1 ≤ 8) → P (-1 : Int) d e)))) : yB D xm_c163 (yQi L P) L 0 [.ref 1, .int (xJ a1), .int (xJ a2), .int (xJ a3), .double 0, .double 0] [] d e := by
  refine yb_iload (x := a1) rfl rfl ?_
  have r1 := h.1
  replace h := h.2
  refine yb_callSz (As := [.int (xJ a1)]) rfl rfl rfl rfl rfl rfl rfl rfl (by decide) (sp_174 (by omega) r1 (fun c => ?_) (fun c => ?_))
  · replace h := h.1 c
    show yB D xm_c163 _ L 2 [.ref 1, .int (xJ a1), .int (xJ a2), .int (xJ a3), .double 0, .double 0] [.int (xJ (1 : Int))] d e
    refine yb_if_eq (x := (1 : Int)) rfl rfl (by decide) (fun c => absurd c (by decide)) (fun _ => ?_)
    refine yb_iload (x := a2) rfl rfl ?_
    have r2 := h.1
    replace h := h.2
    refine yb_if_lt (x := a2) rfl rfl r2 (fun c => ?_) (fun c => ?_)
    · replace h := h.1 c
      refine yb_push (v := (-1)) rfl ?_
      exact yb_ret rfl h
    · replace h := h.2 c
      refine yb_iload (x := a2) rfl rfl ?_
      refine yb_push (v := 20) rfl ?_
      refine yb_icmp_gt (x := a2) (y := (20 : Int)) rfl rfl r2 (by decide) (fun c => ?_) (fun c => ?_)
      · replace h := h.1 c
        refine yb_push (v := (-1)) rfl ?_
        exact yb_ret rfl h
      · replace h := h.2 c
        refine yb_iload (x := a3) rfl rfl ?_
        refine yb_push (v := 1) rfl ?_
        have r3 := h.1
        replace h := h.2
        refine yb_icmp_lt (x := a3) (y := (1 : Int)) rfl rfl r3 (by decide) (fun c => ?_) (fun c => ?_)
        · replace h := h.1 c
          refine yb_push (v := (-1)) rfl ?_
          exact yb_ret rfl h
        · replace h := h.2 c
          refine yb_iload (x := a3) rfl rfl ?_
          refine yb_push (v := 40) rfl ?_
          refine yb_icmp_le (x := a3) (y := (40 : Int)) rfl rfl r3 (by decide) (fun c => ?_) (fun c => ?_)
          · replace h := h.1 c
            refine yb_aload rfl rfl ?_
            refine yb_get (v := .ref 11) rfl (by decide) (by decide) (rfl) rfl ?_
            refine yb_iload (x := a1) rfl rfl ?_
            refine yb_push (v := 1) rfl ?_
            refine yb_aload rfl rfl ?_
            refine yb_get (v := .ref 6) rfl (by decide) (by decide) (rfl) rfl ?_
            refine yb_get (v := .int (xJ (d 6 (4 : Int)))) rfl (by decide) (by decide) (rfl) rfl ?_
            refine yb_callVi (As := [.int (xJ a1), .int (xJ (1 : Int)), .int (xJ (d 6 (4 : Int)))]) (a := 11) rfl rfl rfl rfl rfl rfl rfl rfl (by decide) (by decide) (rfl) (by decide) (yC_mono h (fun x4 d5 e6 h => ?_))
            refine yb_istore rfl rfl rfl ?_
            refine yb_push (v := 0) rfl ?_
            refine yb_istore rfl rfl rfl ?_
            refine yb_forget (dl := [.ref 1, .double 0, .int (xJ a2), .int (xJ a3), .int (xJ x4), .int (xJ (0 : Int))]) ⟨Or.inl rfl, ⟨Or.inr ⟨rfl, rfl⟩, ⟨Or.inl rfl, ⟨Or.inl rfl, ⟨Or.inl rfl, ⟨Or.inl rfl, trivial⟩⟩⟩⟩⟩⟩ ?_
            exact h
          · replace h := h.2 c
            refine yb_push (v := (-1)) rfl ?_
            exact yb_ret rfl h
  · replace h := h.2 c
    show yB D xm_c163 _ L 2 [.ref 1, .int (xJ a1), .int (xJ a2), .int (xJ a3), .double 0, .double 0] [.int (xJ (0 : Int))] d e
    refine yb_if_eq (x := (0 : Int)) rfl rfl (by decide) (fun _ => ?_) (fun c => absurd (by decide) c)
    refine yb_push (v := (-1)) rfl ?_
    exact yb_ret rfl h
theorem yk_163_27 {D L : Nat} {P : Int → xh_D → xd_E → Prop} {d : xh_D} {e : xd_E}  {l2 : Int} {l3 : Int} {l4 : Int} {l5 : Int}  (hD : 2 ≤ D) (h : ((-2147483648 ≤ l5 ∧ l5 < 2147483648) ∧ ((-2147483648 ≤ l3 ∧ l3 < 2147483648) ∧ (((l3 ≤ l5) → P (-2 : Int) d e) ∧ ((¬ l3 ≤ l5) → yC D 51 L [.ref 11, .int (xJ ((d 11 (5 : Int)) + l5)), .int (xJ (d 6 (4 : Int)))] d e (fun x3 d4 e5 => ((-2147483648 ≤ (xp_bc l4 + xp_bc (xi_and l4 (xi_xor x3 (-1 : Int)))) ∧ (xp_bc l4 + xp_bc (xi_and l4 (xi_xor x3 (-1 : Int)))) < 2147483648) ∧ ((-2147483648 ≤ l2 ∧ l2 < 2147483648) ∧ (((l2 < (xp_bc l4 + xp_bc (xi_and l4 (xi_xor x3 (-1 : Int))))) → yB D xm_c163 (yQi L P) L 27 [.ref 1, .double 0, .int (xJ l2), .int (xJ l3), .int (xJ l4), .int (xJ (l5 + 1))] [] d4 e5) ∧ ((¬ l2 < (xp_bc l4 + xp_bc (xi_and l4 (xi_xor x3 (-1 : Int))))) → P l5 d4 e5)))))))))) : yB D xm_c163 (yQi L P) L 27 [.ref 1, .double 0, .int (xJ l2), .int (xJ l3), .int (xJ l4), .int (xJ l5)] [] d e := by
  refine yb_iload (x := l5) rfl rfl ?_
  refine yb_iload (x := l3) rfl rfl ?_
  have r1 := h.1
  replace h := h.2
  have r2 := h.1
  replace h := h.2
  refine yb_icmp_ge (x := l5) (y := l3) rfl rfl r1 r2 (fun c => ?_) (fun c => ?_)
  · replace h := h.1 c
    refine yb_push (v := (-2)) rfl ?_
    exact yb_ret rfl h
  · replace h := h.2 c
    refine yb_iload (x := l4) rfl rfl ?_
    refine yb_aload rfl rfl ?_
    refine yb_get (v := .ref 11) rfl (by decide) (by decide) (rfl) rfl ?_
    refine yb_aload rfl rfl ?_
    refine yb_get (v := .ref 11) rfl (by decide) (by decide) (rfl) rfl ?_
    refine yb_get (v := .int (xJ (d 11 (5 : Int)))) rfl (by decide) (by decide) (rfl) rfl ?_
    refine yb_iload (x := l5) rfl rfl ?_
    refine yb_iadd (x := (d 11 (5 : Int))) (y := l5) rfl ?_
    refine yb_aload rfl rfl ?_
    refine yb_get (v := .ref 6) rfl (by decide) (by decide) (rfl) rfl ?_
    refine yb_get (v := .int (xJ (d 6 (4 : Int)))) rfl (by decide) (by decide) (rfl) rfl ?_
    refine yb_callVi (As := [.int (xJ ((d 11 (5 : Int)) + l5)), .int (xJ (d 6 (4 : Int)))]) (a := 11) rfl rfl rfl rfl rfl rfl rfl rfl (by decide) (by decide) (rfl) (by show (1 : Nat) ≤ 8; decide) (yC_mono h (fun x3 d4 e5 h => ?_))
    refine yb_callSi (As := [.int (xJ l4), .int (xJ x3)]) rfl rfl rfl rfl rfl rfl rfl rfl (by decide) (sp_162 (by omega) ?_)
    show yB D xm_c163 _ L 43 [.ref 1, .double 0, .int (xJ l2), .int (xJ l3), .int (xJ l4), .int (xJ l5)] [.int (xJ (xp_bc l4 + xp_bc (xi_and l4 (xi_xor x3 (-1 : Int)))))] d4 e5
    refine yb_iload (x := l2) rfl rfl ?_
    have r6 := h.1
    replace h := h.2
    have r7 := h.1
    replace h := h.2
    refine yb_icmp_gt (x := (xp_bc l4 + xp_bc (xi_and l4 (xi_xor x3 (-1 : Int))))) (y := l2) rfl rfl r6 r7 (fun c => ?_) (fun c => ?_)
    · replace h := h.1 c
      refine yb_iinc (x := l5) (n := 1) rfl rfl rfl rfl ?_
      refine yb_goto rfl rfl ?_
      exact h
    · replace h := h.2 c
      refine yb_iload (x := l5) rfl rfl ?_
      exact yb_ret rfl h
theorem yk_164_0 {D L : Nat} {P : Int → xh_D → xd_E → Prop} {d : xh_D} {e : xd_E} {a1 : Int}   (hD : 1 ≤ D) (h : ((-2147483648 ≤ (d 6 (4 : Int)) ∧ (d 6 (4 : Int)) < 2147483648) ∧ (((¬ (d 6 (4 : Int)) = (9 : Int)) → (∀ v2, v2 = ((a1 * 1103515245 + 12345) * 1103515245 + 12345) → ((0 ≤ (xi_ushr (a1 * 1103515245 + 12345) (16 : Int)) ∧ (xi_ushr (a1 * 1103515245 + 12345) (16 : Int)) < 2147483648) ∧ ((0 ≤ (xi_ushr v2 (16 : Int)) ∧ (xi_ushr v2 (16 : Int)) < 2147483648) ∧ ((0 ≤ (xi_ushr (v2 * 1103515245 + 12345) (16 : Int)) ∧ (xi_ushr (v2 * 1103515245 + 12345) (16 : Int)) < 2147483648) ∧ ((0 ≤ (d 6 (4 : Int)) ∧ (d 6 (4 : Int)) < 9) ∧ P (((d 6 (4 : Int)) + 1) - (1 : Int)) (xs (xs (xs (xs (xs d 12 (d 6 (4 : Int)) ((xi_ushr (a1 * 1103515245 + 12345) (16 : Int)) % (9 : Int))) 13 (d 6 (4 : Int)) ((xi_ushr v2 (16 : Int)) % (9 : Int))) 14 (d 6 (4 : Int)) ((xi_ushr (v2 * 1103515245 + 12345) (16 : Int)) % (64 : Int))) 6 (4 : Int) ((d 6 (4 : Int)) + 1)) 23 (4 : Int) (0 : Int)) e)))))) ∧ (((d 6 (4 : Int)) = (9 : Int)) → P (-1 : Int) d e)))) : yB D xm_c164 (yQi L P) L 0 [.ref 1, .int (xJ a1), .double 0, .double 0, .double 0] [] d e := by
  refine yb_aload rfl rfl ?_
  refine yb_get (v := .ref 6) rfl (by decide) (by decide) (rfl) rfl ?_
  refine yb_get (v := .int (xJ (d 6 (4 : Int)))) rfl (by decide) (by decide) (rfl) rfl ?_
  refine yb_push (v := 9) rfl ?_
  have r1 := h.1
  replace h := h.2
  refine yb_icmp_ne (x := (d 6 (4 : Int))) (y := (9 : Int)) rfl rfl r1 (by decide) (fun c => ?_) (fun c => ?_)
  · replace h := h.1 c
    refine yb_iload (x := a1) rfl rfl ?_
    refine yb_callSi (As := [.int (xJ a1)]) rfl rfl rfl rfl rfl rfl rfl rfl (by decide) (sp_165 (by omega) ?_)
    show yB D xm_c164 _ L 9 [.ref 1, .int (xJ a1), .double 0, .double 0, .double 0] [.int (xJ (a1 * 1103515245 + 12345))] d e
    refine yb_istore rfl rfl rfl ?_
    refine yb_iload (x := (a1 * 1103515245 + 12345)) rfl rfl ?_
    refine yb_callSi (As := [.int (xJ (a1 * 1103515245 + 12345))]) rfl rfl rfl rfl rfl rfl rfl rfl (by decide) (sp_165 (by omega) ?_)
    show yB D xm_c164 _ L 12 [.ref 1, .int (xJ a1), .int (xJ (a1 * 1103515245 + 12345)), .double 0, .double 0] [.int (xJ ((a1 * 1103515245 + 12345) * 1103515245 + 12345))] d e
    replace h := h _ rfl
    refine yb_istore rfl rfl rfl ?_
    refine yb_iload (x := ((a1 * 1103515245 + 12345) * 1103515245 + 12345)) rfl rfl ?_
    refine yb_callSi (As := [.int (xJ ((a1 * 1103515245 + 12345) * 1103515245 + 12345))]) rfl rfl rfl rfl rfl rfl rfl rfl (by decide) (sp_165 (by omega) ?_)
    show yB D xm_c164 _ L 15 [.ref 1, .int (xJ a1), .int (xJ (a1 * 1103515245 + 12345)), .int (xJ ((a1 * 1103515245 + 12345) * 1103515245 + 12345)), .double 0] [.int (xJ (((a1 * 1103515245 + 12345) * 1103515245 + 12345) * 1103515245 + 12345))] d e
    refine yb_istore rfl rfl rfl ?_
    refine yb_aload rfl rfl ?_
    refine yb_iload (x := (a1 * 1103515245 + 12345)) rfl rfl ?_
    refine yb_push (v := 16) rfl ?_
    refine yb_iushr (x := (a1 * 1103515245 + 12345)) (y := (16 : Int)) rfl ?_
    refine yb_push (v := 9) rfl ?_
    have r3 := h.1
    replace h := h.2
    refine yb_irem (x := (xi_ushr (a1 * 1103515245 + 12345) (16 : Int))) (y := (9 : Int)) rfl r3 (by decide) ?_
    refine yb_iload (x := ((a1 * 1103515245 + 12345) * 1103515245 + 12345)) rfl rfl ?_
    refine yb_push (v := 16) rfl ?_
    refine yb_iushr (x := ((a1 * 1103515245 + 12345) * 1103515245 + 12345)) (y := (16 : Int)) rfl ?_
    refine yb_push (v := 9) rfl ?_
    have r4 := h.1
    replace h := h.2
    refine yb_irem (x := (xi_ushr ((a1 * 1103515245 + 12345) * 1103515245 + 12345) (16 : Int))) (y := (9 : Int)) rfl r4 (by decide) ?_
    refine yb_iload (x := (((a1 * 1103515245 + 12345) * 1103515245 + 12345) * 1103515245 + 12345)) rfl rfl ?_
    refine yb_push (v := 16) rfl ?_
    refine yb_iushr (x := (((a1 * 1103515245 + 12345) * 1103515245 + 12345) * 1103515245 + 12345)) (y := (16 : Int)) rfl ?_
    refine yb_push (v := 64) rfl ?_
    have r5 := h.1
    replace h := h.2
    refine yb_irem (x := (xi_ushr (((a1 * 1103515245 + 12345) * 1103515245 + 12345) * 1103515245 + 12345) (16 : Int))) (y := (64 : Int)) rfl r5 (by decide) ?_
    have r6 := h.1
    replace h := h.2
    refine yb_callVv (As := [.int (xJ ((xi_ushr (a1 * 1103515245 + 12345) (16 : Int)) % (9 : Int))), .int (xJ ((xi_ushr ((a1 * 1103515245 + 12345) * 1103515245 + 12345) (16 : Int)) % (9 : Int))), .int (xJ ((xi_ushr (((a1 * 1103515245 + 12345) * 1103515245 + 12345) * 1103515245 + 12345) (16 : Int)) % (64 : Int)))]) (a := 1) rfl rfl rfl rfl rfl rfl rfl rfl (by decide) (by decide) (rfl) (by decide) (sp_104 (by omega) r6 ?_)
    show yB D xm_c164 _ L 33 [.ref 1, .int (xJ a1), .int (xJ (a1 * 1103515245 + 12345)), .int (xJ ((a1 * 1103515245 + 12345) * 1103515245 + 12345)), .int (xJ (((a1 * 1103515245 + 12345) * 1103515245 + 12345) * 1103515245 + 12345))] [] (xs (xs (xs (xs d 12 (d 6 (4 : Int)) ((xi_ushr (a1 * 1103515245 + 12345) (16 : Int)) % (9 : Int))) 13 (d 6 (4 : Int)) ((xi_ushr ((a1 * 1103515245 + 12345) * 1103515245 + 12345) (16 : Int)) % (9 : Int))) 14 (d 6 (4 : Int)) ((xi_ushr (((a1 * 1103515245 + 12345) * 1103515245 + 12345) * 1103515245 + 12345) (16 : Int)) % (64 : Int))) 6 (4 : Int) ((d 6 (4 : Int)) + 1)) e
    refine yb_aload rfl rfl ?_
    refine yb_get (v := .ref 23) rfl (by decide) (by decide) (rfl) rfl ?_
    refine yb_callVv (As := []) (a := 23) rfl rfl rfl rfl rfl rfl rfl rfl (by decide) (by decide) (rfl) (by decide) (sp_19 (by omega) ?_)
    show yB D xm_c164 _ L 36 [.ref 1, .int (xJ a1), .int (xJ (a1 * 1103515245 + 12345)), .int (xJ ((a1 * 1103515245 + 12345) * 1103515245 + 12345)), .int (xJ (((a1 * 1103515245 + 12345) * 1103515245 + 12345) * 1103515245 + 12345))] [] (xs (xs (xs (xs (xs d 12 (d 6 (4 : Int)) ((xi_ushr (a1 * 1103515245 + 12345) (16 : Int)) % (9 : Int))) 13 (d 6 (4 : Int)) ((xi_ushr ((a1 * 1103515245 + 12345) * 1103515245 + 12345) (16 : Int)) % (9 : Int))) 14 (d 6 (4 : Int)) ((xi_ushr (((a1 * 1103515245 + 12345) * 1103515245 + 12345) * 1103515245 + 12345) (16 : Int)) % (64 : Int))) 6 (4 : Int) ((d 6 (4 : Int)) + 1)) 23 (4 : Int) (0 : Int)) e
    refine yb_aload rfl rfl ?_
    refine yb_get (v := .ref 6) rfl (by decide) (by decide) (rfl) rfl ?_
    refine yb_get (v := .int (xJ ((d 6 (4 : Int)) + 1))) rfl (by decide) (by decide) (rfl) rfl ?_
    refine yb_push (v := 1) rfl ?_
    refine yb_isub (x := ((d 6 (4 : Int)) + 1)) (y := (1 : Int)) rfl ?_
    exact yb_ret rfl h
  · replace h := h.2 c
    refine yb_push (v := (-1)) rfl ?_
    exact yb_ret rfl h
theorem yk_166_0 {D L : Nat} {P1 P0 : xh_D → xd_E → Prop} {d : xh_D} {e : xd_E} {a1 : Int}   (h : ((-2147483648 ≤ a1 ∧ a1 < 2147483648) ∧ (((a1 < 0) → P0 d e) ∧ ((¬ a1 < 0) → (((a1 < (2 : Int)) → ((0 ≤ a1 ∧ a1 < 2) ∧ yV D 50 L [.ref (99 + 6 * a1.toNat), .ref 11] d e (fun d3 e4 => P1 (xs d3 26 a1 (d3 6 (4 : Int))) e4))) ∧ ((¬ a1 < (2 : Int)) → P0 d e)))))) : yB D xm_c166 (yQz L P1 P0) L 0 [.ref 1, .int (xJ a1)] [] d e := by
  refine yb_iload (x := a1) rfl rfl ?_
  have r1 := h.1
  replace h := h.2
  refine yb_if_lt (x := a1) rfl rfl r1 (fun c => ?_) (fun c => ?_)
  · replace h := h.1 c
    refine yb_push (v := 0) rfl ?_
    exact yb_ret0 rfl h
  · replace h := h.2 c
    refine yb_iload (x := a1) rfl rfl ?_
    refine yb_push (v := 2) rfl ?_
    refine yb_icmp_lt (x := a1) (y := (2 : Int)) rfl rfl r1 (by decide) (fun c => ?_) (fun c => ?_)
    · replace h := h.1 c
      refine yb_aload rfl rfl ?_
      refine yb_get (v := .ref 23) rfl (by decide) (by decide) (rfl) rfl ?_
      refine yb_get (v := .ref 25) rfl (by decide) (by decide) (rfl) rfl ?_
      refine yb_iload (x := a1) rfl rfl ?_
      have r2 := h.1
      replace h := h.2
      refine yb_aald (j := a1) (v := .ref (99 + 6 * a1.toNat)) rfl (by decide) (by decide) rfl (by decide) r2 (xp_Sn r2) ?_
      refine yb_aload rfl rfl ?_
      refine yb_get (v := .ref 11) rfl (by decide) (by decide) (rfl) rfl ?_
      refine yb_callVv (As := [.ref 11]) (a := (99 + 6 * a1.toNat)) rfl rfl rfl rfl rfl rfl rfl rfl (xd_Sp (xp_S99 r2)).1 (xd_Sp (xp_S99 r2)).2 ((xd_S (xp_S99 r2) L _ _).1) (by decide) (yV_mono h (fun d3 e4 h => ?_))
      refine yb_aload rfl rfl ?_
      refine yb_get (v := .ref 23) rfl (by decide) (by decide) (rfl) rfl ?_
      refine yb_get (v := .ref 26) rfl (by decide) (by decide) (rfl) rfl ?_
      refine yb_iload (x := a1) rfl rfl ?_
      refine yb_aload rfl rfl ?_
      refine yb_get (v := .ref 6) rfl (by decide) (by decide) (rfl) rfl ?_
      refine yb_get (v := .int (xJ (d3 6 (4 : Int)))) rfl (by decide) (by decide) (rfl) rfl ?_
      refine yb_iast (j := a1) (x := (d3 6 (4 : Int))) rfl xd_A26 (by decide) r2 ?_
      refine yb_push (v := 1) rfl ?_
      exact yb_ret1 rfl h
    · replace h := h.2 c
      refine yb_push (v := 0) rfl ?_
      exact yb_ret0 rfl h
theorem yk_167_0 {D L : Nat} {P1 P0 : xh_D → xd_E → Prop} {d : xh_D} {e : xd_E} {a1 : Int}   (hD : 1 ≤ D) (h : ((-2147483648 ≤ a1 ∧ a1 < 2147483648) ∧ (((a1 < 0) → P0 d e) ∧ ((¬ a1 < 0) → ((((2 : Int) ≤ a1) → P0 d e) ∧ ((¬ (2 : Int) ≤ a1) → ((0 ≤ a1 ∧ a1 < 2) ∧ ((-2147483648 ≤ (d 26 a1) ∧ (d 26 a1) < 2147483648) ∧ ((-2147483648 ≤ (d 6 (4 : Int)) ∧ (d 6 (4 : Int)) < 2147483648) ∧ ((((d 26 a1) = (d 6 (4 : Int))) → yV D 50 L [.ref 11, .ref (99 + 6 * a1.toNat)] d e (fun d5 e6 => P1 (xs d5 23 (4 : Int) (0 : Int)) e6)) ∧ ((¬ (d 26 a1) = (d 6 (4 : Int))) → P0 d e))))))))))) : yB D xm_c167 (yQz L P1 P0) L 0 [.ref 1, .int (xJ a1)] [] d e := by
  refine yb_iload (x := a1) rfl rfl ?_
  have r1 := h.1
  replace h := h.2
  refine yb_if_lt (x := a1) rfl rfl r1 (fun c => ?_) (fun c => ?_)
  · replace h := h.1 c
    refine yb_push (v := 0) rfl ?_
    exact yb_ret0 rfl h
  · replace h := h.2 c
    refine yb_iload (x := a1) rfl rfl ?_
    refine yb_push (v := 2) rfl ?_
    refine yb_icmp_ge (x := a1) (y := (2 : Int)) rfl rfl r1 (by decide) (fun c => ?_) (fun c => ?_)
    · replace h := h.1 c
      refine yb_push (v := 0) rfl ?_
      exact yb_ret0 rfl h
    · replace h := h.2 c
      refine yb_aload rfl rfl ?_
      refine yb_get (v := .ref 23) rfl (by decide) (by decide) (rfl) rfl ?_
      refine yb_get (v := .ref 26) rfl (by decide) (by decide) (rfl) rfl ?_
      refine yb_iload (x := a1) rfl rfl ?_
      have r2 := h.1
      replace h := h.2
      refine yb_iald (j := a1) rfl xd_A26 (by decide) r2 (v := (d 26 a1)) rfl ?_
      refine yb_aload rfl rfl ?_
      refine yb_get (v := .ref 6) rfl (by decide) (by decide) (rfl) rfl ?_
      refine yb_get (v := .int (xJ (d 6 (4 : Int)))) rfl (by decide) (by decide) (rfl) rfl ?_
      have r3 := h.1
      replace h := h.2
      have r4 := h.1
      replace h := h.2
      refine yb_icmp_eq (x := (d 26 a1)) (y := (d 6 (4 : Int))) rfl rfl r3 r4 (fun c => ?_) (fun c => ?_)
      · replace h := h.1 c
        refine yb_aload rfl rfl ?_
        refine yb_get (v := .ref 11) rfl (by decide) (by decide) (rfl) rfl ?_
        refine yb_aload rfl rfl ?_
        refine yb_get (v := .ref 23) rfl (by decide) (by decide) (rfl) rfl ?_
        refine yb_get (v := .ref 25) rfl (by decide) (by decide) (rfl) rfl ?_
        refine yb_iload (x := a1) rfl rfl ?_
        refine yb_aald (j := a1) (v := .ref (99 + 6 * a1.toNat)) rfl (by decide) (by decide) rfl (by decide) r2 (xp_Sn r2) ?_
        refine yb_callVv (As := [.ref (99 + 6 * a1.toNat)]) (a := 11) rfl rfl rfl rfl rfl rfl rfl rfl (by decide) (by decide) (rfl) (by decide) (yV_mono h (fun d5 e6 h => ?_))
        refine yb_aload rfl rfl ?_
        refine yb_get (v := .ref 23) rfl (by decide) (by decide) (rfl) rfl ?_
        refine yb_callVv (As := []) (a := 23) rfl rfl rfl rfl rfl rfl rfl rfl (by decide) (by decide) (rfl) (by decide) (sp_19 (by omega) ?_)
        show yB D xm_c167 _ L 27 [.ref 1, .int (xJ a1)] [] (xs d5 23 (4 : Int) (0 : Int)) e6
        refine yb_push (v := 1) rfl ?_
        exact yb_ret1 rfl h
      · replace h := h.2 c
        refine yb_push (v := 0) rfl ?_
        exact yb_ret0 rfl h
theorem yk_168_0 {D L : Nat} {P : Int → xh_D → xd_E → Prop} {d : xh_D} {e : xd_E} {a1 : Int}   (hD : 2 ≤ D) (h : ((-2147483648 ≤ a1 ∧ a1 < 2147483648) ∧ (((a1 < 0 ∨ 9 < a1) → P (-1 : Int) d e) ∧ (a1 = 0 → P (d 6 (4 : Int)) d e) ∧ (a1 = 1 → P (d 11 (5 : Int)) d e) ∧ (a1 = 2 → yC D 51 L [.ref 11, .int (xJ (d 11 (5 : Int))), .int (xJ (d 6 (4 : Int)))] d e (fun x2 d3 e4 => P x2 d3 e4)) ∧ (a1 = 3 → P (d 127 (8 : Int)) d e) ∧ (a1 = 4 → P (d 136 (5 : Int)) d e) ∧ (a1 = 5 → P (d 142 (3 : Int)) d e) ∧ (a1 = 6 → ((-2147483648 ≤ (d 11 (5 : Int)) ∧ (d 11 (5 : Int)) < 2147483648) ∧ P (min (d 11 (5 : Int)) 30) d e)) ∧ (a1 = 7 → P (d 23 (4 : Int)) d e) ∧ (a1 = 8 → P (d 4 (1 : Int)) d e) ∧ (a1 = 9 → P (d 2 (1 : Int)) d e)))) : yB D xm_c168 (yQi L P) L 0 [.ref 1, .int (xJ a1)] [] d e := by
  refine yb_iload (x := a1) rfl rfl ?_
  have r1 := h.1
  replace h := h.2
  refine yb_table (x := a1) rfl rfl r1 (fun c => ?_) (fun c1 c2 => ?_)
  · replace h := h.1 c
    refine yb_push (v := (-1)) rfl ?_
    exact yb_ret rfl h
  · rcases (show a1 = 0 ∨ a1 = 1 ∨ a1 = 2 ∨ a1 = 3 ∨ a1 = 4 ∨ a1 = 5 ∨ a1 = 6 ∨ a1 = 7 ∨ a1 = 8 ∨ a1 = 9 by omega) with c | c | c | c | c | c | c | c | c | c
    · replace h := h.2.1 c
      refine ⟨_, by rw [c]; rfl, ?_⟩
      refine yb_aload rfl rfl ?_
      refine yb_get (v := .ref 6) rfl (by decide) (by decide) (rfl) rfl ?_
      refine yb_get (v := .int (xJ (d 6 (4 : Int)))) rfl (by decide) (by decide) (rfl) rfl ?_
      exact yb_ret rfl h
    · replace h := h.2.2.1 c
      refine ⟨_, by rw [c]; rfl, ?_⟩
      refine yb_aload rfl rfl ?_
      refine yb_get (v := .ref 11) rfl (by decide) (by decide) (rfl) rfl ?_
      refine yb_get (v := .int (xJ (d 11 (5 : Int)))) rfl (by decide) (by decide) (rfl) rfl ?_
      exact yb_ret rfl h
    · replace h := h.2.2.2.1 c
      refine ⟨_, by rw [c]; rfl, ?_⟩
      refine yb_aload rfl rfl ?_
      refine yb_get (v := .ref 11) rfl (by decide) (by decide) (rfl) rfl ?_
      refine yb_aload rfl rfl ?_
      refine yb_get (v := .ref 11) rfl (by decide) (by decide) (rfl) rfl ?_
      refine yb_get (v := .int (xJ (d 11 (5 : Int)))) rfl (by decide) (by decide) (rfl) rfl ?_
      refine yb_aload rfl rfl ?_
      refine yb_get (v := .ref 6) rfl (by decide) (by decide) (rfl) rfl ?_
      refine yb_get (v := .int (xJ (d 6 (4 : Int)))) rfl (by decide) (by decide) (rfl) rfl ?_
      refine yb_callVi (As := [.int (xJ (d 11 (5 : Int))), .int (xJ (d 6 (4 : Int)))]) (a := 11) rfl rfl rfl rfl rfl rfl rfl rfl (by decide) (by decide) (rfl) (by decide) (yC_mono h (fun x2 d3 e4 h => ?_))
      exact yb_ret rfl h
    · replace h := h.2.2.2.2.1 c
      refine ⟨_, by rw [c]; rfl, ?_⟩
      refine yb_aload rfl rfl ?_
      refine yb_get (v := .ref 127) rfl (by decide) (by decide) (rfl) rfl ?_
      refine yb_get (v := .int (xJ (d 127 (8 : Int)))) rfl (by decide) (by decide) (rfl) rfl ?_
      exact yb_ret rfl h
    · replace h := h.2.2.2.2.2.1 c
      refine ⟨_, by rw [c]; rfl, ?_⟩
      refine yb_aload rfl rfl ?_
      refine yb_get (v := .ref 136) rfl (by decide) (by decide) (rfl) rfl ?_
      refine yb_get (v := .int (xJ (d 136 (5 : Int)))) rfl (by decide) (by decide) (rfl) rfl ?_
      exact yb_ret rfl h
    · replace h := h.2.2.2.2.2.2.1 c
      refine ⟨_, by rw [c]; rfl, ?_⟩
      refine yb_aload rfl rfl ?_
      refine yb_get (v := .ref 142) rfl (by decide) (by decide) (rfl) rfl ?_
      refine yb_get (v := .int (xJ (d 142 (3 : Int)))) rfl (by decide) (by decide) (rfl) rfl ?_
      exact yb_ret rfl h
    · replace h := h.2.2.2.2.2.2.2.1 c
      refine ⟨_, by rw [c]; rfl, ?_⟩
      refine yb_aload rfl rfl ?_
      refine yb_get (v := .ref 11) rfl (by decide) (by decide) (rfl) rfl ?_
      have r5 := h.1
      replace h := h.2
      refine yb_callVi (As := []) (a := 11) rfl rfl rfl rfl rfl rfl rfl rfl (by decide) (by decide) (rfl) (by decide) (sp_57_11 (by omega) r5 ?_)
      show yB D xm_c168 _ L 35 [.ref 1, .int (xJ a1)] [.int (xJ (min (d 11 (5 : Int)) 30))] d e
      exact yb_ret rfl h
    · replace h := h.2.2.2.2.2.2.2.2.1 c
      refine ⟨_, by rw [c]; rfl, ?_⟩
      refine yb_aload rfl rfl ?_
      refine yb_get (v := .ref 23) rfl (by decide) (by decide) (rfl) rfl ?_
      refine yb_get (v := .int (xJ (d 23 (4 : Int)))) rfl (by decide) (by decide) (rfl) rfl ?_
      exact yb_ret rfl h
    · replace h := h.2.2.2.2.2.2.2.2.2.1 c
      refine ⟨_, by rw [c]; rfl, ?_⟩
      refine yb_aload rfl rfl ?_
      refine yb_get (v := .ref 4) rfl (by decide) (by decide) (rfl) rfl ?_
      refine yb_get (v := .int (xJ (d 4 (1 : Int)))) rfl (by decide) (by decide) (rfl) rfl ?_
      exact yb_ret rfl h
    · replace h := h.2.2.2.2.2.2.2.2.2.2 c
      refine ⟨_, by rw [c]; rfl, ?_⟩
      refine yb_aload rfl rfl ?_
      refine yb_get (v := .ref 2) rfl (by decide) (by decide) (rfl) rfl ?_
      refine yb_get (v := .int (xJ (d 2 (1 : Int)))) rfl (by decide) (by decide) (rfl) rfl ?_
      exact yb_ret rfl h
