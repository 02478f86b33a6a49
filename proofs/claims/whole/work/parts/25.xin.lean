/-! BLOCKS of methods, out of blk2.py. -/
theorem yk_6_126_0 {D L : Nat} {P : xh_D → xd_E → Prop} {d : xh_D} {e : xd_E} {a1 : Int}   (h : yB D xm_c6 (yQv L P) L 5 [.ref 126, .int (xJ a1), .int (xJ (0 : Int)), .int (xJ (9 : Int))] [] d e) : yB D xm_c6 (yQv L P) L 0 [.ref 126, .int (xJ a1), .double 0, .double 0] [] d e := by
  refine yb_push (v := 0) rfl ?_
  refine yb_istore rfl rfl rfl ?_
  refine yb_aload rfl rfl ?_
  refine yb_alen (t := 1) (n := 9) rfl (by decide) (by decide) rfl (by decide) ?_
  refine yb_istore rfl rfl rfl ?_
  exact h
theorem yk_6_126_5 {D L : Nat} {P : xh_D → xd_E → Prop} {d : xh_D} {e : xd_E}  {l1 : Int} {l2 : Int} {l3 : Int}  (h : ((-2147483648 ≤ l2 ∧ l2 < 2147483648) ∧ ((-2147483648 ≤ l3 ∧ l3 < 2147483648) ∧ (((l3 ≤ l2) → P d e) ∧ ((¬ l3 ≤ l2) → ((0 ≤ l2 ∧ l2 < 9) ∧ yB D xm_c6 (yQv L P) L 5 [.ref 126, .int (xJ l1), .int (xJ (l2 + 1)), .int (xJ l3)] [] (xs d 126 l2 l1) e)))))) : yB D xm_c6 (yQv L P) L 5 [.ref 126, .int (xJ l1), .int (xJ l2), .int (xJ l3)] [] d e := by
  refine yb_iload (x := l2) rfl rfl ?_
  refine yb_iload (x := l3) rfl rfl ?_
  have r1 := h.1
  replace h := h.2
  have r2 := h.1
  replace h := h.2
  refine yb_icmp_ge (x := l2) (y := l3) rfl rfl r1 r2 (fun c => ?_) (fun c => ?_)
  · replace h := h.1 c
    exact yb_retv rfl h
  · replace h := h.2 c
    refine yb_aload rfl rfl ?_
    refine yb_iload (x := l2) rfl rfl ?_
    refine yb_iload (x := l1) rfl rfl ?_
    have r3 := h.1
    replace h := h.2
    refine yb_iast (j := l2) (x := l1) rfl xd_A126 (by decide) r3 ?_
    refine yb_iinc (x := l2) (n := 1) rfl rfl rfl rfl ?_
    refine yb_goto rfl rfl ?_
    exact h
theorem yk_6_130_0 {D L : Nat} {P : xh_D → xd_E → Prop} {d : xh_D} {e : xd_E} {a1 : Int}   (h : yB D xm_c6 (yQv L P) L 5 [.ref 130, .int (xJ a1), .int (xJ (0 : Int)), .int (xJ (64 : Int))] [] d e) : yB D xm_c6 (yQv L P) L 0 [.ref 130, .int (xJ a1), .double 0, .double 0] [] d e := by
  refine yb_push (v := 0) rfl ?_
  refine yb_istore rfl rfl rfl ?_
  refine yb_aload rfl rfl ?_
  refine yb_alen (t := 1) (n := 64) rfl (by decide) (by decide) rfl (by decide) ?_
  refine yb_istore rfl rfl rfl ?_
  exact h
theorem yk_6_130_5 {D L : Nat} {P : xh_D → xd_E → Prop} {d : xh_D} {e : xd_E}  {l1 : Int} {l2 : Int} {l3 : Int}  (h : ((-2147483648 ≤ l2 ∧ l2 < 2147483648) ∧ ((-2147483648 ≤ l3 ∧ l3 < 2147483648) ∧ (((l3 ≤ l2) → P d e) ∧ ((¬ l3 ≤ l2) → ((0 ≤ l2 ∧ l2 < 64) ∧ yB D xm_c6 (yQv L P) L 5 [.ref 130, .int (xJ l1), .int (xJ (l2 + 1)), .int (xJ l3)] [] (xs d 130 l2 l1) e)))))) : yB D xm_c6 (yQv L P) L 5 [.ref 130, .int (xJ l1), .int (xJ l2), .int (xJ l3)] [] d e := by
  refine yb_iload (x := l2) rfl rfl ?_
  refine yb_iload (x := l3) rfl rfl ?_
  have r1 := h.1
  replace h := h.2
  have r2 := h.1
  replace h := h.2
  refine yb_icmp_ge (x := l2) (y := l3) rfl rfl r1 r2 (fun c => ?_) (fun c => ?_)
  · replace h := h.1 c
    exact yb_retv rfl h
  · replace h := h.2 c
    refine yb_aload rfl rfl ?_
    refine yb_iload (x := l2) rfl rfl ?_
    refine yb_iload (x := l1) rfl rfl ?_
    have r3 := h.1
    replace h := h.2
    refine yb_iast (j := l2) (x := l1) rfl xd_A130 (by decide) r3 ?_
    refine yb_iinc (x := l2) (n := 1) rfl rfl rfl rfl ?_
    refine yb_goto rfl rfl ?_
    exact h
theorem yk_6_131_0 {D L : Nat} {P : xh_D → xd_E → Prop} {d : xh_D} {e : xd_E} {a1 : Int}   (h : yB D xm_c6 (yQv L P) L 5 [.ref 131, .int (xJ a1), .int (xJ (0 : Int)), .int (xJ (64 : Int))] [] d e) : yB D xm_c6 (yQv L P) L 0 [.ref 131, .int (xJ a1), .double 0, .double 0] [] d e := by
  refine yb_push (v := 0) rfl ?_
  refine yb_istore rfl rfl rfl ?_
  refine yb_aload rfl rfl ?_
  refine yb_alen (t := 1) (n := 64) rfl (by decide) (by decide) rfl (by decide) ?_
  refine yb_istore rfl rfl rfl ?_
  exact h
theorem yk_6_131_5 {D L : Nat} {P : xh_D → xd_E → Prop} {d : xh_D} {e : xd_E}  {l1 : Int} {l2 : Int} {l3 : Int}  (h : ((-2147483648 ≤ l2 ∧ l2 < 2147483648) ∧ ((-2147483648 ≤ l3 ∧ l3 < 2147483648) ∧ (((l3 ≤ l2) → P d e) ∧ ((¬ l3 ≤ l2) → ((0 ≤ l2 ∧ l2 < 64) ∧ yB D xm_c6 (yQv L P) L 5 [.ref 131, .int (xJ l1), .int (xJ (l2 + 1)), .int (xJ l3)] [] (xs d 131 l2 l1) e)))))) : yB D xm_c6 (yQv L P) L 5 [.ref 131, .int (xJ l1), .int (xJ l2), .int (xJ l3)] [] d e := by
  refine yb_iload (x := l2) rfl rfl ?_
  refine yb_iload (x := l3) rfl rfl ?_
  have r1 := h.1
  replace h := h.2
  have r2 := h.1
  replace h := h.2
  refine yb_icmp_ge (x := l2) (y := l3) rfl rfl r1 r2 (fun c => ?_) (fun c => ?_)
  · replace h := h.1 c
    exact yb_retv rfl h
  · replace h := h.2 c
    refine yb_aload rfl rfl ?_
    refine yb_iload (x := l2) rfl rfl ?_
    refine yb_iload (x := l1) rfl rfl ?_
    have r3 := h.1
    replace h := h.2
    refine yb_iast (j := l2) (x := l1) rfl xd_A131 (by decide) r3 ?_
    refine yb_iinc (x := l2) (n := 1) rfl rfl rfl rfl ?_
    refine yb_goto rfl rfl ?_
    exact h
theorem yk_6_132_0 {D L : Nat} {P : xh_D → xd_E → Prop} {d : xh_D} {e : xd_E} {a1 : Int}   (h : yB D xm_c6 (yQv L P) L 5 [.ref 132, .int (xJ a1), .int (xJ (0 : Int)), .int (xJ (512 : Int))] [] d e) : yB D xm_c6 (yQv L P) L 0 [.ref 132, .int (xJ a1), .double 0, .double 0] [] d e := by
  refine yb_push (v := 0) rfl ?_
  refine yb_istore rfl rfl rfl ?_
  refine yb_aload rfl rfl ?_
  refine yb_alen (t := 1) (n := 512) rfl (by decide) (by decide) rfl (by decide) ?_
  refine yb_istore rfl rfl rfl ?_
  exact h
theorem yk_6_132_5 {D L : Nat} {P : xh_D → xd_E → Prop} {d : xh_D} {e : xd_E}  {l1 : Int} {l2 : Int} {l3 : Int}  (h : ((-2147483648 ≤ l2 ∧ l2 < 2147483648) ∧ ((-2147483648 ≤ l3 ∧ l3 < 2147483648) ∧ (((l3 ≤ l2) → P d e) ∧ ((¬ l3 ≤ l2) → ((0 ≤ l2 ∧ l2 < 512) ∧ yB D xm_c6 (yQv L P) L 5 [.ref 132, .int (xJ l1), .int (xJ (l2 + 1)), .int (xJ l3)] [] (xs d 132 l2 l1) e)))))) : yB D xm_c6 (yQv L P) L 5 [.ref 132, .int (xJ l1), .int (xJ l2), .int (xJ l3)] [] d e := by
  refine yb_iload (x := l2) rfl rfl ?_
  refine yb_iload (x := l3) rfl rfl ?_
  have r1 := h.1
  replace h := h.2
  have r2 := h.1
  replace h := h.2
  refine yb_icmp_ge (x := l2) (y := l3) rfl rfl r1 r2 (fun c => ?_) (fun c => ?_)
  · replace h := h.1 c
    exact yb_retv rfl h
  · replace h := h.2 c
    refine yb_aload rfl rfl ?_
    refine yb_iload (x := l2) rfl rfl ?_
    refine yb_iload (x := l1) rfl rfl ?_
    have r3 := h.1
    replace h := h.2
    refine yb_iast (j := l2) (x := l1) rfl xd_A132 (by decide) r3 ?_
    refine yb_iinc (x := l2) (n := 1) rfl rfl rfl rfl ?_
    refine yb_goto rfl rfl ?_
    exact h
theorem yk_8_11_0 {D L : Nat} {P : xh_D → xd_E → Prop} {d : xh_D} {e : xd_E} {a4 : Int}   (h : yB D xm_c8 (yQv L P) L 9 [.ref 119, .ref 6, .ref 111, .ref 11, .int (xJ a4), .int (xJ (0 : Int))] [] (xs (xs d 119 (7 : Int) (d 6 (4 : Int))) 119 (6 : Int) (0 : Int)) e) : yB D xm_c8 (yQv L P) L 0 [.ref 119, .ref 6, .ref 111, .ref 11, .int (xJ a4), .double 0] [] d e := by
  refine yb_aload rfl rfl ?_
  refine yb_aload rfl rfl ?_
  refine yb_get (v := .int (xJ (d 6 (4 : Int)))) rfl (by decide) (by decide) (rfl) rfl ?_
  refine yb_put (z := (d 6 (4 : Int))) (k := 7) rfl rfl (by decide) (by decide) (rfl) (Nat.le_of_ble_eq_true rfl) rfl (rfl) ?_
  refine yb_aload rfl rfl ?_
  refine yb_push (v := 0) rfl ?_
  refine yb_put (z := (0 : Int)) (k := 6) rfl rfl (by decide) (by decide) (rfl) (Nat.le_of_ble_eq_true rfl) rfl (rfl) ?_
  refine yb_push (v := 0) rfl ?_
  refine yb_istore rfl rfl rfl ?_
  exact h
theorem yk_8_11_9 {D L : Nat} {P : xh_D → xd_E → Prop} {d : xh_D} {e : xd_E}  {l4 : Int} {l5 : Int}  (h : ((-2147483648 ≤ l5 ∧ l5 < 2147483648) ∧ ((-2147483648 ≤ (d 119 (7 : Int)) ∧ (d 119 (7 : Int)) < 2147483648) ∧ ((((d 119 (7 : Int)) ≤ l5) → yB D xm_c8 (yQv L P) L 42 [.ref 119, .ref 6, .ref 111, .ref 11, .int (xJ l4), .int (xJ (0 : Int))] [] d e) ∧ ((¬ (d 119 (7 : Int)) ≤ l5) → ((0 ≤ l5 ∧ l5 < 9) ∧ ((0 ≤ l4 ∧ l4 < 2147483648) ∧ ((-2147483648 ≤ (d 12 l5) ∧ (d 12 l5) < 2147483648) ∧ (((¬ (d 12 l5) = (l4 % (9 : Int))) → yB D xm_c8 (yQv L P) L 9 [.ref 119, .ref 6, .ref 111, .ref 11, .int (xJ l4), .int (xJ (l5 + 1))] [] (xs d 123 l5 (0 : Int)) e) ∧ (((d 12 l5) = (l4 % (9 : Int))) → ((0 ≤ (d 119 (6 : Int)) ∧ (d 119 (6 : Int)) < 9) ∧ yB D xm_c8 (yQv L P) L 9 [.ref 119, .ref 6, .ref 111, .ref 11, .int (xJ l4), .int (xJ (l5 + 1))] [] (xs (xs (xs d 123 l5 (0 : Int)) 120 (d 119 (6 : Int)) l5) 119 (6 : Int) ((d 119 (6 : Int)) + (1 : Int))) e))))))))))) : yB D xm_c8 (yQv L P) L 9 [.ref 119, .ref 6, .ref 111, .ref 11, .int (xJ l4), .int (xJ l5)] [] d e := by
  refine yb_iload (x := l5) rfl rfl ?_
  refine yb_aload rfl rfl ?_
  refine yb_get (v := .int (xJ (d 119 (7 : Int)))) rfl (by decide) (by decide) (rfl) rfl ?_
  have r1 := h.1
  replace h := h.2
  have r2 := h.1
  replace h := h.2
  refine yb_icmp_ge (x := l5) (y := (d 119 (7 : Int))) rfl rfl r1 r2 (fun c => ?_) (fun c => ?_)
  · replace h := h.1 c
    refine yb_push (v := 0) rfl ?_
    refine yb_istore rfl rfl rfl ?_
    exact h
  · replace h := h.2 c
    refine yb_aload rfl rfl ?_
    refine yb_get (v := .ref 123) rfl (by decide) (by decide) (rfl) rfl ?_
    refine yb_iload (x := l5) rfl rfl ?_
    refine yb_push (v := 0) rfl ?_
    have r3 := h.1
    replace h := h.2
    refine yb_iast (j := l5) (x := (0 : Int)) rfl xd_A123 (by decide) r3 ?_
    refine yb_aload rfl rfl ?_
    refine yb_get (v := .ref 12) rfl (by decide) (by decide) (rfl) rfl ?_
    refine yb_iload (x := l5) rfl rfl ?_
    refine yb_iald (j := l5) rfl xd_A12 (by decide) r3 (v := (d 12 l5)) (xs_np (by decide)) ?_
    refine yb_iload (x := l4) rfl rfl ?_
    refine yb_push (v := 9) rfl ?_
    have r4 := h.1
    replace h := h.2
    refine yb_irem (x := l4) (y := (9 : Int)) rfl r4 (by decide) ?_
    have r5 := h.1
    replace h := h.2
    refine yb_icmp_ne (x := (d 12 l5)) (y := (l4 % (9 : Int))) rfl rfl r5 (by omega) (fun c => ?_) (fun c => ?_)
    · replace h := h.1 c
      refine yb_iinc (x := l5) (n := 1) rfl rfl rfl rfl ?_
      refine yb_goto rfl rfl ?_
      exact h
    · replace h := h.2 c
      refine yb_aload rfl rfl ?_
      refine yb_get (v := .ref 120) rfl (by decide) (by decide) (rfl) rfl ?_
      refine yb_aload rfl rfl ?_
      refine yb_get (v := .int (xJ (d 119 (6 : Int)))) rfl (by decide) (by decide) (rfl) rfl ?_
      refine yb_iload (x := l5) rfl rfl ?_
      have r6 := h.1
      replace h := h.2
      refine yb_iast (j := (d 119 (6 : Int))) (x := l5) rfl xd_A120 (by decide) r6 ?_
      refine yb_aload rfl rfl ?_
      refine yb_dup rfl rfl ?_
      refine yb_get (v := .int (xJ (d 119 (6 : Int)))) rfl (by decide) (by decide) (rfl) rfl ?_
      refine yb_push (v := 1) rfl ?_
      refine yb_iadd (x := (d 119 (6 : Int))) (y := (1 : Int)) rfl ?_
      refine yb_put (z := ((d 119 (6 : Int)) + (1 : Int))) (k := 6) rfl rfl (by decide) (by decide) (rfl) (Nat.le_of_ble_eq_true rfl) rfl (rfl) ?_
      refine yb_iinc (x := l5) (n := 1) rfl rfl rfl rfl ?_
      refine yb_goto rfl rfl ?_
      exact h
theorem yk_8_11_42 {D L : Nat} {P : xh_D → xd_E → Prop} {d : xh_D} {e : xd_E}  {l4 : Int} {l5 : Int}  (h : ((-2147483648 ≤ l5 ∧ l5 < 2147483648) ∧ ((-2147483648 ≤ (d 119 (6 : Int)) ∧ (d 119 (6 : Int)) < 2147483648) ∧ ((((d 119 (6 : Int)) ≤ l5) → ((0 ≤ (d 119 (6 : Int)) ∧ (d 119 (6 : Int)) < 10) ∧ yB D xm_c8 (yQv L P) L 66 [.ref 119, .double 0, .double 0, .double 0, .double 0, .int (xJ ((d 119 (6 : Int)) - (1 : Int)))] [] (xs d 125 (d 119 (6 : Int)) (0 : Int)) e)) ∧ ((¬ (d 119 (6 : Int)) ≤ l5) → yV D 9 L [.ref 119, .ref 6, .ref 111, .ref 11, .int (xJ l5), .int (xJ l4)] d e (fun d4 e5 => yB D xm_c8 (yQv L P) L 42 [.ref 119, .ref 6, .ref 111, .ref 11, .int (xJ l4), .int (xJ (l5 + 1))] [] d4 e5)))))) : yB D xm_c8 (yQv L P) L 42 [.ref 119, .ref 6, .ref 111, .ref 11, .int (xJ l4), .int (xJ l5)] [] d e := by
  refine yb_iload (x := l5) rfl rfl ?_
  refine yb_aload rfl rfl ?_
  refine yb_get (v := .int (xJ (d 119 (6 : Int)))) rfl (by decide) (by decide) (rfl) rfl ?_
  have r1 := h.1
  replace h := h.2
  have r2 := h.1
  replace h := h.2
  refine yb_icmp_ge (x := l5) (y := (d 119 (6 : Int))) rfl rfl r1 r2 (fun c => ?_) (fun c => ?_)
  · replace h := h.1 c
    refine yb_aload rfl rfl ?_
    refine yb_get (v := .ref 125) rfl (by decide) (by decide) (rfl) rfl ?_
    refine yb_aload rfl rfl ?_
    refine yb_get (v := .int (xJ (d 119 (6 : Int)))) rfl (by decide) (by decide) (rfl) rfl ?_
    refine yb_push (v := 0) rfl ?_
    have r3 := h.1
    replace h := h.2
    refine yb_iast (j := (d 119 (6 : Int))) (x := (0 : Int)) rfl xd_A125 (by decide) r3 ?_
    refine yb_aload rfl rfl ?_
    refine yb_get (v := .int (xJ (d 119 (6 : Int)))) rfl (by decide) (by decide) (rfl) rfl ?_
    refine yb_push (v := 1) rfl ?_
    refine yb_isub (x := (d 119 (6 : Int))) (y := (1 : Int)) rfl ?_
    refine yb_istore rfl rfl rfl ?_
    refine yb_forget (dl := [.ref 119, .double 0, .double 0, .double 0, .double 0, .int (xJ ((d 119 (6 : Int)) - (1 : Int)))]) ⟨Or.inl rfl, ⟨Or.inr ⟨rfl, rfl⟩, ⟨Or.inr ⟨rfl, rfl⟩, ⟨Or.inr ⟨rfl, rfl⟩, ⟨Or.inr ⟨rfl, rfl⟩, ⟨Or.inl rfl, trivial⟩⟩⟩⟩⟩⟩ ?_
    exact h
  · replace h := h.2 c
    refine yb_aload rfl rfl ?_
    refine yb_aload rfl rfl ?_
    refine yb_aload rfl rfl ?_
    refine yb_aload rfl rfl ?_
    refine yb_iload (x := l5) rfl rfl ?_
    refine yb_iload (x := l4) rfl rfl ?_
    refine yb_callVv (As := [.ref 6, .ref 111, .ref 11, .int (xJ l5), .int (xJ l4)]) (a := 119) rfl rfl rfl rfl rfl rfl rfl rfl (by decide) (by decide) (rfl) (by decide) (yV_mono h (fun d4 e5 h => ?_))
    refine yb_iinc (x := l5) (n := 1) rfl rfl rfl rfl ?_
    refine yb_goto rfl rfl ?_
    exact h
theorem yk_8_11_66 {D L : Nat} {P : xh_D → xd_E → Prop} {d : xh_D} {e : xd_E}  {l5 : Int}  (h : ((-2147483648 ≤ l5 ∧ l5 < 2147483648) ∧ (((l5 < 0) → yV D 11 L [.ref 119, .int (xJ (0 : Int)), .int (xJ (0 : Int))] (xs d 119 (8 : Int) (((d 119 (6 : Int)) * (1000 : Int)) + (1 : Int))) e (fun d2 e3 => P d2 e3)) ∧ ((¬ l5 < 0) → ((0 ≤ (l5 + (1 : Int)) ∧ (l5 + (1 : Int)) < 10) ∧ yC D 10 L [.ref 119, .int (xJ l5)] d e (fun x5 d6 e7 => ((0 ≤ l5 ∧ l5 < 10) ∧ yB D xm_c8 (yQv L P) L 66 [.ref 119, .double 0, .double 0, .double 0, .double 0, .int (xJ (l5 + (-1)))] [] (xs d6 125 l5 ((d 125 (l5 + (1 : Int))) + x5)) e7))))))) : yB D xm_c8 (yQv L P) L 66 [.ref 119, .double 0, .double 0, .double 0, .double 0, .int (xJ l5)] [] d e := by
  refine yb_iload (x := l5) rfl rfl ?_
  have r1 := h.1
  replace h := h.2
  refine yb_if_lt (x := l5) rfl rfl r1 (fun c => ?_) (fun c => ?_)
  · replace h := h.1 c
    refine yb_aload rfl rfl ?_
    refine yb_aload rfl rfl ?_
    refine yb_get (v := .int (xJ (d 119 (6 : Int)))) rfl (by decide) (by decide) (rfl) rfl ?_
    refine yb_push (v := 1000) rfl ?_
    refine yb_imul (x := (d 119 (6 : Int))) (y := (1000 : Int)) rfl ?_
    refine yb_push (v := 1) rfl ?_
    refine yb_iadd (x := ((d 119 (6 : Int)) * (1000 : Int))) (y := (1 : Int)) rfl ?_
    refine yb_put (z := (((d 119 (6 : Int)) * (1000 : Int)) + (1 : Int))) (k := 8) rfl rfl (by decide) (by decide) (rfl) (Nat.le_of_ble_eq_true rfl) rfl (rfl) ?_
    refine yb_aload rfl rfl ?_
    refine yb_push (v := 0) rfl ?_
    refine yb_push (v := 0) rfl ?_
    refine yb_callVv (As := [.int (xJ (0 : Int)), .int (xJ (0 : Int))]) (a := 119) rfl rfl rfl rfl rfl rfl rfl rfl (by decide) (by decide) (rfl) (by decide) (yV_mono h (fun d2 e3 h => ?_))
    exact yb_retv rfl h
  · replace h := h.2 c
    refine yb_aload rfl rfl ?_
    refine yb_get (v := .ref 125) rfl (by decide) (by decide) (rfl) rfl ?_
    refine yb_iload (x := l5) rfl rfl ?_
    refine yb_aload rfl rfl ?_
    refine yb_get (v := .ref 125) rfl (by decide) (by decide) (rfl) rfl ?_
    refine yb_iload (x := l5) rfl rfl ?_
    refine yb_push (v := 1) rfl ?_
    refine yb_iadd (x := l5) (y := (1 : Int)) rfl ?_
    have r4 := h.1
    replace h := h.2
    refine yb_iald (j := (l5 + (1 : Int))) rfl xd_A125 (by decide) r4 (v := (d 125 (l5 + (1 : Int)))) rfl ?_
    refine yb_aload rfl rfl ?_
    refine yb_iload (x := l5) rfl rfl ?_
    refine yb_callVi (As := [.int (xJ l5)]) (a := 119) rfl rfl rfl rfl rfl rfl rfl rfl (by decide) (by decide) (rfl) (by show (3 : Nat) ≤ 8; decide) (yC_mono h (fun x5 d6 e7 h => ?_))
    refine yb_iadd (x := (d 125 (l5 + (1 : Int)))) (y := x5) rfl ?_
    have r8 := h.1
    replace h := h.2
    refine yb_iast (j := l5) (x := ((d 125 (l5 + (1 : Int))) + x5)) rfl xd_A125 (by decide) r8 ?_
    refine yb_iinc (x := l5) (n := (-1)) rfl rfl rfl rfl ?_
    refine yb_goto rfl rfl ?_
    exact h
theorem yk_8_17_0 {D L : Nat} {P : xh_D → xd_E → Prop} {d : xh_D} {e : xd_E} {a4 : Int}   (h : yB D xm_c8 (yQv L P) L 9 [.ref 119, .ref 6, .ref 111, .ref 17, .int (xJ a4), .int (xJ (0 : Int))] [] (xs (xs d 119 (7 : Int) (d 6 (4 : Int))) 119 (6 : Int) (0 : Int)) e) : yB D xm_c8 (yQv L P) L 0 [.ref 119, .ref 6, .ref 111, .ref 17, .int (xJ a4), .double 0] [] d e := by
  refine yb_aload rfl rfl ?_
  refine yb_aload rfl rfl ?_
  refine yb_get (v := .int (xJ (d 6 (4 : Int)))) rfl (by decide) (by decide) (rfl) rfl ?_
  refine yb_put (z := (d 6 (4 : Int))) (k := 7) rfl rfl (by decide) (by decide) (rfl) (Nat.le_of_ble_eq_true rfl) rfl (rfl) ?_
  refine yb_aload rfl rfl ?_
  refine yb_push (v := 0) rfl ?_
  refine yb_put (z := (0 : Int)) (k := 6) rfl rfl (by decide) (by decide) (rfl) (Nat.le_of_ble_eq_true rfl) rfl (rfl) ?_
  refine yb_push (v := 0) rfl ?_
  refine yb_istore rfl rfl rfl ?_
  exact h
theorem yk_8_17_9 {D L : Nat} {P : xh_D → xd_E → Prop} {d : xh_D} {e : xd_E}  {l4 : Int} {l5 : Int}  (h : ((-2147483648 ≤ l5 ∧ l5 < 2147483648) ∧ ((-2147483648 ≤ (d 119 (7 : Int)) ∧ (d 119 (7 : Int)) < 2147483648) ∧ ((((d 119 (7 : Int)) ≤ l5) → yB D xm_c8 (yQv L P) L 42 [.ref 119, .ref 6, .ref 111, .ref 17, .int (xJ l4), .int (xJ (0 : Int))] [] d e) ∧ ((¬ (d 119 (7 : Int)) ≤ l5) → ((0 ≤ l5 ∧ l5 < 9) ∧ ((0 ≤ l4 ∧ l4 < 2147483648) ∧ ((-2147483648 ≤ (d 18 l5) ∧ (d 18 l5) < 2147483648) ∧ (((¬ (d 18 l5) = (l4 % (9 : Int))) → yB D xm_c8 (yQv L P) L 9 [.ref 119, .ref 6, .ref 111, .ref 17, .int (xJ l4), .int (xJ (l5 + 1))] [] (xs d 123 l5 (0 : Int)) e) ∧ (((d 18 l5) = (l4 % (9 : Int))) → ((0 ≤ (d 119 (6 : Int)) ∧ (d 119 (6 : Int)) < 9) ∧ yB D xm_c8 (yQv L P) L 9 [.ref 119, .ref 6, .ref 111, .ref 17, .int (xJ l4), .int (xJ (l5 + 1))] [] (xs (xs (xs d 123 l5 (0 : Int)) 120 (d 119 (6 : Int)) l5) 119 (6 : Int) ((d 119 (6 : Int)) + (1 : Int))) e))))))))))) : yB D xm_c8 (yQv L P) L 9 [.ref 119, .ref 6, .ref 111, .ref 17, .int (xJ l4), .int (xJ l5)] [] d e := by
  refine yb_iload (x := l5) rfl rfl ?_
  refine yb_aload rfl rfl ?_
  refine yb_get (v := .int (xJ (d 119 (7 : Int)))) rfl (by decide) (by decide) (rfl) rfl ?_
  have r1 := h.1
  replace h := h.2
  have r2 := h.1
  replace h := h.2
  refine yb_icmp_ge (x := l5) (y := (d 119 (7 : Int))) rfl rfl r1 r2 (fun c => ?_) (fun c => ?_)
  · replace h := h.1 c
    refine yb_push (v := 0) rfl ?_
    refine yb_istore rfl rfl rfl ?_
    exact h
  · replace h := h.2 c
    refine yb_aload rfl rfl ?_
    refine yb_get (v := .ref 123) rfl (by decide) (by decide) (rfl) rfl ?_
    refine yb_iload (x := l5) rfl rfl ?_
    refine yb_push (v := 0) rfl ?_
    have r3 := h.1
    replace h := h.2
    refine yb_iast (j := l5) (x := (0 : Int)) rfl xd_A123 (by decide) r3 ?_
    refine yb_aload rfl rfl ?_
    refine yb_get (v := .ref 18) rfl (by decide) (by decide) (rfl) rfl ?_
    refine yb_iload (x := l5) rfl rfl ?_
    refine yb_iald (j := l5) rfl xd_A18 (by decide) r3 (v := (d 18 l5)) (xs_np (by decide)) ?_
    refine yb_iload (x := l4) rfl rfl ?_
    refine yb_push (v := 9) rfl ?_
    have r4 := h.1
    replace h := h.2
    refine yb_irem (x := l4) (y := (9 : Int)) rfl r4 (by decide) ?_
    have r5 := h.1
    replace h := h.2
    refine yb_icmp_ne (x := (d 18 l5)) (y := (l4 % (9 : Int))) rfl rfl r5 (by omega) (fun c => ?_) (fun c => ?_)
    · replace h := h.1 c
      refine yb_iinc (x := l5) (n := 1) rfl rfl rfl rfl ?_
      refine yb_goto rfl rfl ?_
      exact h
    · replace h := h.2 c
      refine yb_aload rfl rfl ?_
      refine yb_get (v := .ref 120) rfl (by decide) (by decide) (rfl) rfl ?_
      refine yb_aload rfl rfl ?_
      refine yb_get (v := .int (xJ (d 119 (6 : Int)))) rfl (by decide) (by decide) (rfl) rfl ?_
      refine yb_iload (x := l5) rfl rfl ?_
      have r6 := h.1
      replace h := h.2
      refine yb_iast (j := (d 119 (6 : Int))) (x := l5) rfl xd_A120 (by decide) r6 ?_
      refine yb_aload rfl rfl ?_
      refine yb_dup rfl rfl ?_
      refine yb_get (v := .int (xJ (d 119 (6 : Int)))) rfl (by decide) (by decide) (rfl) rfl ?_
      refine yb_push (v := 1) rfl ?_
      refine yb_iadd (x := (d 119 (6 : Int))) (y := (1 : Int)) rfl ?_
      refine yb_put (z := ((d 119 (6 : Int)) + (1 : Int))) (k := 6) rfl rfl (by decide) (by decide) (rfl) (Nat.le_of_ble_eq_true rfl) rfl (rfl) ?_
      refine yb_iinc (x := l5) (n := 1) rfl rfl rfl rfl ?_
      refine yb_goto rfl rfl ?_
      exact h
theorem yk_8_17_42 {D L : Nat} {P : xh_D → xd_E → Prop} {d : xh_D} {e : xd_E}  {l4 : Int} {l5 : Int}  (h : ((-2147483648 ≤ l5 ∧ l5 < 2147483648) ∧ ((-2147483648 ≤ (d 119 (6 : Int)) ∧ (d 119 (6 : Int)) < 2147483648) ∧ ((((d 119 (6 : Int)) ≤ l5) → ((0 ≤ (d 119 (6 : Int)) ∧ (d 119 (6 : Int)) < 10) ∧ yB D xm_c8 (yQv L P) L 66 [.ref 119, .double 0, .double 0, .double 0, .double 0, .int (xJ ((d 119 (6 : Int)) - (1 : Int)))] [] (xs d 125 (d 119 (6 : Int)) (0 : Int)) e)) ∧ ((¬ (d 119 (6 : Int)) ≤ l5) → yV D 9 L [.ref 119, .ref 6, .ref 111, .ref 17, .int (xJ l5), .int (xJ l4)] d e (fun d4 e5 => yB D xm_c8 (yQv L P) L 42 [.ref 119, .ref 6, .ref 111, .ref 17, .int (xJ l4), .int (xJ (l5 + 1))] [] d4 e5)))))) : yB D xm_c8 (yQv L P) L 42 [.ref 119, .ref 6, .ref 111, .ref 17, .int (xJ l4), .int (xJ l5)] [] d e := by
  refine yb_iload (x := l5) rfl rfl ?_
  refine yb_aload rfl rfl ?_
  refine yb_get (v := .int (xJ (d 119 (6 : Int)))) rfl (by decide) (by decide) (rfl) rfl ?_
  have r1 := h.1
  replace h := h.2
  have r2 := h.1
  replace h := h.2
  refine yb_icmp_ge (x := l5) (y := (d 119 (6 : Int))) rfl rfl r1 r2 (fun c => ?_) (fun c => ?_)
  · replace h := h.1 c
    refine yb_aload rfl rfl ?_
    refine yb_get (v := .ref 125) rfl (by decide) (by decide) (rfl) rfl ?_
    refine yb_aload rfl rfl ?_
    refine yb_get (v := .int (xJ (d 119 (6 : Int)))) rfl (by decide) (by decide) (rfl) rfl ?_
    refine yb_push (v := 0) rfl ?_
    have r3 := h.1
    replace h := h.2
    refine yb_iast (j := (d 119 (6 : Int))) (x := (0 : Int)) rfl xd_A125 (by decide) r3 ?_
    refine yb_aload rfl rfl ?_
    refine yb_get (v := .int (xJ (d 119 (6 : Int)))) rfl (by decide) (by decide) (rfl) rfl ?_
    refine yb_push (v := 1) rfl ?_
    refine yb_isub (x := (d 119 (6 : Int))) (y := (1 : Int)) rfl ?_
    refine yb_istore rfl rfl rfl ?_
    refine yb_forget (dl := [.ref 119, .double 0, .double 0, .double 0, .double 0, .int (xJ ((d 119 (6 : Int)) - (1 : Int)))]) ⟨Or.inl rfl, ⟨Or.inr ⟨rfl, rfl⟩, ⟨Or.inr ⟨rfl, rfl⟩, ⟨Or.inr ⟨rfl, rfl⟩, ⟨Or.inr ⟨rfl, rfl⟩, ⟨Or.inl rfl, trivial⟩⟩⟩⟩⟩⟩ ?_
    exact h
  · replace h := h.2 c
    refine yb_aload rfl rfl ?_
    refine yb_aload rfl rfl ?_
    refine yb_aload rfl rfl ?_
    refine yb_aload rfl rfl ?_
    refine yb_iload (x := l5) rfl rfl ?_
    refine yb_iload (x := l4) rfl rfl ?_
    refine yb_callVv (As := [.ref 6, .ref 111, .ref 17, .int (xJ l5), .int (xJ l4)]) (a := 119) rfl rfl rfl rfl rfl rfl rfl rfl (by decide) (by decide) (rfl) (by decide) (yV_mono h (fun d4 e5 h => ?_))
    refine yb_iinc (x := l5) (n := 1) rfl rfl rfl rfl ?_
    refine yb_goto rfl rfl ?_
    exact h
theorem yk_8_17_66 {D L : Nat} {P : xh_D → xd_E → Prop} {d : xh_D} {e : xd_E}  {l5 : Int}  (h : ((-2147483648 ≤ l5 ∧ l5 < 2147483648) ∧ (((l5 < 0) → yV D 11 L [.ref 119, .int (xJ (0 : Int)), .int (xJ (0 : Int))] (xs d 119 (8 : Int) (((d 119 (6 : Int)) * (1000 : Int)) + (1 : Int))) e (fun d2 e3 => P d2 e3)) ∧ ((¬ l5 < 0) → ((0 ≤ (l5 + (1 : Int)) ∧ (l5 + (1 : Int)) < 10) ∧ yC D 10 L [.ref 119, .int (xJ l5)] d e (fun x5 d6 e7 => ((0 ≤ l5 ∧ l5 < 10) ∧ yB D xm_c8 (yQv L P) L 66 [.ref 119, .double 0, .double 0, .double 0, .double 0, .int (xJ (l5 + (-1)))] [] (xs d6 125 l5 ((d 125 (l5 + (1 : Int))) + x5)) e7))))))) : yB D xm_c8 (yQv L P) L 66 [.ref 119, .double 0, .double 0, .double 0, .double 0, .int (xJ l5)] [] d e := by
  refine yb_iload (x := l5) rfl rfl ?_
  have r1 := h.1
  replace h := h.2
  refine yb_if_lt (x := l5) rfl rfl r1 (fun c => ?_) (fun c => ?_)
  · replace h := h.1 c
    refine yb_aload rfl rfl ?_
    refine yb_aload rfl rfl ?_
    refine yb_get (v := .int (xJ (d 119 (6 : Int)))) rfl (by decide) (by decide) (rfl) rfl ?_
    refine yb_push (v := 1000) rfl ?_
    refine yb_imul (x := (d 119 (6 : Int))) (y := (1000 : Int)) rfl ?_
    refine yb_push (v := 1) rfl ?_
    refine yb_iadd (x := ((d 119 (6 : Int)) * (1000 : Int))) (y := (1 : Int)) rfl ?_
    refine yb_put (z := (((d 119 (6 : Int)) * (1000 : Int)) + (1 : Int))) (k := 8) rfl rfl (by decide) (by decide) (rfl) (Nat.le_of_ble_eq_true rfl) rfl (rfl) ?_
    refine yb_aload rfl rfl ?_
    refine yb_push (v := 0) rfl ?_
    refine yb_push (v := 0) rfl ?_
    refine yb_callVv (As := [.int (xJ (0 : Int)), .int (xJ (0 : Int))]) (a := 119) rfl rfl rfl rfl rfl rfl rfl rfl (by decide) (by decide) (rfl) (by decide) (yV_mono h (fun d2 e3 h => ?_))
    exact yb_retv rfl h
  · replace h := h.2 c
    refine yb_aload rfl rfl ?_
    refine yb_get (v := .ref 125) rfl (by decide) (by decide) (rfl) rfl ?_
    refine yb_iload (x := l5) rfl rfl ?_
    refine yb_aload rfl rfl ?_
    refine yb_get (v := .ref 125) rfl (by decide) (by decide) (rfl) rfl ?_
    refine yb_iload (x := l5) rfl rfl ?_
    refine yb_push (v := 1) rfl ?_
    refine yb_iadd (x := l5) (y := (1 : Int)) rfl ?_
    have r4 := h.1
    replace h := h.2
    refine yb_iald (j := (l5 + (1 : Int))) rfl xd_A125 (by decide) r4 (v := (d 125 (l5 + (1 : Int)))) rfl ?_
    refine yb_aload rfl rfl ?_
    refine yb_iload (x := l5) rfl rfl ?_
    refine yb_callVi (As := [.int (xJ l5)]) (a := 119) rfl rfl rfl rfl rfl rfl rfl rfl (by decide) (by decide) (rfl) (by show (3 : Nat) ≤ 8; decide) (yC_mono h (fun x5 d6 e7 h => ?_))
    refine yb_iadd (x := (d 125 (l5 + (1 : Int)))) (y := x5) rfl ?_
    have r8 := h.1
    replace h := h.2
    refine yb_iast (j := l5) (x := ((d 125 (l5 + (1 : Int))) + x5)) rfl xd_A125 (by decide) r8 ?_
    refine yb_iinc (x := l5) (n := (-1)) rfl rfl rfl rfl ?_
    refine yb_goto rfl rfl ?_
    exact h
theorem yk_9_11_0 {D L : Nat} {P : xh_D → xd_E → Prop} {d : xh_D} {e : xd_E} {a4 : Int} {a5 : Int}   (h : ((0 ≤ a4 ∧ a4 < 9) ∧ yB D xm_c9 (yQv L P) L 7 [.ref 119, .ref 6, .ref 111, .ref 11, .int (xJ a4), .int (xJ a5), .int (xJ (d 120 a4)), .int (xJ (0 : Int)), .double 0] [] d e)) : yB D xm_c9 (yQv L P) L 0 [.ref 119, .ref 6, .ref 111, .ref 11, .int (xJ a4), .int (xJ a5), .double 0, .double 0, .double 0] [] d e := by
  refine yb_aload rfl rfl ?_
  refine yb_get (v := .ref 120) rfl (by decide) (by decide) (rfl) rfl ?_
  refine yb_iload (x := a4) rfl rfl ?_
  have r1 := h.1
  replace h := h.2
  refine yb_iald (j := a4) rfl xd_A120 (by decide) r1 (v := (d 120 a4)) rfl ?_
  refine yb_istore rfl rfl rfl ?_
  refine yb_push (v := 0) rfl ?_
  refine yb_istore rfl rfl rfl ?_
  exact h
theorem yk_9_11_7 {D L : Nat} {P : xh_D → xd_E → Prop} {d : xh_D} {e : xd_E}  {l4 : Int} {l5 : Int} {l6 : Int} {l7 : Int}  (h : ((-2147483648 ≤ l7 ∧ l7 < 2147483648) ∧ ((-2147483648 ≤ (d 119 (7 : Int)) ∧ (d 119 (7 : Int)) < 2147483648) ∧ ((((d 119 (7 : Int)) ≤ l7) → P d e) ∧ ((¬ (d 119 (7 : Int)) ≤ l7) → ((0 ≤ l7 ∧ l7 < 9) ∧ ((0 ≤ l5 ∧ l5 < 2147483648) ∧ ((-2147483648 ≤ (d 12 l7) ∧ (d 12 l7) < 2147483648) ∧ ((((d 12 l7) = (l5 % (9 : Int))) → ((0 ≤ ((l4 * (9 : Int)) + l7) ∧ ((l4 * (9 : Int)) + l7) < 81) ∧ yB D xm_c9 (yQv L P) L 7 [.ref 119, .ref 6, .ref 111, .ref 11, .int (xJ l4), .int (xJ l5), .int (xJ l6), .int (xJ (l7 + 1)), .double 0] [] (xs d 124 ((l4 * (9 : Int)) + l7) (-1 : Int)) e)) ∧ ((¬ (d 12 l7) = (l5 % (9 : Int))) → ((0 ≤ ((l6 * (9 : Int)) + l7) ∧ ((l6 * (9 : Int)) + l7) < 81) ∧ ((-2147483648 ≤ (d 7 ((l6 * (9 : Int)) + l7)) ∧ (d 7 ((l6 * (9 : Int)) + l7)) < 2147483648) ∧ ((((d 7 ((l6 * (9 : Int)) + l7)) ≤ 0) → ((0 ≤ ((l4 * (9 : Int)) + l7) ∧ ((l4 * (9 : Int)) + l7) < 81) ∧ yB D xm_c9 (yQv L P) L 7 [.ref 119, .ref 6, .ref 111, .ref 11, .int (xJ l4), .int (xJ l5), .int (xJ l6), .int (xJ (l7 + 1)), .double 0] [] (xs d 124 ((l4 * (9 : Int)) + l7) (-1 : Int)) e)) ∧ ((¬ (d 7 ((l6 * (9 : Int)) + l7)) ≤ 0) → yV D 46 L [.ref 111, .ref 6, .ref 11, .int (xJ l6), .int (xJ l7), .int (xJ l5)] d e (fun d10 e11 => yC D 47 L [.ref 111] d10 e11 (fun x12 d13 e14 => ((0 ≤ ((l4 * (9 : Int)) + l7) ∧ ((l4 * (9 : Int)) + l7) < 81) ∧ yB D xm_c9 (yQv L P) L 7 [.ref 119, .ref 6, .ref 111, .ref 11, .int (xJ l4), .int (xJ l5), .int (xJ l6), .int (xJ (l7 + 1)), .double 0] [] (xs d13 124 ((l4 * (9 : Int)) + l7) x12) e14))))))))))))))))) : yB D xm_c9 (yQv L P) L 7 [.ref 119, .ref 6, .ref 111, .ref 11, .int (xJ l4), .int (xJ l5), .int (xJ l6), .int (xJ l7), .double 0] [] d e := by
  refine yb_iload (x := l7) rfl rfl ?_
  refine yb_aload rfl rfl ?_
  refine yb_get (v := .int (xJ (d 119 (7 : Int)))) rfl (by decide) (by decide) (rfl) rfl ?_
  have r1 := h.1
  replace h := h.2
  have r2 := h.1
  replace h := h.2
  refine yb_icmp_ge (x := l7) (y := (d 119 (7 : Int))) rfl rfl r1 r2 (fun c => ?_) (fun c => ?_)
  · replace h := h.1 c
    exact yb_retv rfl h
  · replace h := h.2 c
    refine yb_push (v := (-1)) rfl ?_
    refine yb_istore rfl rfl rfl ?_
    refine yb_aload rfl rfl ?_
    refine yb_get (v := .ref 12) rfl (by decide) (by decide) (rfl) rfl ?_
    refine yb_iload (x := l7) rfl rfl ?_
    have r3 := h.1
    replace h := h.2
    refine yb_iald (j := l7) rfl xd_A12 (by decide) r3 (v := (d 12 l7)) rfl ?_
    refine yb_iload (x := l5) rfl rfl ?_
    refine yb_push (v := 9) rfl ?_
    have r4 := h.1
    replace h := h.2
    refine yb_irem (x := l5) (y := (9 : Int)) rfl r4 (by decide) ?_
    have r5 := h.1
    replace h := h.2
    refine yb_icmp_eq (x := (d 12 l7)) (y := (l5 % (9 : Int))) rfl rfl r5 (by omega) (fun c => ?_) (fun c => ?_)
    · replace h := h.1 c
      refine yb_aload rfl rfl ?_
      refine yb_get (v := .ref 124) rfl (by decide) (by decide) (rfl) rfl ?_
      refine yb_iload (x := l4) rfl rfl ?_
      refine yb_push (v := 9) rfl ?_
      refine yb_imul (x := l4) (y := (9 : Int)) rfl ?_
      refine yb_iload (x := l7) rfl rfl ?_
      refine yb_iadd (x := (l4 * (9 : Int))) (y := l7) rfl ?_
      refine yb_iload (x := (-1 : Int)) rfl rfl ?_
      have r6 := h.1
      replace h := h.2
      refine yb_iast (j := ((l4 * (9 : Int)) + l7)) (x := (-1 : Int)) rfl xd_A124 (by decide) r6 ?_
      refine yb_iinc (x := l7) (n := 1) rfl rfl rfl rfl ?_
      refine yb_goto rfl rfl ?_
      refine yb_forget (dl := [.ref 119, .ref 6, .ref 111, .ref 11, .int (xJ l4), .int (xJ l5), .int (xJ l6), .int (xJ (l7 + 1)), .double 0]) ⟨Or.inl rfl, ⟨Or.inl rfl, ⟨Or.inl rfl, ⟨Or.inl rfl, ⟨Or.inl rfl, ⟨Or.inl rfl, ⟨Or.inl rfl, ⟨Or.inl rfl, ⟨Or.inr ⟨rfl, rfl⟩, trivial⟩⟩⟩⟩⟩⟩⟩⟩⟩ ?_
      exact h
    · replace h := h.2 c
      refine yb_aload rfl rfl ?_
      refine yb_get (v := .ref 7) rfl (by decide) (by decide) (rfl) rfl ?_
      refine yb_iload (x := l6) rfl rfl ?_
      refine yb_push (v := 9) rfl ?_
      refine yb_imul (x := l6) (y := (9 : Int)) rfl ?_
      refine yb_iload (x := l7) rfl rfl ?_
      refine yb_iadd (x := (l6 * (9 : Int))) (y := l7) rfl ?_
      have r7 := h.1
      replace h := h.2
      refine yb_iald (j := ((l6 * (9 : Int)) + l7)) rfl xd_A7 (by decide) r7 (v := (d 7 ((l6 * (9 : Int)) + l7))) rfl ?_
      have r8 := h.1
      replace h := h.2
      refine yb_if_le (x := (d 7 ((l6 * (9 : Int)) + l7))) rfl rfl r8 (fun c => ?_) (fun c => ?_)
      · replace h := h.1 c
        refine yb_aload rfl rfl ?_
        refine yb_get (v := .ref 124) rfl (by decide) (by decide) (rfl) rfl ?_
        refine yb_iload (x := l4) rfl rfl ?_
        refine yb_push (v := 9) rfl ?_
        refine yb_imul (x := l4) (y := (9 : Int)) rfl ?_
        refine yb_iload (x := l7) rfl rfl ?_
        refine yb_iadd (x := (l4 * (9 : Int))) (y := l7) rfl ?_
        refine yb_iload (x := (-1 : Int)) rfl rfl ?_
        have r9 := h.1
        replace h := h.2
        refine yb_iast (j := ((l4 * (9 : Int)) + l7)) (x := (-1 : Int)) rfl xd_A124 (by decide) r9 ?_
        refine yb_iinc (x := l7) (n := 1) rfl rfl rfl rfl ?_
        refine yb_goto rfl rfl ?_
        refine yb_forget (dl := [.ref 119, .ref 6, .ref 111, .ref 11, .int (xJ l4), .int (xJ l5), .int (xJ l6), .int (xJ (l7 + 1)), .double 0]) ⟨Or.inl rfl, ⟨Or.inl rfl, ⟨Or.inl rfl, ⟨Or.inl rfl, ⟨Or.inl rfl, ⟨Or.inl rfl, ⟨Or.inl rfl, ⟨Or.inl rfl, ⟨Or.inr ⟨rfl, rfl⟩, trivial⟩⟩⟩⟩⟩⟩⟩⟩⟩ ?_
        exact h
      · replace h := h.2 c
        refine yb_aload rfl rfl ?_
        refine yb_aload rfl rfl ?_
        refine yb_aload rfl rfl ?_
        refine yb_iload (x := l6) rfl rfl ?_
        refine yb_iload (x := l7) rfl rfl ?_
        refine yb_iload (x := l5) rfl rfl ?_
        refine yb_callVv (As := [.ref 6, .ref 11, .int (xJ l6), .int (xJ l7), .int (xJ l5)]) (a := 111) rfl rfl rfl rfl rfl rfl rfl rfl (by decide) (by decide) (rfl) (by decide) (yV_mono h (fun d10 e11 h => ?_))
        refine yb_aload rfl rfl ?_
        refine yb_callVi (As := []) (a := 111) rfl rfl rfl rfl rfl rfl rfl rfl (by decide) (by decide) (rfl) (by decide) (yC_mono h (fun x12 d13 e14 h => ?_))
        refine yb_istore rfl rfl rfl ?_
        refine yb_aload rfl rfl ?_
        refine yb_get (v := .ref 124) rfl (by decide) (by decide) (rfl) rfl ?_
        refine yb_iload (x := l4) rfl rfl ?_
        refine yb_push (v := 9) rfl ?_
        refine yb_imul (x := l4) (y := (9 : Int)) rfl ?_
        refine yb_iload (x := l7) rfl rfl ?_
        refine yb_iadd (x := (l4 * (9 : Int))) (y := l7) rfl ?_
        refine yb_iload (x := x12) rfl rfl ?_
        have r15 := h.1
        replace h := h.2
        refine yb_iast (j := ((l4 * (9 : Int)) + l7)) (x := x12) rfl xd_A124 (by decide) r15 ?_
        refine yb_iinc (x := l7) (n := 1) rfl rfl rfl rfl ?_
        refine yb_goto rfl rfl ?_
        refine yb_forget (dl := [.ref 119, .ref 6, .ref 111, .ref 11, .int (xJ l4), .int (xJ l5), .int (xJ l6), .int (xJ (l7 + 1)), .double 0]) ⟨Or.inl rfl, ⟨Or.inl rfl, ⟨Or.inl rfl, ⟨Or.inl rfl, ⟨Or.inl rfl, ⟨Or.inl rfl, ⟨Or.inl rfl, ⟨Or.inl rfl, ⟨Or.inr ⟨rfl, rfl⟩, trivial⟩⟩⟩⟩⟩⟩⟩⟩⟩ ?_
        exact h
theorem yk_9_17_0 {D L : Nat} {P : xh_D → xd_E → Prop} {d : xh_D} {e : xd_E} {a4 : Int} {a5 : Int}   (h : ((0 ≤ a4 ∧ a4 < 9) ∧ yB D xm_c9 (yQv L P) L 7 [.ref 119, .ref 6, .ref 111, .ref 17, .int (xJ a4), .int (xJ a5), .int (xJ (d 120 a4)), .int (xJ (0 : Int)), .double 0] [] d e)) : yB D xm_c9 (yQv L P) L 0 [.ref 119, .ref 6, .ref 111, .ref 17, .int (xJ a4), .int (xJ a5), .double 0, .double 0, .double 0] [] d e := by
  refine yb_aload rfl rfl ?_
  refine yb_get (v := .ref 120) rfl (by decide) (by decide) (rfl) rfl ?_
  refine yb_iload (x := a4) rfl rfl ?_
  have r1 := h.1
  replace h := h.2
  refine yb_iald (j := a4) rfl xd_A120 (by decide) r1 (v := (d 120 a4)) rfl ?_
  refine yb_istore rfl rfl rfl ?_
  refine yb_push (v := 0) rfl ?_
  refine yb_istore rfl rfl rfl ?_
  exact h
theorem yk_9_17_7 {D L : Nat} {P : xh_D → xd_E → Prop} {d : xh_D} {e : xd_E}  {l4 : Int} {l5 : Int} {l6 : Int} {l7 : Int}  (h : ((-2147483648 ≤ l7 ∧ l7 < 2147483648) ∧ ((-2147483648 ≤ (d 119 (7 : Int)) ∧ (d 119 (7 : Int)) < 2147483648) ∧ ((((d 119 (7 : Int)) ≤ l7) → P d e) ∧ ((¬ (d 119 (7 : Int)) ≤ l7) → ((0 ≤ l7 ∧ l7 < 9) ∧ ((0 ≤ l5 ∧ l5 < 2147483648) ∧ ((-2147483648 ≤ (d 18 l7) ∧ (d 18 l7) < 2147483648) ∧ ((((d 18 l7) = (l5 % (9 : Int))) → ((0 ≤ ((l4 * (9 : Int)) + l7) ∧ ((l4 * (9 : Int)) + l7) < 81) ∧ yB D xm_c9 (yQv L P) L 7 [.ref 119, .ref 6, .ref 111, .ref 17, .int (xJ l4), .int (xJ l5), .int (xJ l6), .int (xJ (l7 + 1)), .double 0] [] (xs d 124 ((l4 * (9 : Int)) + l7) (-1 : Int)) e)) ∧ ((¬ (d 18 l7) = (l5 % (9 : Int))) → ((0 ≤ ((l6 * (9 : Int)) + l7) ∧ ((l6 * (9 : Int)) + l7) < 81) ∧ ((-2147483648 ≤ (d 7 ((l6 * (9 : Int)) + l7)) ∧ (d 7 ((l6 * (9 : Int)) + l7)) < 2147483648) ∧ ((((d 7 ((l6 * (9 : Int)) + l7)) ≤ 0) → ((0 ≤ ((l4 * (9 : Int)) + l7) ∧ ((l4 * (9 : Int)) + l7) < 81) ∧ yB D xm_c9 (yQv L P) L 7 [.ref 119, .ref 6, .ref 111, .ref 17, .int (xJ l4), .int (xJ l5), .int (xJ l6), .int (xJ (l7 + 1)), .double 0] [] (xs d 124 ((l4 * (9 : Int)) + l7) (-1 : Int)) e)) ∧ ((¬ (d 7 ((l6 * (9 : Int)) + l7)) ≤ 0) → yV D 46 L [.ref 111, .ref 6, .ref 17, .int (xJ l6), .int (xJ l7), .int (xJ l5)] d e (fun d10 e11 => yC D 47 L [.ref 111] d10 e11 (fun x12 d13 e14 => ((0 ≤ ((l4 * (9 : Int)) + l7) ∧ ((l4 * (9 : Int)) + l7) < 81) ∧ yB D xm_c9 (yQv L P) L 7 [.ref 119, .ref 6, .ref 111, .ref 17, .int (xJ l4), .int (xJ l5), .int (xJ l6), .int (xJ (l7 + 1)), .double 0] [] (xs d13 124 ((l4 * (9 : Int)) + l7) x12) e14))))))))))))))))) : yB D xm_c9 (yQv L P) L 7 [.ref 119, .ref 6, .ref 111, .ref 17, .int (xJ l4), .int (xJ l5), .int (xJ l6), .int (xJ l7), .double 0] [] d e := by
  refine yb_iload (x := l7) rfl rfl ?_
  refine yb_aload rfl rfl ?_
  refine yb_get (v := .int (xJ (d 119 (7 : Int)))) rfl (by decide) (by decide) (rfl) rfl ?_
  have r1 := h.1
  replace h := h.2
  have r2 := h.1
  replace h := h.2
  refine yb_icmp_ge (x := l7) (y := (d 119 (7 : Int))) rfl rfl r1 r2 (fun c => ?_) (fun c => ?_)
  · replace h := h.1 c
    exact yb_retv rfl h
  · replace h := h.2 c
    refine yb_push (v := (-1)) rfl ?_
    refine yb_istore rfl rfl rfl ?_
    refine yb_aload rfl rfl ?_
    refine yb_get (v := .ref 18) rfl (by decide) (by decide) (rfl) rfl ?_
    refine yb_iload (x := l7) rfl rfl ?_
    have r3 := h.1
    replace h := h.2
    refine yb_iald (j := l7) rfl xd_A18 (by decide) r3 (v := (d 18 l7)) rfl ?_
    refine yb_iload (x := l5) rfl rfl ?_
    refine yb_push (v := 9) rfl ?_
    have r4 := h.1
    replace h := h.2
    refine yb_irem (x := l5) (y := (9 : Int)) rfl r4 (by decide) ?_
    have r5 := h.1
    replace h := h.2
    refine yb_icmp_eq (x := (d 18 l7)) (y := (l5 % (9 : Int))) rfl rfl r5 (by omega) (fun c => ?_) (fun c => ?_)
    · replace h := h.1 c
      refine yb_aload rfl rfl ?_
      refine yb_get (v := .ref 124) rfl (by decide) (by decide) (rfl) rfl ?_
      refine yb_iload (x := l4) rfl rfl ?_
      refine yb_push (v := 9) rfl ?_
      refine yb_imul (x := l4) (y := (9 : Int)) rfl ?_
      refine yb_iload (x := l7) rfl rfl ?_
      refine yb_iadd (x := (l4 * (9 : Int))) (y := l7) rfl ?_
      refine yb_iload (x := (-1 : Int)) rfl rfl ?_
      have r6 := h.1
      replace h := h.2
      refine yb_iast (j := ((l4 * (9 : Int)) + l7)) (x := (-1 : Int)) rfl xd_A124 (by decide) r6 ?_
      refine yb_iinc (x := l7) (n := 1) rfl rfl rfl rfl ?_
      refine yb_goto rfl rfl ?_
      refine yb_forget (dl := [.ref 119, .ref 6, .ref 111, .ref 17, .int (xJ l4), .int (xJ l5), .int (xJ l6), .int (xJ (l7 + 1)), .double 0]) ⟨Or.inl rfl, ⟨Or.inl rfl, ⟨Or.inl rfl, ⟨Or.inl rfl, ⟨Or.inl rfl, ⟨Or.inl rfl, ⟨Or.inl rfl, ⟨Or.inl rfl, ⟨Or.inr ⟨rfl, rfl⟩, trivial⟩⟩⟩⟩⟩⟩⟩⟩⟩ ?_
      exact h
    · replace h := h.2 c
      refine yb_aload rfl rfl ?_
      refine yb_get (v := .ref 7) rfl (by decide) (by decide) (rfl) rfl ?_
      refine yb_iload (x := l6) rfl rfl ?_
      refine yb_push (v := 9) rfl ?_
      refine yb_imul (x := l6) (y := (9 : Int)) rfl ?_
      refine yb_iload (x := l7) rfl rfl ?_
      refine yb_iadd (x := (l6 * (9 : Int))) (y := l7) rfl ?_
      have r7 := h.1
      replace h := h.2
      refine yb_iald (j := ((l6 * (9 : Int)) + l7)) rfl xd_A7 (by decide) r7 (v := (d 7 ((l6 * (9 : Int)) + l7))) rfl ?_
      have r8 := h.1
      replace h := h.2
      refine yb_if_le (x := (d 7 ((l6 * (9 : Int)) + l7))) rfl rfl r8 (fun c => ?_) (fun c => ?_)
      · replace h := h.1 c
        refine yb_aload rfl rfl ?_
        refine yb_get (v := .ref 124) rfl (by decide) (by decide) (rfl) rfl ?_
        refine yb_iload (x := l4) rfl rfl ?_
        refine yb_push (v := 9) rfl ?_
        refine yb_imul (x := l4) (y := (9 : Int)) rfl ?_
        refine yb_iload (x := l7) rfl rfl ?_
        refine yb_iadd (x := (l4 * (9 : Int))) (y := l7) rfl ?_
        refine yb_iload (x := (-1 : Int)) rfl rfl ?_
        have r9 := h.1
        replace h := h.2
        refine yb_iast (j := ((l4 * (9 : Int)) + l7)) (x := (-1 : Int)) rfl xd_A124 (by decide) r9 ?_
        refine yb_iinc (x := l7) (n := 1) rfl rfl rfl rfl ?_
        refine yb_goto rfl rfl ?_
        refine yb_forget (dl := [.ref 119, .ref 6, .ref 111, .ref 17, .int (xJ l4), .int (xJ l5), .int (xJ l6), .int (xJ (l7 + 1)), .double 0]) ⟨Or.inl rfl, ⟨Or.inl rfl, ⟨Or.inl rfl, ⟨Or.inl rfl, ⟨Or.inl rfl, ⟨Or.inl rfl, ⟨Or.inl rfl, ⟨Or.inl rfl, ⟨Or.inr ⟨rfl, rfl⟩, trivial⟩⟩⟩⟩⟩⟩⟩⟩⟩ ?_
        exact h
      · replace h := h.2 c
        refine yb_aload rfl rfl ?_
        refine yb_aload rfl rfl ?_
        refine yb_aload rfl rfl ?_
        refine yb_iload (x := l6) rfl rfl ?_
        refine yb_iload (x := l7) rfl rfl ?_
        refine yb_iload (x := l5) rfl rfl ?_
        refine yb_callVv (As := [.ref 6, .ref 17, .int (xJ l6), .int (xJ l7), .int (xJ l5)]) (a := 111) rfl rfl rfl rfl rfl rfl rfl rfl (by decide) (by decide) (rfl) (by decide) (yV_mono h (fun d10 e11 h => ?_))
        refine yb_aload rfl rfl ?_
        refine yb_callVi (As := []) (a := 111) rfl rfl rfl rfl rfl rfl rfl rfl (by decide) (by decide) (rfl) (by decide) (yC_mono h (fun x12 d13 e14 h => ?_))
        refine yb_istore rfl rfl rfl ?_
        refine yb_aload rfl rfl ?_
        refine yb_get (v := .ref 124) rfl (by decide) (by decide) (rfl) rfl ?_
        refine yb_iload (x := l4) rfl rfl ?_
        refine yb_push (v := 9) rfl ?_
        refine yb_imul (x := l4) (y := (9 : Int)) rfl ?_
        refine yb_iload (x := l7) rfl rfl ?_
        refine yb_iadd (x := (l4 * (9 : Int))) (y := l7) rfl ?_
        refine yb_iload (x := x12) rfl rfl ?_
        have r15 := h.1
        replace h := h.2
        refine yb_iast (j := ((l4 * (9 : Int)) + l7)) (x := x12) rfl xd_A124 (by decide) r15 ?_
        refine yb_iinc (x := l7) (n := 1) rfl rfl rfl rfl ?_
        refine yb_goto rfl rfl ?_
        refine yb_forget (dl := [.ref 119, .ref 6, .ref 111, .ref 17, .int (xJ l4), .int (xJ l5), .int (xJ l6), .int (xJ (l7 + 1)), .double 0]) ⟨Or.inl rfl, ⟨Or.inl rfl, ⟨Or.inl rfl, ⟨Or.inl rfl, ⟨Or.inl rfl, ⟨Or.inl rfl, ⟨Or.inl rfl, ⟨Or.inl rfl, ⟨Or.inr ⟨rfl, rfl⟩, trivial⟩⟩⟩⟩⟩⟩⟩⟩⟩ ?_
        exact h
theorem yk_10_0 {D L : Nat} {P : Int → xh_D → xd_E → Prop} {d : xh_D} {e : xd_E} {a1 : Int}   (h : yB D xm_c10 (yQi L P) L 4 [.ref 119, .int (xJ a1), .int (xJ (1000 : Int)), .int (xJ (0 : Int)), .double 0] [] d e) : yB D xm_c10 (yQi L P) L 0 [.ref 119, .int (xJ a1), .double 0, .double 0, .double 0] [] d e := by
  refine yb_push (v := 1000) rfl ?_
  refine yb_istore rfl rfl rfl ?_
  refine yb_push (v := 0) rfl ?_
  refine yb_istore rfl rfl rfl ?_
  exact h
theorem yk_10_4 {D L : Nat} {P : Int → xh_D → xd_E → Prop} {d : xh_D} {e : xd_E}  {l1 : Int} {l2 : Int} {l3 : Int}  (h : ((-2147483648 ≤ l3 ∧ l3 < 2147483648) ∧ ((-2147483648 ≤ (d 119 (7 : Int)) ∧ (d 119 (7 : Int)) < 2147483648) ∧ ((((d 119 (7 : Int)) ≤ l3) → P l2 d e) ∧ ((¬ (d 119 (7 : Int)) ≤ l3) → ((0 ≤ ((l1 * (9 : Int)) + l3) ∧ ((l1 * (9 : Int)) + l3) < 81) ∧ ((-2147483648 ≤ (d 124 ((l1 * (9 : Int)) + l3)) ∧ (d 124 ((l1 * (9 : Int)) + l3)) < 2147483648) ∧ ((((d 124 ((l1 * (9 : Int)) + l3)) = (-1 : Int)) → yB D xm_c10 (yQi L P) L 4 [.ref 119, .int (xJ l1), .int (xJ l2), .int (xJ (l3 + 1)), .double 0] [] d e) ∧ ((¬ (d 124 ((l1 * (9 : Int)) + l3)) = (-1 : Int)) → ((-2147483648 ≤ l2 ∧ l2 < 2147483648) ∧ (((l2 ≤ (d 124 ((l1 * (9 : Int)) + l3))) → yB D xm_c10 (yQi L P) L 4 [.ref 119, .int (xJ l1), .int (xJ l2), .int (xJ (l3 + 1)), .double 0] [] d e) ∧ ((¬ l2 ≤ (d 124 ((l1 * (9 : Int)) + l3))) → yB D xm_c10 (yQi L P) L 4 [.ref 119, .int (xJ l1), .int (xJ (d 124 ((l1 * (9 : Int)) + l3))), .int (xJ (l3 + 1)), .double 0] [] d e)))))))))))) : yB D xm_c10 (yQi L P) L 4 [.ref 119, .int (xJ l1), .int (xJ l2), .int (xJ l3), .double 0] [] d e := by
  refine yb_iload (x := l3) rfl rfl ?_
  refine yb_aload rfl rfl ?_
  refine yb_get (v := .int (xJ (d 119 (7 : Int)))) rfl (by decide) (by decide) (rfl) rfl ?_
  have r1 := h.1
  replace h := h.2
  have r2 := h.1
  replace h := h.2
  refine yb_icmp_ge (x := l3) (y := (d 119 (7 : Int))) rfl rfl r1 r2 (fun c => ?_) (fun c => ?_)
  · replace h := h.1 c
    refine yb_iload (x := l2) rfl rfl ?_
    exact yb_ret rfl h
  · replace h := h.2 c
    refine yb_aload rfl rfl ?_
    refine yb_get (v := .ref 124) rfl (by decide) (by decide) (rfl) rfl ?_
    refine yb_iload (x := l1) rfl rfl ?_
    refine yb_push (v := 9) rfl ?_
    refine yb_imul (x := l1) (y := (9 : Int)) rfl ?_
    refine yb_iload (x := l3) rfl rfl ?_
    refine yb_iadd (x := (l1 * (9 : Int))) (y := l3) rfl ?_
    have r3 := h.1
    replace h := h.2
    refine yb_iald (j := ((l1 * (9 : Int)) + l3)) rfl xd_A124 (by decide) r3 (v := (d 124 ((l1 * (9 : Int)) + l3))) rfl ?_
    refine yb_istore rfl rfl rfl ?_
    refine yb_iload (x := (d 124 ((l1 * (9 : Int)) + l3))) rfl rfl ?_
    refine yb_push (v := (-1)) rfl ?_
    have r4 := h.1
    replace h := h.2
    refine yb_icmp_eq (x := (d 124 ((l1 * (9 : Int)) + l3))) (y := (-1 : Int)) rfl rfl r4 (by decide) (fun c => ?_) (fun c => ?_)
    · replace h := h.1 c
      refine yb_iinc (x := l3) (n := 1) rfl rfl rfl rfl ?_
      refine yb_goto rfl rfl ?_
      refine yb_forget (dl := [.ref 119, .int (xJ l1), .int (xJ l2), .int (xJ (l3 + 1)), .double 0]) ⟨Or.inl rfl, ⟨Or.inl rfl, ⟨Or.inl rfl, ⟨Or.inl rfl, ⟨Or.inr ⟨rfl, rfl⟩, trivial⟩⟩⟩⟩⟩ ?_
      exact h
    · replace h := h.2 c
      refine yb_iload (x := (d 124 ((l1 * (9 : Int)) + l3))) rfl rfl ?_
      refine yb_iload (x := l2) rfl rfl ?_
      have r5 := h.1
      replace h := h.2
      refine yb_icmp_ge (x := (d 124 ((l1 * (9 : Int)) + l3))) (y := l2) rfl rfl r4 r5 (fun c => ?_) (fun c => ?_)
      · replace h := h.1 c
        refine yb_iinc (x := l3) (n := 1) rfl rfl rfl rfl ?_
        refine yb_goto rfl rfl ?_
        refine yb_forget (dl := [.ref 119, .int (xJ l1), .int (xJ l2), .int (xJ (l3 + 1)), .double 0]) ⟨Or.inl rfl, ⟨Or.inl rfl, ⟨Or.inl rfl, ⟨Or.inl rfl, ⟨Or.inr ⟨rfl, rfl⟩, trivial⟩⟩⟩⟩⟩ ?_
        exact h
      · replace h := h.2 c
        refine yb_iload (x := (d 124 ((l1 * (9 : Int)) + l3))) rfl rfl ?_
        refine yb_istore rfl rfl rfl ?_
        refine yb_iinc (x := l3) (n := 1) rfl rfl rfl rfl ?_
        refine yb_goto rfl rfl ?_
        refine yb_forget (dl := [.ref 119, .int (xJ l1), .int (xJ (d 124 ((l1 * (9 : Int)) + l3))), .int (xJ (l3 + 1)), .double 0]) ⟨Or.inl rfl, ⟨Or.inl rfl, ⟨Or.inl rfl, ⟨Or.inl rfl, ⟨Or.inr ⟨rfl, rfl⟩, trivial⟩⟩⟩⟩⟩ ?_
        exact h
theorem yk_11_0 {D L : Nat} {P : xh_D → xd_E → Prop} {d : xh_D} {e : xd_E} {a1 : Int} {a2 : Int}   (h : ((0 ≤ a1 ∧ a1 < 10) ∧ ((-2147483648 ≤ (a2 + (d 125 a1)) ∧ (a2 + (d 125 a1)) < 2147483648) ∧ ((-2147483648 ≤ (d 119 (8 : Int)) ∧ (d 119 (8 : Int)) < 2147483648) ∧ ((((a2 + (d 125 a1)) < (d 119 (8 : Int))) → ((-2147483648 ≤ a1 ∧ a1 < 2147483648) ∧ ((-2147483648 ≤ (d 119 (6 : Int)) ∧ (d 119 (6 : Int)) < 2147483648) ∧ (((a1 < (d 119 (6 : Int))) → yB D xm_c11 (yQv L P) L 29 [.ref 119, .int (xJ a1), .int (xJ a2), .int (xJ (0 : Int)), .double 0] [] d e) ∧ ((¬ a1 < (d 119 (6 : Int))) → ((0 ≤ (d 119 (6 : Int)) ∧ (d 119 (6 : Int)) ≤ 9 ∧ (d 119 (6 : Int)) ≤ 9) ∧ P (xcp (xs d 119 (8 : Int) a2) 122 121 (d 119 (6 : Int))) e)))))) ∧ ((¬ (a2 + (d 125 a1)) < (d 119 (8 : Int))) → P d e)))))) : yB D xm_c11 (yQv L P) L 0 [.ref 119, .int (xJ a1), .int (xJ a2), .double 0, .double 0] [] d e := by
  refine yb_iload (x := a2) rfl rfl ?_
  refine yb_aload rfl rfl ?_
  refine yb_get (v := .ref 125) rfl (by decide) (by decide) (rfl) rfl ?_
  refine yb_iload (x := a1) rfl rfl ?_
  have r1 := h.1
  replace h := h.2
  refine yb_iald (j := a1) rfl xd_A125 (by decide) r1 (v := (d 125 a1)) rfl ?_
  refine yb_iadd (x := a2) (y := (d 125 a1)) rfl ?_
  refine yb_aload rfl rfl ?_
  refine yb_get (v := .int (xJ (d 119 (8 : Int)))) rfl (by decide) (by decide) (rfl) rfl ?_
  have r2 := h.1
  replace h := h.2
  have r3 := h.1
  replace h := h.2
  refine yb_icmp_lt (x := (a2 + (d 125 a1))) (y := (d 119 (8 : Int))) rfl rfl r2 r3 (fun c => ?_) (fun c => ?_)
  · replace h := h.1 c
    refine yb_iload (x := a1) rfl rfl ?_
    refine yb_aload rfl rfl ?_
    refine yb_get (v := .int (xJ (d 119 (6 : Int)))) rfl (by decide) (by decide) (rfl) rfl ?_
    have r4 := h.1
    replace h := h.2
    have r5 := h.1
    replace h := h.2
    refine yb_icmp_lt (x := a1) (y := (d 119 (6 : Int))) rfl rfl r4 r5 (fun c => ?_) (fun c => ?_)
    · replace h := h.1 c
      refine yb_push (v := 0) rfl ?_
      refine yb_istore rfl rfl rfl ?_
      exact h
    · replace h := h.2 c
      refine yb_aload rfl rfl ?_
      refine yb_iload (x := a2) rfl rfl ?_
      refine yb_put (z := a2) (k := 8) rfl rfl (by decide) (by decide) (rfl) (Nat.le_of_ble_eq_true rfl) rfl (rfl) ?_
      refine yb_aload rfl rfl ?_
      refine yb_get (v := .ref 122) rfl (by decide) (by decide) (rfl) rfl ?_
      refine yb_push (v := 0) rfl ?_
      refine yb_aload rfl rfl ?_
      refine yb_get (v := .ref 121) rfl (by decide) (by decide) (rfl) rfl ?_
      refine yb_push (v := 0) rfl ?_
      refine yb_aload rfl rfl ?_
      refine yb_get (v := .int (xJ (d 119 (6 : Int)))) rfl (by decide) (by decide) (rfl) rfl ?_
      have r6 := h.1
      replace h := h.2
      refine yb_copyi (n := (d 119 (6 : Int))) rfl (by decide) xd_A122 xd_A121 (by decide) r6 ?_
      exact yb_retv rfl h
  · replace h := h.2 c
    exact yb_retv rfl h
theorem yk_11_29 {D L : Nat} {P : xh_D → xd_E → Prop} {d : xh_D} {e : xd_E}  {l1 : Int} {l2 : Int} {l3 : Int}  (h : ((-2147483648 ≤ l3 ∧ l3 < 2147483648) ∧ ((-2147483648 ≤ (d 119 (7 : Int)) ∧ (d 119 (7 : Int)) < 2147483648) ∧ ((((d 119 (7 : Int)) ≤ l3) → ((0 ≤ l1 ∧ l1 < 9) ∧ yV D 11 L [.ref 119, .int (xJ (l1 + (1 : Int))), .int (xJ (l2 + (1000 : Int)))] (xs d 122 l1 (-1 : Int)) e (fun d4 e5 => P d4 e5))) ∧ ((¬ (d 119 (7 : Int)) ≤ l3) → ((0 ≤ ((l1 * (9 : Int)) + l3) ∧ ((l1 * (9 : Int)) + l3) < 81) ∧ ((-2147483648 ≤ (d 124 ((l1 * (9 : Int)) + l3)) ∧ (d 124 ((l1 * (9 : Int)) + l3)) < 2147483648) ∧ ((((d 124 ((l1 * (9 : Int)) + l3)) = (-1 : Int)) → yB D xm_c11 (yQv L P) L 29 [.ref 119, .int (xJ l1), .int (xJ l2), .int (xJ (l3 + 1)), .double 0] [] d e) ∧ ((¬ (d 124 ((l1 * (9 : Int)) + l3)) = (-1 : Int)) → ((0 ≤ l3 ∧ l3 < 9) ∧ ((-2147483648 ≤ (d 123 l3) ∧ (d 123 l3) < 2147483648) ∧ ((((2 : Int) ≤ (d 123 l3)) → yB D xm_c11 (yQv L P) L 29 [.ref 119, .int (xJ l1), .int (xJ l2), .int (xJ (l3 + 1)), .double 0] [] d e) ∧ ((¬ (2 : Int) ≤ (d 123 l3)) → ((0 ≤ l1 ∧ l1 < 9) ∧ yV D 11 L [.ref 119, .int (xJ (l1 + (1 : Int))), .int (xJ (l2 + (d 124 ((l1 * (9 : Int)) + l3))))] (xs (xs d 123 l3 ((d 123 l3) + (1 : Int))) 122 l1 l3) e (fun d11 e12 => yB D xm_c11 (yQv L P) L 29 [.ref 119, .int (xJ l1), .int (xJ l2), .int (xJ (l3 + 1)), .double 0] [] (xs d11 123 l3 ((d11 123 l3) - (1 : Int))) e12))))))))))))))) : yB D xm_c11 (yQv L P) L 29 [.ref 119, .int (xJ l1), .int (xJ l2), .int (xJ l3), .double 0] [] d e := by
  refine yb_iload (x := l3) rfl rfl ?_
  refine yb_aload rfl rfl ?_
  refine yb_get (v := .int (xJ (d 119 (7 : Int)))) rfl (by decide) (by decide) (rfl) rfl ?_
  have r1 := h.1
  replace h := h.2
  have r2 := h.1
  replace h := h.2
  refine yb_icmp_ge (x := l3) (y := (d 119 (7 : Int))) rfl rfl r1 r2 (fun c => ?_) (fun c => ?_)
  · replace h := h.1 c
    refine yb_aload rfl rfl ?_
    refine yb_get (v := .ref 122) rfl (by decide) (by decide) (rfl) rfl ?_
    refine yb_iload (x := l1) rfl rfl ?_
    refine yb_push (v := (-1)) rfl ?_
    have r3 := h.1
    replace h := h.2
    refine yb_iast (j := l1) (x := (-1 : Int)) rfl xd_A122 (by decide) r3 ?_
    refine yb_aload rfl rfl ?_
    refine yb_iload (x := l1) rfl rfl ?_
    refine yb_push (v := 1) rfl ?_
    refine yb_iadd (x := l1) (y := (1 : Int)) rfl ?_
    refine yb_iload (x := l2) rfl rfl ?_
    refine yb_push (v := 1000) rfl ?_
    refine yb_iadd (x := l2) (y := (1000 : Int)) rfl ?_
    refine yb_callVv (As := [.int (xJ (l1 + (1 : Int))), .int (xJ (l2 + (1000 : Int)))]) (a := 119) rfl rfl rfl rfl rfl rfl rfl rfl (by decide) (by decide) (rfl) (by decide) (yV_mono h (fun d4 e5 h => ?_))
    exact yb_retv rfl h
  · replace h := h.2 c
    refine yb_aload rfl rfl ?_
    refine yb_get (v := .ref 124) rfl (by decide) (by decide) (rfl) rfl ?_
    refine yb_iload (x := l1) rfl rfl ?_
    refine yb_push (v := 9) rfl ?_
    refine yb_imul (x := l1) (y := (9 : Int)) rfl ?_
    refine yb_iload (x := l3) rfl rfl ?_
    refine yb_iadd (x := (l1 * (9 : Int))) (y := l3) rfl ?_
    have r6 := h.1
    replace h := h.2
    refine yb_iald (j := ((l1 * (9 : Int)) + l3)) rfl xd_A124 (by decide) r6 (v := (d 124 ((l1 * (9 : Int)) + l3))) rfl ?_
    refine yb_istore rfl rfl rfl ?_
    refine yb_iload (x := (d 124 ((l1 * (9 : Int)) + l3))) rfl rfl ?_
    refine yb_push (v := (-1)) rfl ?_
    have r7 := h.1
    replace h := h.2
    refine yb_icmp_eq (x := (d 124 ((l1 * (9 : Int)) + l3))) (y := (-1 : Int)) rfl rfl r7 (by decide) (fun c => ?_) (fun c => ?_)
    · replace h := h.1 c
      refine yb_iinc (x := l3) (n := 1) rfl rfl rfl rfl ?_
      refine yb_goto rfl rfl ?_
      refine yb_forget (dl := [.ref 119, .int (xJ l1), .int (xJ l2), .int (xJ (l3 + 1)), .double 0]) ⟨Or.inl rfl, ⟨Or.inl rfl, ⟨Or.inl rfl, ⟨Or.inl rfl, ⟨Or.inr ⟨rfl, rfl⟩, trivial⟩⟩⟩⟩⟩ ?_
      exact h
    · replace h := h.2 c
      refine yb_aload rfl rfl ?_
      refine yb_get (v := .ref 123) rfl (by decide) (by decide) (rfl) rfl ?_
      refine yb_iload (x := l3) rfl rfl ?_
      have r8 := h.1
      replace h := h.2
      refine yb_iald (j := l3) rfl xd_A123 (by decide) r8 (v := (d 123 l3)) rfl ?_
      refine yb_push (v := 2) rfl ?_
      have r9 := h.1
      replace h := h.2
      refine yb_icmp_ge (x := (d 123 l3)) (y := (2 : Int)) rfl rfl r9 (by decide) (fun c => ?_) (fun c => ?_)
      · replace h := h.1 c
        refine yb_iinc (x := l3) (n := 1) rfl rfl rfl rfl ?_
        refine yb_goto rfl rfl ?_
        refine yb_forget (dl := [.ref 119, .int (xJ l1), .int (xJ l2), .int (xJ (l3 + 1)), .double 0]) ⟨Or.inl rfl, ⟨Or.inl rfl, ⟨Or.inl rfl, ⟨Or.inl rfl, ⟨Or.inr ⟨rfl, rfl⟩, trivial⟩⟩⟩⟩⟩ ?_
        exact h
      · replace h := h.2 c
        refine yb_aload rfl rfl ?_
        refine yb_get (v := .ref 123) rfl (by decide) (by decide) (rfl) rfl ?_
        refine yb_iload (x := l3) rfl rfl ?_
        refine yb_dup2 rfl rfl rfl ?_
        refine yb_iald (j := l3) rfl xd_A123 (by decide) r8 (v := (d 123 l3)) rfl ?_
        refine yb_push (v := 1) rfl ?_
        refine yb_iadd (x := (d 123 l3)) (y := (1 : Int)) rfl ?_
        refine yb_iast (j := l3) (x := ((d 123 l3) + (1 : Int))) rfl xd_A123 (by decide) r8 ?_
        refine yb_aload rfl rfl ?_
        refine yb_get (v := .ref 122) rfl (by decide) (by decide) (rfl) rfl ?_
        refine yb_iload (x := l1) rfl rfl ?_
        refine yb_iload (x := l3) rfl rfl ?_
        have r10 := h.1
        replace h := h.2
        refine yb_iast (j := l1) (x := l3) rfl xd_A122 (by decide) r10 ?_
        refine yb_aload rfl rfl ?_
        refine yb_iload (x := l1) rfl rfl ?_
        refine yb_push (v := 1) rfl ?_
        refine yb_iadd (x := l1) (y := (1 : Int)) rfl ?_
        refine yb_iload (x := l2) rfl rfl ?_
        refine yb_iload (x := (d 124 ((l1 * (9 : Int)) + l3))) rfl rfl ?_
        refine yb_iadd (x := l2) (y := (d 124 ((l1 * (9 : Int)) + l3))) rfl ?_
        refine yb_callVv (As := [.int (xJ (l1 + (1 : Int))), .int (xJ (l2 + (d 124 ((l1 * (9 : Int)) + l3))))]) (a := 119) rfl rfl rfl rfl rfl rfl rfl rfl (by decide) (by decide) (rfl) (by decide) (yV_mono h (fun d11 e12 h => ?_))
        refine yb_aload rfl rfl ?_
        refine yb_get (v := .ref 123) rfl (by decide) (by decide) (rfl) rfl ?_
        refine yb_iload (x := l3) rfl rfl ?_
        refine yb_dup2 rfl rfl rfl ?_
        refine yb_iald (j := l3) rfl xd_A123 (by decide) r8 (v := (d11 123 l3)) rfl ?_
        refine yb_push (v := 1) rfl ?_
        refine yb_isub (x := (d11 123 l3)) (y := (1 : Int)) rfl ?_
        refine yb_iast (j := l3) (x := ((d11 123 l3) - (1 : Int))) rfl xd_A123 (by decide) r8 ?_
        refine yb_iinc (x := l3) (n := 1) rfl rfl rfl rfl ?_
        refine yb_goto rfl rfl ?_
        refine yb_forget (dl := [.ref 119, .int (xJ l1), .int (xJ l2), .int (xJ (l3 + 1)), .double 0]) ⟨Or.inl rfl, ⟨Or.inl rfl, ⟨Or.inl rfl, ⟨Or.inl rfl, ⟨Or.inr ⟨rfl, rfl⟩, trivial⟩⟩⟩⟩⟩ ?_
        exact h
theorem yk_14_0 {D L : Nat} {P : Int → xh_D → xd_E → Prop} {d : xh_D} {e : xd_E}    (h : yB D xm_c14 (yQi L P) L 4 [.ref 119, .int (xJ (0 : Int)), .int (xJ (0 : Int))] [] d e) : yB D xm_c14 (yQi L P) L 0 [.ref 119, .double 0, .double 0] [] d e := by
  refine yb_push (v := 0) rfl ?_
  refine yb_istore rfl rfl rfl ?_
  refine yb_push (v := 0) rfl ?_
  refine yb_istore rfl rfl rfl ?_
  exact h
theorem yk_14_4 {D L : Nat} {P : Int → xh_D → xd_E → Prop} {d : xh_D} {e : xd_E}  {l1 : Int} {l2 : Int}  (h : ((-2147483648 ≤ l2 ∧ l2 < 2147483648) ∧ ((-2147483648 ≤ (d 119 (6 : Int)) ∧ (d 119 (6 : Int)) < 2147483648) ∧ ((((d 119 (6 : Int)) ≤ l2) → P l1 d e) ∧ ((¬ (d 119 (6 : Int)) ≤ l2) → ((0 ≤ l2 ∧ l2 < 9) ∧ ((-2147483648 ≤ (d 121 l2) ∧ (d 121 l2) < 2147483648) ∧ (((¬ (d 121 l2) = (-1 : Int)) → yB D xm_c14 (yQi L P) L 4 [.ref 119, .int (xJ (xi_or l1 (0 : Int))), .int (xJ (l2 + 1))] [] d e) ∧ (((d 121 l2) = (-1 : Int)) → yB D xm_c14 (yQi L P) L 4 [.ref 119, .int (xJ (xi_or l1 (xi_shl (1 : Int) (d 120 l2)))), .int (xJ (l2 + 1))] [] d e))))))))) : yB D xm_c14 (yQi L P) L 4 [.ref 119, .int (xJ l1), .int (xJ l2)] [] d e := by
  refine yb_iload (x := l2) rfl rfl ?_
  refine yb_aload rfl rfl ?_
  refine yb_get (v := .int (xJ (d 119 (6 : Int)))) rfl (by decide) (by decide) (rfl) rfl ?_
  have r1 := h.1
  replace h := h.2
  have r2 := h.1
  replace h := h.2
  refine yb_icmp_ge (x := l2) (y := (d 119 (6 : Int))) rfl rfl r1 r2 (fun c => ?_) (fun c => ?_)
  · replace h := h.1 c
    refine yb_iload (x := l1) rfl rfl ?_
    exact yb_ret rfl h
  · replace h := h.2 c
    refine yb_iload (x := l1) rfl rfl ?_
    refine yb_aload rfl rfl ?_
    refine yb_get (v := .ref 121) rfl (by decide) (by decide) (rfl) rfl ?_
    refine yb_iload (x := l2) rfl rfl ?_
    have r3 := h.1
    replace h := h.2
    refine yb_iald (j := l2) rfl xd_A121 (by decide) r3 (v := (d 121 l2)) rfl ?_
    refine yb_push (v := (-1)) rfl ?_
    have r4 := h.1
    replace h := h.2
    refine yb_icmp_ne (x := (d 121 l2)) (y := (-1 : Int)) rfl rfl r4 (by decide) (fun c => ?_) (fun c => ?_)
    · replace h := h.1 c
      refine yb_push (v := 0) rfl ?_
      refine yb_ior (x := l1) (y := (0 : Int)) rfl ?_
      refine yb_istore rfl rfl rfl ?_
      refine yb_iinc (x := l2) (n := 1) rfl rfl rfl rfl ?_
      refine yb_goto rfl rfl ?_
      exact h
    · replace h := h.2 c
      refine yb_push (v := 1) rfl ?_
      refine yb_aload rfl rfl ?_
      refine yb_get (v := .ref 120) rfl (by decide) (by decide) (rfl) rfl ?_
      refine yb_iload (x := l2) rfl rfl ?_
      refine yb_iald (j := l2) rfl xd_A120 (by decide) r3 (v := (d 120 l2)) rfl ?_
      refine yb_ishl (x := (1 : Int)) (y := (d 120 l2)) rfl ?_
      refine yb_goto rfl rfl ?_
      refine yb_ior (x := l1) (y := (xi_shl (1 : Int) (d 120 l2))) rfl ?_
      refine yb_istore rfl rfl rfl ?_
      refine yb_iinc (x := l2) (n := 1) rfl rfl rfl rfl ?_
      refine yb_goto rfl rfl ?_
      exact h
theorem yk_15_0 {D L : Nat} {P : Int → xh_D → xd_E → Prop} {d : xh_D} {e : xd_E}    (h : yB D xm_c15 (yQi L P) L 4 [.ref 119, .int (xJ (0 : Int)), .int (xJ (0 : Int))] [] d e) : yB D xm_c15 (yQi L P) L 0 [.ref 119, .double 0, .double 0] [] d e := by
  refine yb_push (v := 0) rfl ?_
  refine yb_istore rfl rfl rfl ?_
  refine yb_push (v := 0) rfl ?_
  refine yb_istore rfl rfl rfl ?_
  exact h
theorem yk_15_4 {D L : Nat} {P : Int → xh_D → xd_E → Prop} {d : xh_D} {e : xd_E}  {l1 : Int} {l2 : Int}  (h : ((-2147483648 ≤ l2 ∧ l2 < 2147483648) ∧ ((-2147483648 ≤ (d 119 (6 : Int)) ∧ (d 119 (6 : Int)) < 2147483648) ∧ ((((d 119 (6 : Int)) ≤ l2) → P l1 d e) ∧ ((¬ (d 119 (6 : Int)) ≤ l2) → yC D 10 L [.ref 119, .int (xJ l2)] d e (fun x3 d4 e5 => ((-2147483648 ≤ x3 ∧ x3 < 2147483648) ∧ (((¬ x3 = (1000 : Int)) → yB D xm_c15 (yQi L P) L 4 [.ref 119, .int (xJ (xi_or l1 (0 : Int))), .int (xJ (l2 + 1))] [] d4 e5) ∧ ((x3 = (1000 : Int)) → ((0 ≤ l2 ∧ l2 < 9) ∧ (∀ v8, v8 = (xi_or l1 (xi_shl (1 : Int) (d4 120 l2))) → yB D xm_c15 (yQi L P) L 4 [.ref 119, .int (xJ v8), .int (xJ (l2 + 1))] [] d4 e5))))))))))) : yB D xm_c15 (yQi L P) L 4 [.ref 119, .int (xJ l1), .int (xJ l2)] [] d e := by
  refine yb_iload (x := l2) rfl rfl ?_
  refine yb_aload rfl rfl ?_
  refine yb_get (v := .int (xJ (d 119 (6 : Int)))) rfl (by decide) (by decide) (rfl) rfl ?_
  have r1 := h.1
  replace h := h.2
  have r2 := h.1
  replace h := h.2
  refine yb_icmp_ge (x := l2) (y := (d 119 (6 : Int))) rfl rfl r1 r2 (fun c => ?_) (fun c => ?_)
  · replace h := h.1 c
    refine yb_iload (x := l1) rfl rfl ?_
    exact yb_ret rfl h
  · replace h := h.2 c
    refine yb_iload (x := l1) rfl rfl ?_
    refine yb_aload rfl rfl ?_
    refine yb_iload (x := l2) rfl rfl ?_
    refine yb_callVi (As := [.int (xJ l2)]) (a := 119) rfl rfl rfl rfl rfl rfl rfl rfl (by decide) (by decide) (rfl) (by show (1 : Nat) ≤ 8; decide) (yC_mono h (fun x3 d4 e5 h => ?_))
    refine yb_push (v := 1000) rfl ?_
    have r6 := h.1
    replace h := h.2
    refine yb_icmp_ne (x := x3) (y := (1000 : Int)) rfl rfl r6 (by decide) (fun c => ?_) (fun c => ?_)
    · replace h := h.1 c
      refine yb_push (v := 0) rfl ?_
      refine yb_ior (x := l1) (y := (0 : Int)) rfl ?_
      refine yb_istore rfl rfl rfl ?_
      refine yb_iinc (x := l2) (n := 1) rfl rfl rfl rfl ?_
      refine yb_goto rfl rfl ?_
      exact h
    · replace h := h.2 c
      refine yb_push (v := 1) rfl ?_
      refine yb_aload rfl rfl ?_
      refine yb_get (v := .ref 120) rfl (by decide) (by decide) (rfl) rfl ?_
      refine yb_iload (x := l2) rfl rfl ?_
      have r7 := h.1
      replace h := h.2
      refine yb_iald (j := l2) rfl xd_A120 (by decide) r7 (v := (d4 120 l2)) rfl ?_
      refine yb_ishl (x := (1 : Int)) (y := (d4 120 l2)) rfl ?_
      refine yb_goto rfl rfl ?_
      refine yb_ior (x := l1) (y := (xi_shl (1 : Int) (d4 120 l2))) rfl ?_
      replace h := h _ rfl
      refine yb_istore rfl rfl rfl ?_
      refine yb_iinc (x := l2) (n := 1) rfl rfl rfl rfl ?_
      refine yb_goto rfl rfl ?_
      exact h
theorem yk_17_11_0 {D L : Nat} {P : xh_D → xd_E → Prop} {d : xh_D} {e : xd_E}    (hD : 1 ≤ D) (h : ((0 ≤ (d 23 (3 : Int)) ∧ (d 23 (3 : Int)) < 12) ∧ yV D 50 L [.ref (27 + 6 * (d 23 (3 : Int)).toNat), .ref 11] d e (fun d2 e3 => ((0 ≤ ((d2 23 (3 : Int)) + (1 : Int)) ∧ ((d2 23 (3 : Int)) + (1 : Int)) < 2147483648) ∧ ((-2147483648 ≤ ((d2 23 (4 : Int)) + (1 : Int)) ∧ ((d2 23 (4 : Int)) + (1 : Int)) < 2147483648) ∧ P (xs (xs d2 23 (3 : Int) (((d2 23 (3 : Int)) + (1 : Int)) % (12 : Int))) 23 (4 : Int) (min ((d2 23 (4 : Int)) + (1 : Int)) (12 : Int))) e3))))) : yB D xm_c17 (yQv L P) L 0 [.ref 23, .ref 11] [] d e := by
  refine yb_aload rfl rfl ?_
  refine yb_get (v := .ref 24) rfl (by decide) (by decide) (rfl) rfl ?_
  refine yb_aload rfl rfl ?_
  refine yb_get (v := .int (xJ (d 23 (3 : Int)))) rfl (by decide) (by decide) (rfl) rfl ?_
  have r1 := h.1
  replace h := h.2
  refine yb_aald (j := (d 23 (3 : Int))) (v := .ref (27 + 6 * (d 23 (3 : Int)).toNat)) rfl (by decide) (by decide) rfl (by decide) r1 (xp_Sn r1) ?_
  refine yb_aload rfl rfl ?_
  refine yb_callVv (As := [.ref 11]) (a := (27 + 6 * (d 23 (3 : Int)).toNat)) rfl rfl rfl rfl rfl rfl rfl rfl (xd_Sp (xp_S27 r1)).1 (xd_Sp (xp_S27 r1)).2 ((xd_S (xp_S27 r1) L _ _).1) (by decide) (yV_mono h (fun d2 e3 h => ?_))
  refine yb_aload rfl rfl ?_
  refine yb_aload rfl rfl ?_
  refine yb_get (v := .int (xJ (d2 23 (3 : Int)))) rfl (by decide) (by decide) (rfl) rfl ?_
  refine yb_push (v := 1) rfl ?_
  refine yb_iadd (x := (d2 23 (3 : Int))) (y := (1 : Int)) rfl ?_
  refine yb_push (v := 12) rfl ?_
  have r4 := h.1
  replace h := h.2
  refine yb_irem (x := ((d2 23 (3 : Int)) + (1 : Int))) (y := (12 : Int)) rfl r4 (by decide) ?_
  refine yb_put (z := (((d2 23 (3 : Int)) + (1 : Int)) % (12 : Int))) (k := 3) rfl rfl (by decide) (by decide) (rfl) (Nat.le_of_ble_eq_true rfl) rfl (rfl) ?_
  refine yb_aload rfl rfl ?_
  refine yb_aload rfl rfl ?_
  refine yb_get (v := .int (xJ (d2 23 (4 : Int)))) rfl (by decide) (by decide) (rfl) rfl ?_
  refine yb_push (v := 1) rfl ?_
  refine yb_iadd (x := (d2 23 (4 : Int))) (y := (1 : Int)) rfl ?_
  refine yb_push (v := 12) rfl ?_
  have r5 := h.1
  replace h := h.2
  refine yb_callSi (As := [.int (xJ ((d2 23 (4 : Int)) + (1 : Int))), .int (xJ (12 : Int))]) rfl rfl rfl rfl rfl rfl rfl rfl (by show (1 : Nat) ≤ 8; decide) (sp_5 (by omega) ⟨r5, (by show (-2147483648 ≤ (12 : Int) ∧ (12 : Int) < 2147483648); decide)⟩ ?_)
  show yB D xm_c17 _ L 22 [.ref 23, .ref 11] [.int (xJ (min ((d2 23 (4 : Int)) + (1 : Int)) (12 : Int))), .ref 23] (xs d2 23 (3 : Int) (((d2 23 (3 : Int)) + (1 : Int)) % (12 : Int))) e3
  refine yb_put (z := (min ((d2 23 (4 : Int)) + (1 : Int)) (12 : Int))) (k := 4) rfl rfl (by decide) (by decide) (rfl) (Nat.le_of_ble_eq_true rfl) rfl (rfl) ?_
  exact yb_retv rfl h
theorem yk_18_11_0 {D L : Nat} {P1 P0 : xh_D → xd_E → Prop} {d : xh_D} {e : xd_E}    (h : ((-2147483648 ≤ (d 23 (4 : Int)) ∧ (d 23 (4 : Int)) < 2147483648) ∧ (((¬ (d 23 (4 : Int)) = 0) → ((0 ≤ (((d 23 (3 : Int)) + (12 : Int)) - (1 : Int)) ∧ (((d 23 (3 : Int)) + (12 : Int)) - (1 : Int)) < 2147483648) ∧ ((0 ≤ ((((d 23 (3 : Int)) + (12 : Int)) - (1 : Int)) % (12 : Int)) ∧ ((((d 23 (3 : Int)) + (12 : Int)) - (1 : Int)) % (12 : Int)) < 12) ∧ yV D 50 L [.ref 11, .ref (27 + 6 * ((((d 23 (3 : Int)) + (12 : Int)) - (1 : Int)) % (12 : Int)).toNat)] (xs (xs d 23 (4 : Int) ((d 23 (4 : Int)) - (1 : Int))) 23 (3 : Int) ((((d 23 (3 : Int)) + (12 : Int)) - (1 : Int)) % (12 : Int))) e (fun d4 e5 => P1 d4 e5)))) ∧ (((d 23 (4 : Int)) = 0) → P0 d e)))) : yB D xm_c18 (yQz L P1 P0) L 0 [.ref 23, .ref 11] [] d e := by
  refine yb_aload rfl rfl ?_
  refine yb_get (v := .int (xJ (d 23 (4 : Int)))) rfl (by decide) (by decide) (rfl) rfl ?_
  have r1 := h.1
  replace h := h.2
  refine yb_if_ne (x := (d 23 (4 : Int))) rfl rfl r1 (fun c => ?_) (fun c => ?_)
  · replace h := h.1 c
    refine yb_aload rfl rfl ?_
    refine yb_dup rfl rfl ?_
    refine yb_get (v := .int (xJ (d 23 (4 : Int)))) rfl (by decide) (by decide) (rfl) rfl ?_
    refine yb_push (v := 1) rfl ?_
    refine yb_isub (x := (d 23 (4 : Int))) (y := (1 : Int)) rfl ?_
    refine yb_put (z := ((d 23 (4 : Int)) - (1 : Int))) (k := 4) rfl rfl (by decide) (by decide) (rfl) (Nat.le_of_ble_eq_true rfl) rfl (rfl) ?_
    refine yb_aload rfl rfl ?_
    refine yb_aload rfl rfl ?_
    refine yb_get (v := .int (xJ (d 23 (3 : Int)))) rfl (by decide) (by decide) (rfl) rfl ?_
    refine yb_push (v := 12) rfl ?_
    refine yb_iadd (x := (d 23 (3 : Int))) (y := (12 : Int)) rfl ?_
    refine yb_push (v := 1) rfl ?_
    refine yb_isub (x := ((d 23 (3 : Int)) + (12 : Int))) (y := (1 : Int)) rfl ?_
    refine yb_push (v := 12) rfl ?_
    have r2 := h.1
    replace h := h.2
    refine yb_irem (x := (((d 23 (3 : Int)) + (12 : Int)) - (1 : Int))) (y := (12 : Int)) rfl r2 (by decide) ?_
    refine yb_put (z := ((((d 23 (3 : Int)) + (12 : Int)) - (1 : Int)) % (12 : Int))) (k := 3) rfl rfl (by decide) (by decide) (rfl) (Nat.le_of_ble_eq_true rfl) rfl (rfl) ?_
    refine yb_aload rfl rfl ?_
    refine yb_aload rfl rfl ?_
    refine yb_get (v := .ref 24) rfl (by decide) (by decide) (rfl) rfl ?_
    refine yb_aload rfl rfl ?_
    refine yb_get (v := .int (xJ ((((d 23 (3 : Int)) + (12 : Int)) - (1 : Int)) % (12 : Int)))) rfl (by decide) (by decide) (rfl) rfl ?_
    have r3 := h.1
    replace h := h.2
    refine yb_aald (j := ((((d 23 (3 : Int)) + (12 : Int)) - (1 : Int)) % (12 : Int))) (v := .ref (27 + 6 * ((((d 23 (3 : Int)) + (12 : Int)) - (1 : Int)) % (12 : Int)).toNat)) rfl (by decide) (by decide) rfl (by decide) r3 (xp_Sn r3) ?_
    refine yb_callVv (As := [.ref (27 + 6 * ((((d 23 (3 : Int)) + (12 : Int)) - (1 : Int)) % (12 : Int)).toNat)]) (a := 11) rfl rfl rfl rfl rfl rfl rfl rfl (by decide) (by decide) (rfl) (by decide) (yV_mono h (fun d4 e5 h => ?_))
    refine yb_push (v := 1) rfl ?_
    exact yb_ret1 rfl h
  · replace h := h.2 c
    refine yb_push (v := 0) rfl ?_
    exact yb_ret0 rfl h
theorem yk_24_12_0 {D L : Nat} {P : Int → xh_D → xd_E → Prop} {d : xh_D} {e : xd_E}    (h : yB D xm_c24 (yQi L P) L 2 [.ref 6, .ref 12, .int (xJ (2 : Int)), .double 0] [] d e) : yB D xm_c24 (yQi L P) L 0 [.ref 6, .ref 12, .double 0, .double 0] [] d e := by
  refine yb_push (v := 2) rfl ?_
  refine yb_istore rfl rfl rfl ?_
  exact h
theorem yk_24_12_2 {D L : Nat} {P : Int → xh_D → xd_E → Prop} {d : xh_D} {e : xd_E}  {l2 : Int}  (h : ((-2147483648 ≤ l2 ∧ l2 < 2147483648) ∧ ((((4 : Int) < l2) → P (0 : Int) d e) ∧ ((¬ (4 : Int) < l2) → yB D xm_c24 (yQi L P) L 7 [.ref 6, .ref 12, .int (xJ l2), .int (xJ (0 : Int))] [] d e)))) : yB D xm_c24 (yQi L P) L 2 [.ref 6, .ref 12, .int (xJ l2), .double 0] [] d e := by
  refine yb_iload (x := l2) rfl rfl ?_
  refine yb_push (v := 4) rfl ?_
  have r1 := h.1
  replace h := h.2
  refine yb_icmp_gt (x := l2) (y := (4 : Int)) rfl rfl r1 (by decide) (fun c => ?_) (fun c => ?_)
  · replace h := h.1 c
    refine yb_push (v := 0) rfl ?_
    exact yb_ret rfl h
  · replace h := h.2 c
    refine yb_push (v := 0) rfl ?_
    refine yb_istore rfl rfl rfl ?_
    exact h
theorem yk_24_12_7 {D L : Nat} {P : Int → xh_D → xd_E → Prop} {d : xh_D} {e : xd_E}  {l2 : Int} {l3 : Int}  (h : ((-2147483648 ≤ l3 ∧ l3 < 2147483648) ∧ ((-2147483648 ≤ (d 6 (4 : Int)) ∧ (d 6 (4 : Int)) < 2147483648) ∧ ((((d 6 (4 : Int)) ≤ l3) → yB D xm_c24 (yQi L P) L 2 [.ref 6, .ref 12, .int (xJ (l2 + 1)), .double 0] [] d e) ∧ ((¬ (d 6 (4 : Int)) ≤ l3) → yZ D 25 L [.ref 6, .ref 12, .int (xJ (1 : Int)), .int (xJ l2)] (xs d 9 (0 : Int) l3) e (fun d3 e4 => P l2 d3 e4) (fun d3 e4 => yB D xm_c24 (yQi L P) L 7 [.ref 6, .ref 12, .int (xJ l2), .int (xJ (l3 + 1))] [] d3 e4)))))) : yB D xm_c24 (yQi L P) L 7 [.ref 6, .ref 12, .int (xJ l2), .int (xJ l3)] [] d e := by
  refine yb_iload (x := l3) rfl rfl ?_
  refine yb_aload rfl rfl ?_
  refine yb_get (v := .int (xJ (d 6 (4 : Int)))) rfl (by decide) (by decide) (rfl) rfl ?_
  have r1 := h.1
  replace h := h.2
  have r2 := h.1
  replace h := h.2
  refine yb_icmp_ge (x := l3) (y := (d 6 (4 : Int))) rfl rfl r1 r2 (fun c => ?_) (fun c => ?_)
  · replace h := h.1 c
    refine yb_iinc (x := l2) (n := 1) rfl rfl rfl rfl ?_
    refine yb_goto rfl rfl ?_
    refine yb_forget (dl := [.ref 6, .ref 12, .int (xJ (l2 + 1)), .double 0]) ⟨Or.inl rfl, ⟨Or.inl rfl, ⟨Or.inl rfl, ⟨Or.inr ⟨rfl, rfl⟩, trivial⟩⟩⟩⟩ ?_
    exact h
  · replace h := h.2 c
    refine yb_aload rfl rfl ?_
    refine yb_get (v := .ref 9) rfl (by decide) (by decide) (rfl) rfl ?_
    refine yb_push (v := 0) rfl ?_
    refine yb_iload (x := l3) rfl rfl ?_
    refine yb_iast (j := (0 : Int)) (x := l3) rfl xd_A9 (by decide) (by decide) ?_
    refine yb_aload rfl rfl ?_
    refine yb_aload rfl rfl ?_
    refine yb_push (v := 1) rfl ?_
    refine yb_iload (x := l2) rfl rfl ?_
    refine yb_callVz (As := [.ref 12, .int (xJ (1 : Int)), .int (xJ l2)]) (a := 6) rfl rfl rfl rfl rfl rfl rfl rfl (by decide) (by decide) (rfl) (by decide) (yZ_mono h (fun d3 e4 h => ?_) (fun d3 e4 h => ?_))
    · refine yb_if_eq (x := (1 : Int)) rfl rfl (by decide) (fun c => absurd c (by decide)) (fun _ => ?_)
      refine yb_iload (x := l2) rfl rfl ?_
      exact yb_ret rfl h
    · refine yb_if_eq (x := (0 : Int)) rfl rfl (by decide) (fun _ => ?_) (fun c => absurd (by decide) c)
      refine yb_iinc (x := l3) (n := 1) rfl rfl rfl rfl ?_
      refine yb_goto rfl rfl ?_
      exact h
theorem yk_24_18_0 {D L : Nat} {P : Int → xh_D → xd_E → Prop} {d : xh_D} {e : xd_E}    (h : yB D xm_c24 (yQi L P) L 2 [.ref 6, .ref 18, .int (xJ (2 : Int)), .double 0] [] d e) : yB D xm_c24 (yQi L P) L 0 [.ref 6, .ref 18, .double 0, .double 0] [] d e := by
  refine yb_push (v := 2) rfl ?_
  refine yb_istore rfl rfl rfl ?_
  exact h
theorem yk_24_18_2 {D L : Nat} {P : Int → xh_D → xd_E → Prop} {d : xh_D} {e : xd_E}  {l2 : Int}  (h : ((-2147483648 ≤ l2 ∧ l2 < 2147483648) ∧ ((((4 : Int) < l2) → P (0 : Int) d e) ∧ ((¬ (4 : Int) < l2) → yB D xm_c24 (yQi L P) L 7 [.ref 6, .ref 18, .int (xJ l2), .int (xJ (0 : Int))] [] d e)))) : yB D xm_c24 (yQi L P) L 2 [.ref 6, .ref 18, .int (xJ l2), .double 0] [] d e := by
  refine yb_iload (x := l2) rfl rfl ?_
  refine yb_push (v := 4) rfl ?_
  have r1 := h.1
  replace h := h.2
  refine yb_icmp_gt (x := l2) (y := (4 : Int)) rfl rfl r1 (by decide) (fun c => ?_) (fun c => ?_)
  · replace h := h.1 c
    refine yb_push (v := 0) rfl ?_
    exact yb_ret rfl h
  · replace h := h.2 c
    refine yb_push (v := 0) rfl ?_
    refine yb_istore rfl rfl rfl ?_
    exact h
theorem yk_24_18_7 {D L : Nat} {P : Int → xh_D → xd_E → Prop} {d : xh_D} {e : xd_E}  {l2 : Int} {l3 : Int}  (h : ((-2147483648 ≤ l3 ∧ l3 < 2147483648) ∧ ((-2147483648 ≤ (d 6 (4 : Int)) ∧ (d 6 (4 : Int)) < 2147483648) ∧ ((((d 6 (4 : Int)) ≤ l3) → yB D xm_c24 (yQi L P) L 2 [.ref 6, .ref 18, .int (xJ (l2 + 1)), .double 0] [] d e) ∧ ((¬ (d 6 (4 : Int)) ≤ l3) → yZ D 25 L [.ref 6, .ref 18, .int (xJ (1 : Int)), .int (xJ l2)] (xs d 9 (0 : Int) l3) e (fun d3 e4 => P l2 d3 e4) (fun d3 e4 => yB D xm_c24 (yQi L P) L 7 [.ref 6, .ref 18, .int (xJ l2), .int (xJ (l3 + 1))] [] d3 e4)))))) : yB D xm_c24 (yQi L P) L 7 [.ref 6, .ref 18, .int (xJ l2), .int (xJ l3)] [] d e := by
  refine yb_iload (x := l3) rfl rfl ?_
  refine yb_aload rfl rfl ?_
  refine yb_get (v := .int (xJ (d 6 (4 : Int)))) rfl (by decide) (by decide) (rfl) rfl ?_
  have r1 := h.1
  replace h := h.2
  have r2 := h.1
  replace h := h.2
  refine yb_icmp_ge (x := l3) (y := (d 6 (4 : Int))) rfl rfl r1 r2 (fun c => ?_) (fun c => ?_)
  · replace h := h.1 c
    refine yb_iinc (x := l2) (n := 1) rfl rfl rfl rfl ?_
    refine yb_goto rfl rfl ?_
    refine yb_forget (dl := [.ref 6, .ref 18, .int (xJ (l2 + 1)), .double 0]) ⟨Or.inl rfl, ⟨Or.inl rfl, ⟨Or.inl rfl, ⟨Or.inr ⟨rfl, rfl⟩, trivial⟩⟩⟩⟩ ?_
    exact h
  · replace h := h.2 c
    refine yb_aload rfl rfl ?_
    refine yb_get (v := .ref 9) rfl (by decide) (by decide) (rfl) rfl ?_
    refine yb_push (v := 0) rfl ?_
    refine yb_iload (x := l3) rfl rfl ?_
    refine yb_iast (j := (0 : Int)) (x := l3) rfl xd_A9 (by decide) (by decide) ?_
    refine yb_aload rfl rfl ?_
    refine yb_aload rfl rfl ?_
    refine yb_push (v := 1) rfl ?_
    refine yb_iload (x := l2) rfl rfl ?_
    refine yb_callVz (As := [.ref 18, .int (xJ (1 : Int)), .int (xJ l2)]) (a := 6) rfl rfl rfl rfl rfl rfl rfl rfl (by decide) (by decide) (rfl) (by decide) (yZ_mono h (fun d3 e4 h => ?_) (fun d3 e4 h => ?_))
    · refine yb_if_eq (x := (1 : Int)) rfl rfl (by decide) (fun c => absurd c (by decide)) (fun _ => ?_)
      refine yb_iload (x := l2) rfl rfl ?_
      exact yb_ret rfl h
    · refine yb_if_eq (x := (0 : Int)) rfl rfl (by decide) (fun _ => ?_) (fun c => absurd (by decide) c)
      refine yb_iinc (x := l3) (n := 1) rfl rfl rfl rfl ?_
      refine yb_goto rfl rfl ?_
      exact h
theorem yk_25_12_0 {D L : Nat} {P1 P0 : xh_D → xd_E → Prop} {d : xh_D} {e : xd_E} {a2 : Int} {a3 : Int}   (hD : 1 ≤ D) (h : ((-2147483648 ≤ a2 ∧ a2 < 2147483648) ∧ ((-2147483648 ≤ a3 ∧ a3 < 2147483648) ∧ (((a2 < a3) → yB D xm_c25 (yQz L P1 P0) L 24 [.ref 6, .ref 12, .int (xJ a2), .int (xJ a3), .int (xJ ((d 9 (0 : Int)) + (1 : Int)))] [] d e) ∧ ((¬ a2 < a3) → ((0 ≤ (a3 - (1 : Int)) ∧ (a3 - (1 : Int)) < 4) ∧ ((0 ≤ (d 9 (a3 - (1 : Int))) ∧ (d 9 (a3 - (1 : Int))) < 9) ∧ ((0 ≤ (d 9 (0 : Int)) ∧ (d 9 (0 : Int)) < 9) ∧ ((0 ≤ (d 12 (d 9 (a3 - (1 : Int)))) ∧ (d 12 (d 9 (a3 - (1 : Int)))) < 9) ∧ ((0 ≤ (d 12 (d 9 (0 : Int))) ∧ (d 12 (d 9 (0 : Int))) < 9) ∧ ((-2147483648 ≤ (d 8 ((d 9 (a3 - (1 : Int))) * 9 + (d 12 (d 9 (a3 - (1 : Int)))))) ∧ (d 8 ((d 9 (a3 - (1 : Int))) * 9 + (d 12 (d 9 (a3 - (1 : Int)))))) < 2147483648) ∧ ((-2147483648 ≤ (d 8 ((d 9 (a3 - (1 : Int))) * 9 + (d 12 (d 9 (0 : Int))))) ∧ (d 8 ((d 9 (a3 - (1 : Int))) * 9 + (d 12 (d 9 (0 : Int))))) < 2147483648) ∧ ((((d 8 ((d 9 (a3 - (1 : Int))) * 9 + (d 12 (d 9 (a3 - (1 : Int)))))) < (d 8 ((d 9 (a3 - (1 : Int))) * 9 + (d 12 (d 9 (0 : Int)))))) → P1 d e) ∧ (¬ ((d 8 ((d 9 (a3 - (1 : Int))) * 9 + (d 12 (d 9 (a3 - (1 : Int)))))) < (d 8 ((d 9 (a3 - (1 : Int))) * 9 + (d 12 (d 9 (0 : Int)))))) → P0 d e)))))))))))))) : yB D xm_c25 (yQz L P1 P0) L 0 [.ref 6, .ref 12, .int (xJ a2), .int (xJ a3), .double 0] [] d e := by
  refine yb_iload (x := a2) rfl rfl ?_
  refine yb_iload (x := a3) rfl rfl ?_
  have r1 := h.1
  replace h := h.2
  have r2 := h.1
  replace h := h.2
  refine yb_icmp_lt (x := a2) (y := a3) rfl rfl r1 r2 (fun c => ?_) (fun c => ?_)
  · replace h := h.1 c
    refine yb_aload rfl rfl ?_
    refine yb_get (v := .ref 9) rfl (by decide) (by decide) (rfl) rfl ?_
    refine yb_push (v := 0) rfl ?_
    refine yb_iald (j := (0 : Int)) rfl xd_A9 (by decide) (by decide) (v := (d 9 (0 : Int))) rfl ?_
    refine yb_push (v := 1) rfl ?_
    refine yb_iadd (x := (d 9 (0 : Int))) (y := (1 : Int)) rfl ?_
    refine yb_istore rfl rfl rfl ?_
    exact h
  · replace h := h.2 c
    refine yb_aload rfl rfl ?_
    refine yb_aload rfl rfl ?_
    refine yb_aload rfl rfl ?_
    refine yb_get (v := .ref 9) rfl (by decide) (by decide) (rfl) rfl ?_
    refine yb_iload (x := a3) rfl rfl ?_
    refine yb_push (v := 1) rfl ?_
    refine yb_isub (x := a3) (y := (1 : Int)) rfl ?_
    have r3 := h.1
    replace h := h.2
    refine yb_iald (j := (a3 - (1 : Int))) rfl xd_A9 (by decide) r3 (v := (d 9 (a3 - (1 : Int)))) rfl ?_
    refine yb_aload rfl rfl ?_
    refine yb_get (v := .ref 9) rfl (by decide) (by decide) (rfl) rfl ?_
    refine yb_push (v := 0) rfl ?_
    refine yb_iald (j := (0 : Int)) rfl xd_A9 (by decide) (by decide) (v := (d 9 (0 : Int))) rfl ?_
    have r4 := h.1
    replace h := h.2
    have r5 := h.1
    replace h := h.2
    have r6 := h.1
    replace h := h.2
    have r7 := h.1
    replace h := h.2
    have r8 := h.1
    replace h := h.2
    have r9 := h.1
    replace h := h.2
    refine yb_callVz (As := [.ref 12, .int (xJ (d 9 (a3 - (1 : Int)))), .int (xJ (d 9 (0 : Int)))]) (a := 6) rfl rfl rfl rfl rfl rfl rfl rfl (by decide) (by decide) (rfl) (by decide) (sp_27_12 (by omega) ⟨r4, r5, r6, r7, r8, r9⟩ (fun c => ?_) (fun c => ?_))
    · replace h := h.1 c
      show yB D xm_c25 _ L 16 [.ref 6, .ref 12, .int (xJ a2), .int (xJ a3), .double 0] [.int (xJ (1 : Int))] d e
      exact yb_ret1 rfl h
    · replace h := h.2 c
      show yB D xm_c25 _ L 16 [.ref 6, .ref 12, .int (xJ a2), .int (xJ a3), .double 0] [.int (xJ (0 : Int))] d e
      exact yb_ret0 rfl h
theorem yk_25_12_24 {D L : Nat} {P1 P0 : xh_D → xd_E → Prop} {d : xh_D} {e : xd_E}  {l2 : Int} {l3 : Int} {l4 : Int}  (hD : 1 ≤ D) (h : ((-2147483648 ≤ l4 ∧ l4 < 2147483648) ∧ ((-2147483648 ≤ (d 6 (4 : Int)) ∧ (d 6 (4 : Int)) < 2147483648) ∧ ((((d 6 (4 : Int)) ≤ l4) → P0 d e) ∧ ((¬ (d 6 (4 : Int)) ≤ l4) → yZ D 26 L [.ref 6, .int (xJ l4), .int (xJ l2)] d e (fun d3 e4 => yB D xm_c25 (yQz L P1 P0) L 24 [.ref 6, .ref 12, .int (xJ l2), .int (xJ l3), .int (xJ (l4 + 1))] [] d3 e4) (fun d3 e4 => ((0 ≤ (l2 - (1 : Int)) ∧ (l2 - (1 : Int)) < 4) ∧ ((0 ≤ (d3 9 (l2 - (1 : Int))) ∧ (d3 9 (l2 - (1 : Int))) < 9) ∧ ((0 ≤ l4 ∧ l4 < 9) ∧ ((0 ≤ (d3 12 (d3 9 (l2 - (1 : Int)))) ∧ (d3 12 (d3 9 (l2 - (1 : Int)))) < 9) ∧ ((0 ≤ (d3 12 l4) ∧ (d3 12 l4) < 9) ∧ ((-2147483648 ≤ (d3 8 ((d3 9 (l2 - (1 : Int))) * 9 + (d3 12 (d3 9 (l2 - (1 : Int)))))) ∧ (d3 8 ((d3 9 (l2 - (1 : Int))) * 9 + (d3 12 (d3 9 (l2 - (1 : Int)))))) < 2147483648) ∧ ((-2147483648 ≤ (d3 8 ((d3 9 (l2 - (1 : Int))) * 9 + (d3 12 l4))) ∧ (d3 8 ((d3 9 (l2 - (1 : Int))) * 9 + (d3 12 l4))) < 2147483648) ∧ ((((d3 8 ((d3 9 (l2 - (1 : Int))) * 9 + (d3 12 (d3 9 (l2 - (1 : Int)))))) < (d3 8 ((d3 9 (l2 - (1 : Int))) * 9 + (d3 12 l4)))) → ((0 ≤ l2 ∧ l2 < 4) ∧ yZ D 25 L [.ref 6, .ref 12, .int (xJ (l2 + (1 : Int))), .int (xJ l3)] (xs d3 9 l2 l4) e4 (fun d13 e14 => P1 d13 e14) (fun d13 e14 => yB D xm_c25 (yQz L P1 P0) L 24 [.ref 6, .ref 12, .int (xJ l2), .int (xJ l3), .int (xJ (l4 + 1))] [] d13 e14))) ∧ (¬ ((d3 8 ((d3 9 (l2 - (1 : Int))) * 9 + (d3 12 (d3 9 (l2 - (1 : Int)))))) < (d3 8 ((d3 9 (l2 - (1 : Int))) * 9 + (d3 12 l4)))) → yB D xm_c25 (yQz L P1 P0) L 24 [.ref 6, .ref 12, .int (xJ l2), .int (xJ l3), .int (xJ (l4 + 1))] [] d3 e4))))))))))))))) : yB D xm_c25 (yQz L P1 P0) L 24 [.ref 6, .ref 12, .int (xJ l2), .int (xJ l3), .int (xJ l4)] [] d e := by
  refine yb_iload (x := l4) rfl rfl ?_
  refine yb_aload rfl rfl ?_
  refine yb_get (v := .int (xJ (d 6 (4 : Int)))) rfl (by decide) (by decide) (rfl) rfl ?_
  have r1 := h.1
  replace h := h.2
  have r2 := h.1
  replace h := h.2
  refine yb_icmp_ge (x := l4) (y := (d 6 (4 : Int))) rfl rfl r1 r2 (fun c => ?_) (fun c => ?_)
  · replace h := h.1 c
    refine yb_push (v := 0) rfl ?_
    exact yb_ret0 rfl h
  · replace h := h.2 c
    refine yb_aload rfl rfl ?_
    refine yb_iload (x := l4) rfl rfl ?_
    refine yb_iload (x := l2) rfl rfl ?_
    refine yb_callVz (As := [.int (xJ l4), .int (xJ l2)]) (a := 6) rfl rfl rfl rfl rfl rfl rfl rfl (by decide) (by decide) (rfl) (by decide) (yZ_mono h (fun d3 e4 h => ?_) (fun d3 e4 h => ?_))
    · refine yb_if_ne (x := (1 : Int)) rfl rfl (by decide) (fun _ => ?_) (fun c => absurd c (by decide))
      refine yb_iinc (x := l4) (n := 1) rfl rfl rfl rfl ?_
      refine yb_goto rfl rfl ?_
      exact h
    · refine yb_if_ne (x := (0 : Int)) rfl rfl (by decide) (fun c => absurd (by decide) c) (fun _ => ?_)
      refine yb_aload rfl rfl ?_
      refine yb_aload rfl rfl ?_
      refine yb_aload rfl rfl ?_
      refine yb_get (v := .ref 9) rfl (by decide) (by decide) (rfl) rfl ?_
      refine yb_iload (x := l2) rfl rfl ?_
      refine yb_push (v := 1) rfl ?_
      refine yb_isub (x := l2) (y := (1 : Int)) rfl ?_
      have r5 := h.1
      replace h := h.2
      refine yb_iald (j := (l2 - (1 : Int))) rfl xd_A9 (by decide) r5 (v := (d3 9 (l2 - (1 : Int)))) rfl ?_
      refine yb_iload (x := l4) rfl rfl ?_
      have r6 := h.1
      replace h := h.2
      have r7 := h.1
      replace h := h.2
      have r8 := h.1
      replace h := h.2
      have r9 := h.1
      replace h := h.2
      have r10 := h.1
      replace h := h.2
      have r11 := h.1
      replace h := h.2
      refine yb_callVz (As := [.ref 12, .int (xJ (d3 9 (l2 - (1 : Int)))), .int (xJ l4)]) (a := 6) rfl rfl rfl rfl rfl rfl rfl rfl (by decide) (by decide) (rfl) (by decide) (sp_27_12 (by omega) ⟨r6, r7, r8, r9, r10, r11⟩ (fun c => ?_) (fun c => ?_))
      · replace h := h.1 c
        show yB D xm_c25 _ L 43 [.ref 6, .ref 12, .int (xJ l2), .int (xJ l3), .int (xJ l4)] [.int (xJ (1 : Int))] d3 e4
        refine yb_if_eq (x := (1 : Int)) rfl rfl (by decide) (fun c => absurd c (by decide)) (fun _ => ?_)
        refine yb_aload rfl rfl ?_
        refine yb_get (v := .ref 9) rfl (by decide) (by decide) (rfl) rfl ?_
        refine yb_iload (x := l2) rfl rfl ?_
        refine yb_iload (x := l4) rfl rfl ?_
        have r12 := h.1
        replace h := h.2
        refine yb_iast (j := l2) (x := l4) rfl xd_A9 (by decide) r12 ?_
        refine yb_aload rfl rfl ?_
        refine yb_aload rfl rfl ?_
        refine yb_iload (x := l2) rfl rfl ?_
        refine yb_push (v := 1) rfl ?_
        refine yb_iadd (x := l2) (y := (1 : Int)) rfl ?_
        refine yb_iload (x := l3) rfl rfl ?_
        refine yb_callVz (As := [.ref 12, .int (xJ (l2 + (1 : Int))), .int (xJ l3)]) (a := 6) rfl rfl rfl rfl rfl rfl rfl rfl (by decide) (by decide) (rfl) (by decide) (yZ_mono h (fun d13 e14 h => ?_) (fun d13 e14 h => ?_))
        · refine yb_if_eq (x := (1 : Int)) rfl rfl (by decide) (fun c => absurd c (by decide)) (fun _ => ?_)
          refine yb_push (v := 1) rfl ?_
          exact yb_ret1 rfl h
        · refine yb_if_eq (x := (0 : Int)) rfl rfl (by decide) (fun _ => ?_) (fun c => absurd (by decide) c)
          refine yb_iinc (x := l4) (n := 1) rfl rfl rfl rfl ?_
          refine yb_goto rfl rfl ?_
          exact h
      · replace h := h.2 c
        show yB D xm_c25 _ L 43 [.ref 6, .ref 12, .int (xJ l2), .int (xJ l3), .int (xJ l4)] [.int (xJ (0 : Int))] d3 e4
        refine yb_if_eq (x := (0 : Int)) rfl rfl (by decide) (fun _ => ?_) (fun c => absurd (by decide) c)
        refine yb_iinc (x := l4) (n := 1) rfl rfl rfl rfl ?_
        refine yb_goto rfl rfl ?_
        exact h
theorem yk_25_18_0 {D L : Nat} {P1 P0 : xh_D → xd_E → Prop} {d : xh_D} {e : xd_E} {a2 : Int} {a3 : Int}   (hD : 1 ≤ D) (h : ((-2147483648 ≤ a2 ∧ a2 < 2147483648) ∧ ((-2147483648 ≤ a3 ∧ a3 < 2147483648) ∧ (((a2 < a3) → yB D xm_c25 (yQz L P1 P0) L 24 [.ref 6, .ref 18, .int (xJ a2), .int (xJ a3), .int (xJ ((d 9 (0 : Int)) + (1 : Int)))] [] d e) ∧ ((¬ a2 < a3) → ((0 ≤ (a3 - (1 : Int)) ∧ (a3 - (1 : Int)) < 4) ∧ ((0 ≤ (d 9 (a3 - (1 : Int))) ∧ (d 9 (a3 - (1 : Int))) < 9) ∧ ((0 ≤ (d 9 (0 : Int)) ∧ (d 9 (0 : Int)) < 9) ∧ ((0 ≤ (d 18 (d 9 (a3 - (1 : Int)))) ∧ (d 18 (d 9 (a3 - (1 : Int)))) < 9) ∧ ((0 ≤ (d 18 (d 9 (0 : Int))) ∧ (d 18 (d 9 (0 : Int))) < 9) ∧ ((-2147483648 ≤ (d 8 ((d 9 (a3 - (1 : Int))) * 9 + (d 18 (d 9 (a3 - (1 : Int)))))) ∧ (d 8 ((d 9 (a3 - (1 : Int))) * 9 + (d 18 (d 9 (a3 - (1 : Int)))))) < 2147483648) ∧ ((-2147483648 ≤ (d 8 ((d 9 (a3 - (1 : Int))) * 9 + (d 18 (d 9 (0 : Int))))) ∧ (d 8 ((d 9 (a3 - (1 : Int))) * 9 + (d 18 (d 9 (0 : Int))))) < 2147483648) ∧ ((((d 8 ((d 9 (a3 - (1 : Int))) * 9 + (d 18 (d 9 (a3 - (1 : Int)))))) < (d 8 ((d 9 (a3 - (1 : Int))) * 9 + (d 18 (d 9 (0 : Int)))))) → P1 d e) ∧ (¬ ((d 8 ((d 9 (a3 - (1 : Int))) * 9 + (d 18 (d 9 (a3 - (1 : Int)))))) < (d 8 ((d 9 (a3 - (1 : Int))) * 9 + (d 18 (d 9 (0 : Int)))))) → P0 d e)))))))))))))) : yB D xm_c25 (yQz L P1 P0) L 0 [.ref 6, .ref 18, .int (xJ a2), .int (xJ a3), .double 0] [] d e := by
  refine yb_iload (x := a2) rfl rfl ?_
  refine yb_iload (x := a3) rfl rfl ?_
  have r1 := h.1
  replace h := h.2
  have r2 := h.1
  replace h := h.2
  refine yb_icmp_lt (x := a2) (y := a3) rfl rfl r1 r2 (fun c => ?_) (fun c => ?_)
  · replace h := h.1 c
    refine yb_aload rfl rfl ?_
    refine yb_get (v := .ref 9) rfl (by decide) (by decide) (rfl) rfl ?_
    refine yb_push (v := 0) rfl ?_
    refine yb_iald (j := (0 : Int)) rfl xd_A9 (by decide) (by decide) (v := (d 9 (0 : Int))) rfl ?_
    refine yb_push (v := 1) rfl ?_
    refine yb_iadd (x := (d 9 (0 : Int))) (y := (1 : Int)) rfl ?_
    refine yb_istore rfl rfl rfl ?_
    exact h
  · replace h := h.2 c
    refine yb_aload rfl rfl ?_
    refine yb_aload rfl rfl ?_
    refine yb_aload rfl rfl ?_
    refine yb_get (v := .ref 9) rfl (by decide) (by decide) (rfl) rfl ?_
    refine yb_iload (x := a3) rfl rfl ?_
    refine yb_push (v := 1) rfl ?_
    refine yb_isub (x := a3) (y := (1 : Int)) rfl ?_
    have r3 := h.1
    replace h := h.2
    refine yb_iald (j := (a3 - (1 : Int))) rfl xd_A9 (by decide) r3 (v := (d 9 (a3 - (1 : Int)))) rfl ?_
    refine yb_aload rfl rfl ?_
    refine yb_get (v := .ref 9) rfl (by decide) (by decide) (rfl) rfl ?_
    refine yb_push (v := 0) rfl ?_
    refine yb_iald (j := (0 : Int)) rfl xd_A9 (by decide) (by decide) (v := (d 9 (0 : Int))) rfl ?_
    have r4 := h.1
    replace h := h.2
    have r5 := h.1
    replace h := h.2
    have r6 := h.1
    replace h := h.2
    have r7 := h.1
    replace h := h.2
    have r8 := h.1
    replace h := h.2
    have r9 := h.1
    replace h := h.2
    refine yb_callVz (As := [.ref 18, .int (xJ (d 9 (a3 - (1 : Int)))), .int (xJ (d 9 (0 : Int)))]) (a := 6) rfl rfl rfl rfl rfl rfl rfl rfl (by decide) (by decide) (rfl) (by decide) (sp_27_18 (by omega) ⟨r4, r5, r6, r7, r8, r9⟩ (fun c => ?_) (fun c => ?_))
    · replace h := h.1 c
      show yB D xm_c25 _ L 16 [.ref 6, .ref 18, .int (xJ a2), .int (xJ a3), .double 0] [.int (xJ (1 : Int))] d e
      exact yb_ret1 rfl h
    · replace h := h.2 c
      show yB D xm_c25 _ L 16 [.ref 6, .ref 18, .int (xJ a2), .int (xJ a3), .double 0] [.int (xJ (0 : Int))] d e
      exact yb_ret0 rfl h
theorem yk_25_18_24 {D L : Nat} {P1 P0 : xh_D → xd_E → Prop} {d : xh_D} {e : xd_E}  {l2 : Int} {l3 : Int} {l4 : Int}  (hD : 1 ≤ D) (h : ((-2147483648 ≤ l4 ∧ l4 < 2147483648) ∧ ((-2147483648 ≤ (d 6 (4 : Int)) ∧ (d 6 (4 : Int)) < 2147483648) ∧ ((((d 6 (4 : Int)) ≤ l4) → P0 d e) ∧ ((¬ (d 6 (4 : Int)) ≤ l4) → yZ D 26 L [.ref 6, .int (xJ l4), .int (xJ l2)] d e (fun d3 e4 => yB D xm_c25 (yQz L P1 P0) L 24 [.ref 6, .ref 18, .int (xJ l2), .int (xJ l3), .int (xJ (l4 + 1))] [] d3 e4) (fun d3 e4 => ((0 ≤ (l2 - (1 : Int)) ∧ (l2 - (1 : Int)) < 4) ∧ ((0 ≤ (d3 9 (l2 - (1 : Int))) ∧ (d3 9 (l2 - (1 : Int))) < 9) ∧ ((0 ≤ l4 ∧ l4 < 9) ∧ ((0 ≤ (d3 18 (d3 9 (l2 - (1 : Int)))) ∧ (d3 18 (d3 9 (l2 - (1 : Int)))) < 9) ∧ ((0 ≤ (d3 18 l4) ∧ (d3 18 l4) < 9) ∧ ((-2147483648 ≤ (d3 8 ((d3 9 (l2 - (1 : Int))) * 9 + (d3 18 (d3 9 (l2 - (1 : Int)))))) ∧ (d3 8 ((d3 9 (l2 - (1 : Int))) * 9 + (d3 18 (d3 9 (l2 - (1 : Int)))))) < 2147483648) ∧ ((-2147483648 ≤ (d3 8 ((d3 9 (l2 - (1 : Int))) * 9 + (d3 18 l4))) ∧ (d3 8 ((d3 9 (l2 - (1 : Int))) * 9 + (d3 18 l4))) < 2147483648) ∧ ((((d3 8 ((d3 9 (l2 - (1 : Int))) * 9 + (d3 18 (d3 9 (l2 - (1 : Int)))))) < (d3 8 ((d3 9 (l2 - (1 : Int))) * 9 + (d3 18 l4)))) → ((0 ≤ l2 ∧ l2 < 4) ∧ yZ D 25 L [.ref 6, .ref 18, .int (xJ (l2 + (1 : Int))), .int (xJ l3)] (xs d3 9 l2 l4) e4 (fun d13 e14 => P1 d13 e14) (fun d13 e14 => yB D xm_c25 (yQz L P1 P0) L 24 [.ref 6, .ref 18, .int (xJ l2), .int (xJ l3), .int (xJ (l4 + 1))] [] d13 e14))) ∧ (¬ ((d3 8 ((d3 9 (l2 - (1 : Int))) * 9 + (d3 18 (d3 9 (l2 - (1 : Int)))))) < (d3 8 ((d3 9 (l2 - (1 : Int))) * 9 + (d3 18 l4)))) → yB D xm_c25 (yQz L P1 P0) L 24 [.ref 6, .ref 18, .int (xJ l2), .int (xJ l3), .int (xJ (l4 + 1))] [] d3 e4))))))))))))))) : yB D xm_c25 (yQz L P1 P0) L 24 [.ref 6, .ref 18, .int (xJ l2), .int (xJ l3), .int (xJ l4)] [] d e := by
  refine yb_iload (x := l4) rfl rfl ?_
  refine yb_aload rfl rfl ?_
  refine yb_get (v := .int (xJ (d 6 (4 : Int)))) rfl (by decide) (by decide) (rfl) rfl ?_
  have r1 := h.1
  replace h := h.2
  have r2 := h.1
  replace h := h.2
  refine yb_icmp_ge (x := l4) (y := (d 6 (4 : Int))) rfl rfl r1 r2 (fun c => ?_) (fun c => ?_)
  · replace h := h.1 c
    refine yb_push (v := 0) rfl ?_
    exact yb_ret0 rfl h
  · replace h := h.2 c
    refine yb_aload rfl rfl ?_
    refine yb_iload (x := l4) rfl rfl ?_
    refine yb_iload (x := l2) rfl rfl ?_
    refine yb_callVz (As := [.int (xJ l4), .int (xJ l2)]) (a := 6) rfl rfl rfl rfl rfl rfl rfl rfl (by decide) (by decide) (rfl) (by decide) (yZ_mono h (fun d3 e4 h => ?_) (fun d3 e4 h => ?_))
    · refine yb_if_ne (x := (1 : Int)) rfl rfl (by decide) (fun _ => ?_) (fun c => absurd c (by decide))
      refine yb_iinc (x := l4) (n := 1) rfl rfl rfl rfl ?_
      refine yb_goto rfl rfl ?_
      exact h
    · refine yb_if_ne (x := (0 : Int)) rfl rfl (by decide) (fun c => absurd (by decide) c) (fun _ => ?_)
      refine yb_aload rfl rfl ?_
      refine yb_aload rfl rfl ?_
      refine yb_aload rfl rfl ?_
      refine yb_get (v := .ref 9) rfl (by decide) (by decide) (rfl) rfl ?_
      refine yb_iload (x := l2) rfl rfl ?_
      refine yb_push (v := 1) rfl ?_
      refine yb_isub (x := l2) (y := (1 : Int)) rfl ?_
      have r5 := h.1
      replace h := h.2
      refine yb_iald (j := (l2 - (1 : Int))) rfl xd_A9 (by decide) r5 (v := (d3 9 (l2 - (1 : Int)))) rfl ?_
      refine yb_iload (x := l4) rfl rfl ?_
      have r6 := h.1
      replace h := h.2
      have r7 := h.1
      replace h := h.2
      have r8 := h.1
      replace h := h.2
      have r9 := h.1
      replace h := h.2
      have r10 := h.1
      replace h := h.2
      have r11 := h.1
      replace h := h.2
      refine yb_callVz (As := [.ref 18, .int (xJ (d3 9 (l2 - (1 : Int)))), .int (xJ l4)]) (a := 6) rfl rfl rfl rfl rfl rfl rfl rfl (by decide) (by decide) (rfl) (by decide) (sp_27_18 (by omega) ⟨r6, r7, r8, r9, r10, r11⟩ (fun c => ?_) (fun c => ?_))
      · replace h := h.1 c
        show yB D xm_c25 _ L 43 [.ref 6, .ref 18, .int (xJ l2), .int (xJ l3), .int (xJ l4)] [.int (xJ (1 : Int))] d3 e4
        refine yb_if_eq (x := (1 : Int)) rfl rfl (by decide) (fun c => absurd c (by decide)) (fun _ => ?_)
        refine yb_aload rfl rfl ?_
        refine yb_get (v := .ref 9) rfl (by decide) (by decide) (rfl) rfl ?_
        refine yb_iload (x := l2) rfl rfl ?_
        refine yb_iload (x := l4) rfl rfl ?_
        have r12 := h.1
        replace h := h.2
        refine yb_iast (j := l2) (x := l4) rfl xd_A9 (by decide) r12 ?_
        refine yb_aload rfl rfl ?_
        refine yb_aload rfl rfl ?_
        refine yb_iload (x := l2) rfl rfl ?_
        refine yb_push (v := 1) rfl ?_
        refine yb_iadd (x := l2) (y := (1 : Int)) rfl ?_
        refine yb_iload (x := l3) rfl rfl ?_
        refine yb_callVz (As := [.ref 18, .int (xJ (l2 + (1 : Int))), .int (xJ l3)]) (a := 6) rfl rfl rfl rfl rfl rfl rfl rfl (by decide) (by decide) (rfl) (by decide) (yZ_mono h (fun d13 e14 h => ?_) (fun d13 e14 h => ?_))
        · refine yb_if_eq (x := (1 : Int)) rfl rfl (by decide) (fun c => absurd c (by decide)) (fun _ => ?_)
          refine yb_push (v := 1) rfl ?_
          exact yb_ret1 rfl h
        · refine yb_if_eq (x := (0 : Int)) rfl rfl (by decide) (fun _ => ?_) (fun c => absurd (by decide) c)
          refine yb_iinc (x := l4) (n := 1) rfl rfl rfl rfl ?_
          refine yb_goto rfl rfl ?_
          exact h
      · replace h := h.2 c
        show yB D xm_c25 _ L 43 [.ref 6, .ref 18, .int (xJ l2), .int (xJ l3), .int (xJ l4)] [.int (xJ (0 : Int))] d3 e4
        refine yb_if_eq (x := (0 : Int)) rfl rfl (by decide) (fun _ => ?_) (fun c => absurd (by decide) c)
        refine yb_iinc (x := l4) (n := 1) rfl rfl rfl rfl ?_
        refine yb_goto rfl rfl ?_
        exact h
theorem yk_26_0 {D L : Nat} {P1 P0 : xh_D → xd_E → Prop} {d : xh_D} {e : xd_E} {a1 : Int} {a2 : Int}   (h : yB D xm_c26 (yQz L P1 P0) L 2 [.ref 6, .int (xJ a1), .int (xJ a2), .int (xJ (0 : Int))] [] d e) : yB D xm_c26 (yQz L P1 P0) L 0 [.ref 6, .int (xJ a1), .int (xJ a2), .double 0] [] d e := by
  refine yb_push (v := 0) rfl ?_
  refine yb_istore rfl rfl rfl ?_
  exact h
theorem yk_26_2 {D L : Nat} {P1 P0 : xh_D → xd_E → Prop} {d : xh_D} {e : xd_E}  {l1 : Int} {l2 : Int} {l3 : Int}  (h : ((-2147483648 ≤ l3 ∧ l3 < 2147483648) ∧ ((-2147483648 ≤ l2 ∧ l2 < 2147483648) ∧ (((l2 ≤ l3) → P0 d e) ∧ ((¬ l2 ≤ l3) → ((0 ≤ l3 ∧ l3 < 4) ∧ ((-2147483648 ≤ (d 9 l3) ∧ (d 9 l3) < 2147483648) ∧ ((-2147483648 ≤ l1 ∧ l1 < 2147483648) ∧ (((¬ (d 9 l3) = l1) → yB D xm_c26 (yQz L P1 P0) L 2 [.ref 6, .int (xJ l1), .int (xJ l2), .int (xJ (l3 + 1))] [] d e) ∧ (((d 9 l3) = l1) → P1 d e)))))))))) : yB D xm_c26 (yQz L P1 P0) L 2 [.ref 6, .int (xJ l1), .int (xJ l2), .int (xJ l3)] [] d e := by
  refine yb_iload (x := l3) rfl rfl ?_
  refine yb_iload (x := l2) rfl rfl ?_
  have r1 := h.1
  replace h := h.2
  have r2 := h.1
  replace h := h.2
  refine yb_icmp_ge (x := l3) (y := l2) rfl rfl r1 r2 (fun c => ?_) (fun c => ?_)
  · replace h := h.1 c
    refine yb_push (v := 0) rfl ?_
    exact yb_ret0 rfl h
  · replace h := h.2 c
    refine yb_aload rfl rfl ?_
    refine yb_get (v := .ref 9) rfl (by decide) (by decide) (rfl) rfl ?_
    refine yb_iload (x := l3) rfl rfl ?_
    have r3 := h.1
    replace h := h.2
    refine yb_iald (j := l3) rfl xd_A9 (by decide) r3 (v := (d 9 l3)) rfl ?_
    refine yb_iload (x := l1) rfl rfl ?_
    have r4 := h.1
    replace h := h.2
    have r5 := h.1
    replace h := h.2
    refine yb_icmp_ne (x := (d 9 l3)) (y := l1) rfl rfl r4 r5 (fun c => ?_) (fun c => ?_)
    · replace h := h.1 c
      refine yb_iinc (x := l3) (n := 1) rfl rfl rfl rfl ?_
      refine yb_goto rfl rfl ?_
      exact h
    · replace h := h.2 c
      refine yb_push (v := 1) rfl ?_
      exact yb_ret1 rfl h
theorem yk_28_12_0 {D L : Nat} {P : xh_D → xd_E → Prop} {d : xh_D} {e : xd_E} {a2 : Int}   (h : ((0 ≤ (d 9 (0 : Int)) ∧ (d 9 (0 : Int)) < 9) ∧ yB D xm_c28 (yQv L P) L 9 [.ref 6, .ref 12, .int (xJ a2), .int (xJ (d 12 (d 9 (0 : Int)))), .int (xJ (0 : Int))] [] d e)) : yB D xm_c28 (yQv L P) L 0 [.ref 6, .ref 12, .int (xJ a2), .double 0, .double 0] [] d e := by
  refine yb_aload rfl rfl ?_
  refine yb_aload rfl rfl ?_
  refine yb_get (v := .ref 9) rfl (by decide) (by decide) (rfl) rfl ?_
  refine yb_push (v := 0) rfl ?_
  refine yb_iald (j := (0 : Int)) rfl xd_A9 (by decide) (by decide) (v := (d 9 (0 : Int))) rfl ?_
  have r1 := h.1
  replace h := h.2
  refine yb_iald (j := (d 9 (0 : Int))) rfl xd_A12 (by decide) r1 (v := (d 12 (d 9 (0 : Int)))) rfl ?_
  refine yb_istore rfl rfl rfl ?_
  refine yb_push (v := 0) rfl ?_
  refine yb_istore rfl rfl rfl ?_
  exact h
theorem yk_28_12_9 {D L : Nat} {P : xh_D → xd_E → Prop} {d : xh_D} {e : xd_E}  {l2 : Int} {l3 : Int} {l4 : Int}  (h : ((-2147483648 ≤ (l4 + (1 : Int)) ∧ (l4 + (1 : Int)) < 2147483648) ∧ ((-2147483648 ≤ l2 ∧ l2 < 2147483648) ∧ (((l2 ≤ (l4 + (1 : Int))) → ((0 ≤ (l2 - (1 : Int)) ∧ (l2 - (1 : Int)) < 4) ∧ ((0 ≤ (d 9 (l2 - (1 : Int))) ∧ (d 9 (l2 - (1 : Int))) < 9) ∧ P (xs d 12 (d 9 (l2 - (1 : Int))) l3) e))) ∧ ((¬ l2 ≤ (l4 + (1 : Int))) → ((0 ≤ l4 ∧ l4 < 4) ∧ ((0 ≤ (l4 + (1 : Int)) ∧ (l4 + (1 : Int)) < 4) ∧ ((0 ≤ (d 9 (l4 + (1 : Int))) ∧ (d 9 (l4 + (1 : Int))) < 9) ∧ ((0 ≤ (d 9 l4) ∧ (d 9 l4) < 9) ∧ yB D xm_c28 (yQv L P) L 9 [.ref 6, .ref 12, .int (xJ l2), .int (xJ l3), .int (xJ (l4 + 1))] [] (xs d 12 (d 9 l4) (d 12 (d 9 (l4 + (1 : Int))))) e))))))))) : yB D xm_c28 (yQv L P) L 9 [.ref 6, .ref 12, .int (xJ l2), .int (xJ l3), .int (xJ l4)] [] d e := by
  refine yb_iload (x := l4) rfl rfl ?_
  refine yb_push (v := 1) rfl ?_
  refine yb_iadd (x := l4) (y := (1 : Int)) rfl ?_
  refine yb_iload (x := l2) rfl rfl ?_
  have r1 := h.1
  replace h := h.2
  have r2 := h.1
  replace h := h.2
  refine yb_icmp_ge (x := (l4 + (1 : Int))) (y := l2) rfl rfl r1 r2 (fun c => ?_) (fun c => ?_)
  · replace h := h.1 c
    refine yb_aload rfl rfl ?_
    refine yb_aload rfl rfl ?_
    refine yb_get (v := .ref 9) rfl (by decide) (by decide) (rfl) rfl ?_
    refine yb_iload (x := l2) rfl rfl ?_
    refine yb_push (v := 1) rfl ?_
    refine yb_isub (x := l2) (y := (1 : Int)) rfl ?_
    have r3 := h.1
    replace h := h.2
    refine yb_iald (j := (l2 - (1 : Int))) rfl xd_A9 (by decide) r3 (v := (d 9 (l2 - (1 : Int)))) rfl ?_
    refine yb_iload (x := l3) rfl rfl ?_
    have r4 := h.1
    replace h := h.2
    refine yb_iast (j := (d 9 (l2 - (1 : Int)))) (x := l3) rfl xd_A12 (by decide) r4 ?_
    exact yb_retv rfl h
  · replace h := h.2 c
    refine yb_aload rfl rfl ?_
    refine yb_aload rfl rfl ?_
    refine yb_get (v := .ref 9) rfl (by decide) (by decide) (rfl) rfl ?_
    refine yb_iload (x := l4) rfl rfl ?_
    have r5 := h.1
    replace h := h.2
    refine yb_iald (j := l4) rfl xd_A9 (by decide) r5 (v := (d 9 l4)) rfl ?_
    refine yb_aload rfl rfl ?_
    refine yb_aload rfl rfl ?_
    refine yb_get (v := .ref 9) rfl (by decide) (by decide) (rfl) rfl ?_
    refine yb_iload (x := l4) rfl rfl ?_
    refine yb_push (v := 1) rfl ?_
    refine yb_iadd (x := l4) (y := (1 : Int)) rfl ?_
    have r6 := h.1
    replace h := h.2
    refine yb_iald (j := (l4 + (1 : Int))) rfl xd_A9 (by decide) r6 (v := (d 9 (l4 + (1 : Int)))) rfl ?_
    have r7 := h.1
    replace h := h.2
    refine yb_iald (j := (d 9 (l4 + (1 : Int)))) rfl xd_A12 (by decide) r7 (v := (d 12 (d 9 (l4 + (1 : Int))))) rfl ?_
    have r8 := h.1
    replace h := h.2
    refine yb_iast (j := (d 9 l4)) (x := (d 12 (d 9 (l4 + (1 : Int))))) rfl xd_A12 (by decide) r8 ?_
    refine yb_iinc (x := l4) (n := 1) rfl rfl rfl rfl ?_
    refine yb_goto rfl rfl ?_
    exact h
theorem yk_28_18_0 {D L : Nat} {P : xh_D → xd_E → Prop} {d : xh_D} {e : xd_E} {a2 : Int}   (h : ((0 ≤ (d 9 (0 : Int)) ∧ (d 9 (0 : Int)) < 9) ∧ yB D xm_c28 (yQv L P) L 9 [.ref 6, .ref 18, .int (xJ a2), .int (xJ (d 18 (d 9 (0 : Int)))), .int (xJ (0 : Int))] [] d e)) : yB D xm_c28 (yQv L P) L 0 [.ref 6, .ref 18, .int (xJ a2), .double 0, .double 0] [] d e := by
  refine yb_aload rfl rfl ?_
  refine yb_aload rfl rfl ?_
  refine yb_get (v := .ref 9) rfl (by decide) (by decide) (rfl) rfl ?_
  refine yb_push (v := 0) rfl ?_
  refine yb_iald (j := (0 : Int)) rfl xd_A9 (by decide) (by decide) (v := (d 9 (0 : Int))) rfl ?_
  have r1 := h.1
  replace h := h.2
  refine yb_iald (j := (d 9 (0 : Int))) rfl xd_A18 (by decide) r1 (v := (d 18 (d 9 (0 : Int)))) rfl ?_
  refine yb_istore rfl rfl rfl ?_
  refine yb_push (v := 0) rfl ?_
  refine yb_istore rfl rfl rfl ?_
  exact h
theorem yk_28_18_9 {D L : Nat} {P : xh_D → xd_E → Prop} {d : xh_D} {e : xd_E}  {l2 : Int} {l3 : Int} {l4 : Int}  (h : ((-2147483648 ≤ (l4 + (1 : Int)) ∧ (l4 + (1 : Int)) < 2147483648) ∧ ((-2147483648 ≤ l2 ∧ l2 < 2147483648) ∧ (((l2 ≤ (l4 + (1 : Int))) → ((0 ≤ (l2 - (1 : Int)) ∧ (l2 - (1 : Int)) < 4) ∧ ((0 ≤ (d 9 (l2 - (1 : Int))) ∧ (d 9 (l2 - (1 : Int))) < 9) ∧ P (xs d 18 (d 9 (l2 - (1 : Int))) l3) e))) ∧ ((¬ l2 ≤ (l4 + (1 : Int))) → ((0 ≤ l4 ∧ l4 < 4) ∧ ((0 ≤ (l4 + (1 : Int)) ∧ (l4 + (1 : Int)) < 4) ∧ ((0 ≤ (d 9 (l4 + (1 : Int))) ∧ (d 9 (l4 + (1 : Int))) < 9) ∧ ((0 ≤ (d 9 l4) ∧ (d 9 l4) < 9) ∧ yB D xm_c28 (yQv L P) L 9 [.ref 6, .ref 18, .int (xJ l2), .int (xJ l3), .int (xJ (l4 + 1))] [] (xs d 18 (d 9 l4) (d 18 (d 9 (l4 + (1 : Int))))) e))))))))) : yB D xm_c28 (yQv L P) L 9 [.ref 6, .ref 18, .int (xJ l2), .int (xJ l3), .int (xJ l4)] [] d e := by
  refine yb_iload (x := l4) rfl rfl ?_
  refine yb_push (v := 1) rfl ?_
  refine yb_iadd (x := l4) (y := (1 : Int)) rfl ?_
  refine yb_iload (x := l2) rfl rfl ?_
  have r1 := h.1
  replace h := h.2
  have r2 := h.1
  replace h := h.2
  refine yb_icmp_ge (x := (l4 + (1 : Int))) (y := l2) rfl rfl r1 r2 (fun c => ?_) (fun c => ?_)
  · replace h := h.1 c
    refine yb_aload rfl rfl ?_
    refine yb_aload rfl rfl ?_
    refine yb_get (v := .ref 9) rfl (by decide) (by decide) (rfl) rfl ?_
    refine yb_iload (x := l2) rfl rfl ?_
    refine yb_push (v := 1) rfl ?_
    refine yb_isub (x := l2) (y := (1 : Int)) rfl ?_
    have r3 := h.1
    replace h := h.2
    refine yb_iald (j := (l2 - (1 : Int))) rfl xd_A9 (by decide) r3 (v := (d 9 (l2 - (1 : Int)))) rfl ?_
    refine yb_iload (x := l3) rfl rfl ?_
    have r4 := h.1
    replace h := h.2
    refine yb_iast (j := (d 9 (l2 - (1 : Int)))) (x := l3) rfl xd_A18 (by decide) r4 ?_
    exact yb_retv rfl h
  · replace h := h.2 c
    refine yb_aload rfl rfl ?_
    refine yb_aload rfl rfl ?_
    refine yb_get (v := .ref 9) rfl (by decide) (by decide) (rfl) rfl ?_
    refine yb_iload (x := l4) rfl rfl ?_
    have r5 := h.1
    replace h := h.2
    refine yb_iald (j := l4) rfl xd_A9 (by decide) r5 (v := (d 9 l4)) rfl ?_
    refine yb_aload rfl rfl ?_
    refine yb_aload rfl rfl ?_
    refine yb_get (v := .ref 9) rfl (by decide) (by decide) (rfl) rfl ?_
    refine yb_iload (x := l4) rfl rfl ?_
    refine yb_push (v := 1) rfl ?_
    refine yb_iadd (x := l4) (y := (1 : Int)) rfl ?_
    have r6 := h.1
    replace h := h.2
    refine yb_iald (j := (l4 + (1 : Int))) rfl xd_A9 (by decide) r6 (v := (d 9 (l4 + (1 : Int)))) rfl ?_
    have r7 := h.1
    replace h := h.2
    refine yb_iald (j := (d 9 (l4 + (1 : Int)))) rfl xd_A18 (by decide) r7 (v := (d 18 (d 9 (l4 + (1 : Int))))) rfl ?_
    have r8 := h.1
    replace h := h.2
    refine yb_iast (j := (d 9 l4)) (x := (d 18 (d 9 (l4 + (1 : Int))))) rfl xd_A18 (by decide) r8 ?_
    refine yb_iinc (x := l4) (n := 1) rfl rfl rfl rfl ?_
    refine yb_goto rfl rfl ?_
    exact h
theorem yk_29_12_0 {D L : Nat} {P : Int → xh_D → xd_E → Prop} {d : xh_D} {e : xd_E}    (h : yB D xm_c29 (yQi L P) L 7 [.ref 6, .ref 12, .int (xJ (1 : Int)), .double 0, .double 0, .double 0] [] (xs d 10 (0 : Int) (0 : Int)) e) : yB D xm_c29 (yQi L P) L 0 [.ref 6, .ref 12, .double 0, .double 0, .double 0, .double 0] [] d e := by
  refine yb_aload rfl rfl ?_
  refine yb_get (v := .ref 10) rfl (by decide) (by decide) (rfl) rfl ?_
  refine yb_push (v := 0) rfl ?_
  refine yb_push (v := 0) rfl ?_
  refine yb_iast (j := (0 : Int)) (x := (0 : Int)) rfl xd_A10 (by decide) (by decide) ?_
  refine yb_push (v := 1) rfl ?_
  refine yb_istore rfl rfl rfl ?_
  exact h
theorem yk_29_12_7 {D L : Nat} {P : Int → xh_D → xd_E → Prop} {d : xh_D} {e : xd_E}  {l2 : Int}  (hD : 1 ≤ D) (h : ((-2147483648 ≤ l2 ∧ l2 < 2147483648) ∧ ((-2147483648 ≤ (xi_shl (1 : Int) (d 6 (4 : Int)) - 1) ∧ (xi_shl (1 : Int) (d 6 (4 : Int)) - 1) < 2147483648) ∧ ((((xi_shl (1 : Int) (d 6 (4 : Int)) - 1) < l2) → ((0 ≤ (xi_shl (1 : Int) (d 6 (4 : Int)) - 1) ∧ (xi_shl (1 : Int) (d 6 (4 : Int)) - 1) < 512) ∧ P (d 10 (xi_shl (1 : Int) (d 6 (4 : Int)) - 1)) d e)) ∧ ((¬ (xi_shl (1 : Int) (d 6 (4 : Int)) - 1) < l2) → yB D xm_c29 (yQi L P) L 20 [.ref 6, .ref 12, .int (xJ l2), .int (xJ ((xp_bc l2) - (1 : Int))), .int (xJ (0 : Int)), .int (xJ (0 : Int))] [] d e))))) : yB D xm_c29 (yQi L P) L 7 [.ref 6, .ref 12, .int (xJ l2), .double 0, .double 0, .double 0] [] d e := by
  refine yb_iload (x := l2) rfl rfl ?_
  refine yb_aload rfl rfl ?_
  refine yb_callVi (As := []) (a := 6) rfl rfl rfl rfl rfl rfl rfl rfl (by decide) (by decide) (rfl) (by show (1 : Nat) ≤ 8; decide) (sp_23 (by omega) ?_)
  show yB D xm_c29 _ L 10 [.ref 6, .ref 12, .int (xJ l2), .double 0, .double 0, .double 0] [.int (xJ (xi_shl (1 : Int) (d 6 (4 : Int)) - 1)), .int (xJ l2)] d e
  have r1 := h.1
  replace h := h.2
  have r2 := h.1
  replace h := h.2
  refine yb_icmp_gt (x := l2) (y := (xi_shl (1 : Int) (d 6 (4 : Int)) - 1)) rfl rfl r1 r2 (fun c => ?_) (fun c => ?_)
  · replace h := h.1 c
    refine yb_aload rfl rfl ?_
    refine yb_get (v := .ref 10) rfl (by decide) (by decide) (rfl) rfl ?_
    refine yb_aload rfl rfl ?_
    refine yb_callVi (As := []) (a := 6) rfl rfl rfl rfl rfl rfl rfl rfl (by decide) (by decide) (rfl) (by show (1 : Nat) ≤ 8; decide) (sp_23 (by omega) ?_)
    show yB D xm_c29 _ L 65 [.ref 6, .ref 12, .int (xJ l2), .double 0, .double 0, .double 0] [.int (xJ (xi_shl (1 : Int) (d 6 (4 : Int)) - 1)), .ref 10] d e
    have r3 := h.1
    replace h := h.2
    refine yb_iald (j := (xi_shl (1 : Int) (d 6 (4 : Int)) - 1)) rfl xd_A10 (by decide) r3 (v := (d 10 (xi_shl (1 : Int) (d 6 (4 : Int)) - 1))) rfl ?_
    exact yb_ret rfl h
  · replace h := h.2 c
    refine yb_iload (x := l2) rfl rfl ?_
    refine yb_callSi (As := [.int (xJ l2)]) rfl rfl rfl rfl rfl rfl rfl rfl (by decide) (sp_0 (by omega) ?_)
    show yB D xm_c29 _ L 13 [.ref 6, .ref 12, .int (xJ l2), .double 0, .double 0, .double 0] [.int (xJ (xp_bc l2))] d e
    refine yb_push (v := 1) rfl ?_
    refine yb_isub (x := (xp_bc l2)) (y := (1 : Int)) rfl ?_
    refine yb_istore rfl rfl rfl ?_
    refine yb_push (v := 0) rfl ?_
    refine yb_istore rfl rfl rfl ?_
    refine yb_push (v := 0) rfl ?_
    refine yb_istore rfl rfl rfl ?_
    exact h
theorem yk_29_12_20 {D L : Nat} {P : Int → xh_D → xd_E → Prop} {d : xh_D} {e : xd_E}  {l2 : Int} {l3 : Int} {l4 : Int} {l5 : Int}  (hD : 1 ≤ D) (h : ((-2147483648 ≤ l5 ∧ l5 < 2147483648) ∧ ((-2147483648 ≤ (d 6 (4 : Int)) ∧ (d 6 (4 : Int)) < 2147483648) ∧ ((((d 6 (4 : Int)) ≤ l5) → ((0 ≤ l2 ∧ l2 < 512) ∧ yB D xm_c29 (yQi L P) L 7 [.ref 6, .ref 12, .int (xJ (l2 + 1)), .double 0, .double 0, .double 0] [] (xs d 10 l2 l4) e)) ∧ ((¬ (d 6 (4 : Int)) ≤ l5) → ((((xi_and (xi_shr l2 l5) (1 : Int)) = 0) → yB D xm_c29 (yQi L P) L 20 [.ref 6, .ref 12, .int (xJ l2), .int (xJ l3), .int (xJ l4), .int (xJ (l5 + 1))] [] d e) ∧ ((¬ (xi_and (xi_shr l2 l5) (1 : Int)) = 0) → ((0 ≤ (xi_xor l2 (xi_shl (1 : Int) l5)) ∧ (xi_xor l2 (xi_shl (1 : Int) l5)) < 512) ∧ ((0 ≤ l5 ∧ l5 < 9) ∧ ((0 ≤ ((l3 * (9 : Int)) + (d 12 l5)) ∧ ((l3 * (9 : Int)) + (d 12 l5)) < 81) ∧ ((-2147483648 ≤ l4 ∧ l4 < 2147483648) ∧ ((-2147483648 ≤ ((d 10 (xi_xor l2 (xi_shl (1 : Int) l5))) + (d 8 ((l3 * (9 : Int)) + (d 12 l5)))) ∧ ((d 10 (xi_xor l2 (xi_shl (1 : Int) l5))) + (d 8 ((l3 * (9 : Int)) + (d 12 l5)))) < 2147483648) ∧ (∀ v9, v9 = (max l4 ((d 10 (xi_xor l2 (xi_shl (1 : Int) l5))) + (d 8 ((l3 * (9 : Int)) + (d 12 l5))))) → yB D xm_c29 (yQi L P) L 20 [.ref 6, .ref 12, .int (xJ l2), .int (xJ l3), .int (xJ v9), .int (xJ (l5 + 1))] [] d e))))))))))))) : yB D xm_c29 (yQi L P) L 20 [.ref 6, .ref 12, .int (xJ l2), .int (xJ l3), .int (xJ l4), .int (xJ l5)] [] d e := by
  refine yb_iload (x := l5) rfl rfl ?_
  refine yb_aload rfl rfl ?_
  refine yb_get (v := .int (xJ (d 6 (4 : Int)))) rfl (by decide) (by decide) (rfl) rfl ?_
  have r1 := h.1
  replace h := h.2
  have r2 := h.1
  replace h := h.2
  refine yb_icmp_ge (x := l5) (y := (d 6 (4 : Int))) rfl rfl r1 r2 (fun c => ?_) (fun c => ?_)
  · replace h := h.1 c
    refine yb_aload rfl rfl ?_
    refine yb_get (v := .ref 10) rfl (by decide) (by decide) (rfl) rfl ?_
    refine yb_iload (x := l2) rfl rfl ?_
    refine yb_iload (x := l4) rfl rfl ?_
    have r3 := h.1
    replace h := h.2
    refine yb_iast (j := l2) (x := l4) rfl xd_A10 (by decide) r3 ?_
    refine yb_iinc (x := l2) (n := 1) rfl rfl rfl rfl ?_
    refine yb_goto rfl rfl ?_
    refine yb_forget (dl := [.ref 6, .ref 12, .int (xJ (l2 + 1)), .double 0, .double 0, .double 0]) ⟨Or.inl rfl, ⟨Or.inl rfl, ⟨Or.inl rfl, ⟨Or.inr ⟨rfl, rfl⟩, ⟨Or.inr ⟨rfl, rfl⟩, ⟨Or.inr ⟨rfl, rfl⟩, trivial⟩⟩⟩⟩⟩⟩ ?_
    exact h
  · replace h := h.2 c
    refine yb_iload (x := l2) rfl rfl ?_
    refine yb_iload (x := l5) rfl rfl ?_
    refine yb_ishr (x := l2) (y := l5) rfl ?_
    refine yb_push (v := 1) rfl ?_
    refine yb_iand (x := (xi_shr l2 l5)) (y := (1 : Int)) rfl ?_
    refine yb_if_eq (x := (xi_and (xi_shr l2 l5) (1 : Int))) rfl rfl (xJ_rng _) (fun c => ?_) (fun c => ?_)
    · replace h := h.1 c
      refine yb_iinc (x := l5) (n := 1) rfl rfl rfl rfl ?_
      refine yb_goto rfl rfl ?_
      exact h
    · replace h := h.2 c
      refine yb_iload (x := l4) rfl rfl ?_
      refine yb_aload rfl rfl ?_
      refine yb_get (v := .ref 10) rfl (by decide) (by decide) (rfl) rfl ?_
      refine yb_iload (x := l2) rfl rfl ?_
      refine yb_push (v := 1) rfl ?_
      refine yb_iload (x := l5) rfl rfl ?_
      refine yb_ishl (x := (1 : Int)) (y := l5) rfl ?_
      refine yb_ixor (x := l2) (y := (xi_shl (1 : Int) l5)) rfl ?_
      have r4 := h.1
      replace h := h.2
      refine yb_iald (j := (xi_xor l2 (xi_shl (1 : Int) l5))) rfl xd_A10 (by decide) r4 (v := (d 10 (xi_xor l2 (xi_shl (1 : Int) l5)))) rfl ?_
      refine yb_aload rfl rfl ?_
      refine yb_get (v := .ref 8) rfl (by decide) (by decide) (rfl) rfl ?_
      refine yb_iload (x := l3) rfl rfl ?_
      refine yb_push (v := 9) rfl ?_
      refine yb_imul (x := l3) (y := (9 : Int)) rfl ?_
      refine yb_aload rfl rfl ?_
      refine yb_iload (x := l5) rfl rfl ?_
      have r5 := h.1
      replace h := h.2
      refine yb_iald (j := l5) rfl xd_A12 (by decide) r5 (v := (d 12 l5)) rfl ?_
      refine yb_iadd (x := (l3 * (9 : Int))) (y := (d 12 l5)) rfl ?_
      have r6 := h.1
      replace h := h.2
      refine yb_iald (j := ((l3 * (9 : Int)) + (d 12 l5))) rfl xd_A8 (by decide) r6 (v := (d 8 ((l3 * (9 : Int)) + (d 12 l5)))) rfl ?_
      refine yb_iadd (x := (d 10 (xi_xor l2 (xi_shl (1 : Int) l5)))) (y := (d 8 ((l3 * (9 : Int)) + (d 12 l5)))) rfl ?_
      have r7 := h.1
      replace h := h.2
      have r8 := h.1
      replace h := h.2
      refine yb_callSi (As := [.int (xJ l4), .int (xJ ((d 10 (xi_xor l2 (xi_shl (1 : Int) l5))) + (d 8 ((l3 * (9 : Int)) + (d 12 l5)))))]) rfl rfl rfl rfl rfl rfl rfl rfl (by decide) (sp_4 (by omega) ⟨r7, r8⟩ ?_)
      show yB D xm_c29 _ L 51 [.ref 6, .ref 12, .int (xJ l2), .int (xJ l3), .int (xJ l4), .int (xJ l5)] [.int (xJ (max l4 ((d 10 (xi_xor l2 (xi_shl (1 : Int) l5))) + (d 8 ((l3 * (9 : Int)) + (d 12 l5))))))] d e
      replace h := h _ rfl
      refine yb_istore rfl rfl rfl ?_
      refine yb_iinc (x := l5) (n := 1) rfl rfl rfl rfl ?_
      refine yb_goto rfl rfl ?_
      exact h
theorem yk_34_0 {D L : Nat} {P : Int → xh_D → xd_E → Prop} {d : xh_D} {e : xd_E}    (hD : 1 ≤ D) (h : ((-2147483648 ≤ (d 2 (1 : Int)) ∧ (d 2 (1 : Int)) < 2147483648) ∧ yB D xm_c34 (yQi L P) L 9 [.ref 111, .ref 2, .int (xJ (min (d 2 (1 : Int)) (40 : Int))), .int (xJ (0 : Int)), .double 0] [] (xs (xs (xs (xs (xs (xs d 111 (7 : Int) (0 : Int)) 111 (8 : Int) (0 : Int)) 111 (9 : Int) (0 : Int)) 111 (10 : Int) (0 : Int)) 111 (11 : Int) (1 : Int)) 117 (0 : Int) (0 : Int)) e)) : yB D xm_c34 (yQi L P) L 0 [.ref 111, .ref 2, .double 0, .double 0, .double 0] [] d e := by
  refine yb_aload rfl rfl ?_
  refine yb_callVv (As := []) (a := 111) rfl rfl rfl rfl rfl rfl rfl rfl (by decide) (by decide) (rfl) (by decide) (sp_35 (by omega) ?_)
  show yB D xm_c34 _ L 2 [.ref 111, .ref 2, .double 0, .double 0, .double 0] [] (xs (xs (xs (xs (xs (xs d 111 (7 : Int) (0 : Int)) 111 (8 : Int) (0 : Int)) 111 (9 : Int) (0 : Int)) 111 (10 : Int) (0 : Int)) 111 (11 : Int) (1 : Int)) 117 (0 : Int) (0 : Int)) e
  refine yb_aload rfl rfl ?_
  refine yb_get (v := .int (xJ (d 2 (1 : Int)))) rfl (by decide) (by decide) (rfl) rfl ?_
  refine yb_push (v := 40) rfl ?_
  have r1 := h.1
  replace h := h.2
  refine yb_callSi (As := [.int (xJ (d 2 (1 : Int))), .int (xJ (40 : Int))]) rfl rfl rfl rfl rfl rfl rfl rfl (by decide) (sp_5 (by omega) ⟨r1, (by show (-2147483648 ≤ (40 : Int) ∧ (40 : Int) < 2147483648); decide)⟩ ?_)
  show yB D xm_c34 _ L 6 [.ref 111, .ref 2, .double 0, .double 0, .double 0] [.int (xJ (min (d 2 (1 : Int)) (40 : Int)))] (xs (xs (xs (xs (xs (xs d 111 (7 : Int) (0 : Int)) 111 (8 : Int) (0 : Int)) 111 (9 : Int) (0 : Int)) 111 (10 : Int) (0 : Int)) 111 (11 : Int) (1 : Int)) 117 (0 : Int) (0 : Int)) e
  refine yb_istore rfl rfl rfl ?_
  refine yb_push (v := 0) rfl ?_
  refine yb_istore rfl rfl rfl ?_
  exact h
theorem yk_34_9 {D L : Nat} {P : Int → xh_D → xd_E → Prop} {d : xh_D} {e : xd_E}  {l2 : Int} {l3 : Int}  (hD : 1 ≤ D) (h : ((-2147483648 ≤ l3 ∧ l3 < 2147483648) ∧ ((-2147483648 ≤ l2 ∧ l2 < 2147483648) ∧ (((l2 ≤ l3) → ((-2147483648 ≤ (d 2 (1 : Int)) ∧ (d 2 (1 : Int)) < 2147483648) ∧ ((((d 2 (1 : Int)) ≤ (40 : Int)) → ((-2147483648 ≤ (d 111 (11 : Int)) ∧ (d 111 (11 : Int)) < 2147483648) ∧ (((¬ (d 111 (11 : Int)) = 0) → yB D xm_c34 (yQi L P) L 45 [.ref 111, .ref 2, .double 0, .double 0, .double 0] [] d e) ∧ (((d 111 (11 : Int)) = 0) → ((-2147483648 ≤ (d 111 (9 : Int)) ∧ (d 111 (9 : Int)) < 2147483648) ∧ ((((d 111 (9 : Int)) ≤ 0) → yB D xm_c34 (yQi L P) L 51 [.ref 111, .double 0, .double 0, .double 0, .double 0] [] d e) ∧ ((¬ (d 111 (9 : Int)) ≤ 0) → yB D xm_c34 (yQi L P) L 45 [.ref 111, .ref 2, .double 0, .double 0, .double 0] [] d e))))))) ∧ ((¬ (d 2 (1 : Int)) ≤ (40 : Int)) → P (40 : Int) d e)))) ∧ ((¬ l2 ≤ l3) → ((-2147483648 ≤ (d 111 (11 : Int)) ∧ (d 111 (11 : Int)) < 2147483648) ∧ ((((d 111 (11 : Int)) = 0) → (xt_ok d ∧ yZ D 38 L [.ref 111, .int (xJ (xt_at d l3))] d e (fun d8 e9 => yB D xm_c34 (yQi L P) L 9 [.ref 111, .ref 2, .int (xJ l2), .int (xJ (l3 + 1)), .double 0] [] d8 e9) (fun d8 e9 => P l3 d8 e9))) ∧ ((¬ (d 111 (11 : Int)) = 0) → (xt_ok d ∧ yZ D 36 L [.ref 111, .int (xJ (xt_at d l3))] d e (fun d11 e12 => yB D xm_c34 (yQi L P) L 9 [.ref 111, .ref 2, .int (xJ l2), .int (xJ (l3 + 1)), .double 0] [] d11 e12) (fun d11 e12 => P l3 d11 e12)))))))))) : yB D xm_c34 (yQi L P) L 9 [.ref 111, .ref 2, .int (xJ l2), .int (xJ l3), .double 0] [] d e := by
  refine yb_iload (x := l3) rfl rfl ?_
  refine yb_iload (x := l2) rfl rfl ?_
  have r1 := h.1
  replace h := h.2
  have r2 := h.1
  replace h := h.2
  refine yb_icmp_ge (x := l3) (y := l2) rfl rfl r1 r2 (fun c => ?_) (fun c => ?_)
  · replace h := h.1 c
    refine yb_aload rfl rfl ?_
    refine yb_get (v := .int (xJ (d 2 (1 : Int)))) rfl (by decide) (by decide) (rfl) rfl ?_
    refine yb_push (v := 40) rfl ?_
    have r3 := h.1
    replace h := h.2
    refine yb_icmp_le (x := (d 2 (1 : Int))) (y := (40 : Int)) rfl rfl r3 (by decide) (fun c => ?_) (fun c => ?_)
    · replace h := h.1 c
      refine yb_aload rfl rfl ?_
      refine yb_get (v := .int (xJ (d 111 (11 : Int)))) rfl (by decide) (by decide) (rfl) rfl ?_
      have r4 := h.1
      replace h := h.2
      refine yb_if_ne (x := (d 111 (11 : Int))) rfl rfl r4 (fun c => ?_) (fun c => ?_)
      · replace h := h.1 c
        refine yb_forget (dl := [.ref 111, .ref 2, .double 0, .double 0, .double 0]) ⟨Or.inl rfl, ⟨Or.inl rfl, ⟨Or.inr ⟨rfl, rfl⟩, ⟨Or.inr ⟨rfl, rfl⟩, ⟨Or.inl rfl, trivial⟩⟩⟩⟩⟩ ?_
        exact h
      · replace h := h.2 c
        refine yb_aload rfl rfl ?_
        refine yb_get (v := .int (xJ (d 111 (9 : Int)))) rfl (by decide) (by decide) (rfl) rfl ?_
        have r5 := h.1
        replace h := h.2
        refine yb_if_le (x := (d 111 (9 : Int))) rfl rfl r5 (fun c => ?_) (fun c => ?_)
        · replace h := h.1 c
          refine yb_forget (dl := [.ref 111, .double 0, .double 0, .double 0, .double 0]) ⟨Or.inl rfl, ⟨Or.inr ⟨rfl, rfl⟩, ⟨Or.inr ⟨rfl, rfl⟩, ⟨Or.inr ⟨rfl, rfl⟩, ⟨Or.inl rfl, trivial⟩⟩⟩⟩⟩ ?_
          exact h
        · replace h := h.2 c
          refine yb_forget (dl := [.ref 111, .ref 2, .double 0, .double 0, .double 0]) ⟨Or.inl rfl, ⟨Or.inl rfl, ⟨Or.inr ⟨rfl, rfl⟩, ⟨Or.inr ⟨rfl, rfl⟩, ⟨Or.inl rfl, trivial⟩⟩⟩⟩⟩ ?_
          exact h
    · replace h := h.2 c
      refine yb_push (v := 40) rfl ?_
      exact yb_ret rfl h
  · replace h := h.2 c
    refine yb_aload rfl rfl ?_
    refine yb_get (v := .int (xJ (d 111 (11 : Int)))) rfl (by decide) (by decide) (rfl) rfl ?_
    have r6 := h.1
    replace h := h.2
    refine yb_if_eq (x := (d 111 (11 : Int))) rfl rfl r6 (fun c => ?_) (fun c => ?_)
    · replace h := h.1 c
      refine yb_aload rfl rfl ?_
      refine yb_aload rfl rfl ?_
      refine yb_iload (x := l3) rfl rfl ?_
      have r7 := h.1
      replace h := h.2
      refine yb_callVi (As := [.int (xJ l3)]) (a := 2) rfl rfl rfl rfl rfl rfl rfl rfl (by decide) (by decide) (rfl) (by show (1 : Nat) ≤ 8; decide) (sp_75 (by omega) ⟨r1, r7⟩ ?_)
      show yB D xm_c34 _ L 25 [.ref 111, .ref 2, .int (xJ l2), .int (xJ l3), .double 0] [.int (xJ (xt_at d l3)), .ref 111] d e
      refine yb_callVz (As := [.int (xJ (xt_at d l3))]) (a := 111) rfl rfl rfl rfl rfl rfl rfl rfl (by decide) (by decide) (rfl) (by decide) (yZ_mono h (fun d8 e9 h => ?_) (fun d8 e9 h => ?_))
      · refine yb_istore rfl rfl rfl ?_
        refine yb_iload (x := (1 : Int)) rfl rfl ?_
        refine yb_if_ne (x := (1 : Int)) rfl rfl (by decide) (fun _ => ?_) (fun c => absurd c (by decide))
        refine yb_iinc (x := l3) (n := 1) rfl rfl rfl rfl ?_
        refine yb_goto rfl rfl ?_
        refine yb_forget (dl := [.ref 111, .ref 2, .int (xJ l2), .int (xJ (l3 + 1)), .double 0]) ⟨Or.inl rfl, ⟨Or.inl rfl, ⟨Or.inl rfl, ⟨Or.inl rfl, ⟨Or.inr ⟨rfl, rfl⟩, trivial⟩⟩⟩⟩⟩ ?_
        exact h
      · refine yb_istore rfl rfl rfl ?_
        refine yb_iload (x := (0 : Int)) rfl rfl ?_
        refine yb_if_ne (x := (0 : Int)) rfl rfl (by decide) (fun c => absurd (by decide) c) (fun _ => ?_)
        refine yb_iload (x := l3) rfl rfl ?_
        exact yb_ret rfl h
    · replace h := h.2 c
      refine yb_aload rfl rfl ?_
      refine yb_aload rfl rfl ?_
      refine yb_iload (x := l3) rfl rfl ?_
      have r10 := h.1
      replace h := h.2
      refine yb_callVi (As := [.int (xJ l3)]) (a := 2) rfl rfl rfl rfl rfl rfl rfl rfl (by decide) (by decide) (rfl) (by show (1 : Nat) ≤ 8; decide) (sp_75 (by omega) ⟨r1, r10⟩ ?_)
      show yB D xm_c34 _ L 19 [.ref 111, .ref 2, .int (xJ l2), .int (xJ l3), .double 0] [.int (xJ (xt_at d l3)), .ref 111] d e
      refine yb_callVz (As := [.int (xJ (xt_at d l3))]) (a := 111) rfl rfl rfl rfl rfl rfl rfl rfl (by decide) (by decide) (rfl) (by decide) (yZ_mono h (fun d11 e12 h => ?_) (fun d11 e12 h => ?_))
      · refine yb_goto rfl rfl ?_
        refine yb_istore rfl rfl rfl ?_
        refine yb_iload (x := (1 : Int)) rfl rfl ?_
        refine yb_if_ne (x := (1 : Int)) rfl rfl (by decide) (fun _ => ?_) (fun c => absurd c (by decide))
        refine yb_iinc (x := l3) (n := 1) rfl rfl rfl rfl ?_
        refine yb_goto rfl rfl ?_
        refine yb_forget (dl := [.ref 111, .ref 2, .int (xJ l2), .int (xJ (l3 + 1)), .double 0]) ⟨Or.inl rfl, ⟨Or.inl rfl, ⟨Or.inl rfl, ⟨Or.inl rfl, ⟨Or.inr ⟨rfl, rfl⟩, trivial⟩⟩⟩⟩⟩ ?_
        exact h
      · refine yb_goto rfl rfl ?_
        refine yb_istore rfl rfl rfl ?_
        refine yb_iload (x := (0 : Int)) rfl rfl ?_
        refine yb_if_ne (x := (0 : Int)) rfl rfl (by decide) (fun c => absurd (by decide) c) (fun _ => ?_)
        refine yb_iload (x := l3) rfl rfl ?_
        exact yb_ret rfl h
theorem yk_34_45 {D L : Nat} {P : Int → xh_D → xd_E → Prop} {d : xh_D} {e : xd_E}    (h : ((-2147483648 ≤ (d 2 (1 : Int)) ∧ (d 2 (1 : Int)) < 2147483648) ∧ ((((d 2 (1 : Int)) ≤ 0) → yB D xm_c34 (yQi L P) L 51 [.ref 111, .double 0, .double 0, .double 0, .double 0] [] d e) ∧ ((¬ (d 2 (1 : Int)) ≤ 0) → P (d 2 (1 : Int)) d e)))) : yB D xm_c34 (yQi L P) L 45 [.ref 111, .ref 2, .double 0, .double 0, .double 0] [] d e := by
  refine yb_aload rfl rfl ?_
  refine yb_get (v := .int (xJ (d 2 (1 : Int)))) rfl (by decide) (by decide) (rfl) rfl ?_
  have r1 := h.1
  replace h := h.2
  refine yb_if_le (x := (d 2 (1 : Int))) rfl rfl r1 (fun c => ?_) (fun c => ?_)
  · replace h := h.1 c
    refine yb_forget (dl := [.ref 111, .double 0, .double 0, .double 0, .double 0]) ⟨Or.inl rfl, ⟨Or.inr ⟨rfl, rfl⟩, ⟨Or.inl rfl, ⟨Or.inl rfl, ⟨Or.inl rfl, trivial⟩⟩⟩⟩⟩ ?_
    exact h
  · replace h := h.2 c
    refine yb_aload rfl rfl ?_
    refine yb_get (v := .int (xJ (d 2 (1 : Int)))) rfl (by decide) (by decide) (rfl) rfl ?_
    exact yb_ret rfl h
theorem yk_34_51 {D L : Nat} {P : Int → xh_D → xd_E → Prop} {d : xh_D} {e : xd_E}    (h : yV D 43 L [.ref 111, .int (xJ (0 : Int))] d e (fun d1 e2 => P (-1 : Int) (xs (xcp d1 113 112 (40 : Int)) 111 (6 : Int) (d1 111 (7 : Int))) e2)) : yB D xm_c34 (yQi L P) L 51 [.ref 111, .double 0, .double 0, .double 0, .double 0] [] d e := by
  refine yb_aload rfl rfl ?_
  refine yb_push (v := 0) rfl ?_
  refine yb_callVv (As := [.int (xJ (0 : Int))]) (a := 111) rfl rfl rfl rfl rfl rfl rfl rfl (by decide) (by decide) (rfl) (by decide) (yV_mono h (fun d1 e2 h => ?_))
  refine yb_aload rfl rfl ?_
  refine yb_get (v := .ref 113) rfl (by decide) (by decide) (rfl) rfl ?_
  refine yb_push (v := 0) rfl ?_
  refine yb_aload rfl rfl ?_
  refine yb_get (v := .ref 112) rfl (by decide) (by decide) (rfl) rfl ?_
  refine yb_push (v := 0) rfl ?_
  refine yb_push (v := 40) rfl ?_
  refine yb_copyi (n := (40 : Int)) rfl (by decide) xd_A113 xd_A112 (by decide) (by decide) ?_
  refine yb_aload rfl rfl ?_
  refine yb_aload rfl rfl ?_
  refine yb_get (v := .int (xJ (d1 111 (7 : Int)))) rfl (by decide) (by decide) (rfl) rfl ?_
  refine yb_put (z := (d1 111 (7 : Int))) (k := 6) rfl rfl (by decide) (by decide) (rfl) (Nat.le_of_ble_eq_true rfl) rfl (rfl) ?_
  refine yb_push (v := (-1)) rfl ?_
  exact yb_ret rfl h
theorem yk_36_0 {D L : Nat} {P1 P0 : xh_D → xd_E → Prop} {d : xh_D} {e : xd_E} {a1 : Int}   (hD : 1 ≤ D) (h : ((-2147483648 ≤ a1 ∧ a1 < 2147483648) ∧ (((¬ a1 = (45 : Int)) → (((¬ a1 = (40 : Int)) → (((a1 < (48 : Int)) → yB D xm_c36 (yQz L P1 P0) L 29 [.ref 111, .int (xJ a1)] [] d e) ∧ ((¬ a1 < (48 : Int)) → ((((57 : Int) < a1) → yB D xm_c36 (yQz L P1 P0) L 29 [.ref 111, .int (xJ a1)] [] d e) ∧ ((¬ (57 : Int) < a1) → ((0 ≤ (d 111 (7 : Int)) ∧ (d 111 (7 : Int)) < 40) ∧ P1 (xs (xs (xs (xs d 113 (d 111 (7 : Int)) (a1 - (48 : Int))) 111 (7 : Int) ((d 111 (7 : Int)) + 1)) 111 (10 : Int) (1 : Int)) 111 (11 : Int) (0 : Int)) e)))))) ∧ ((a1 = (40 : Int)) → yZ D 37 L [.ref 111] d e (fun d3 e4 => P1 d3 e4) (fun d3 e4 => P0 d3 e4)))) ∧ ((a1 = (45 : Int)) → ((0 ≤ (d 111 (8 : Int)) ∧ (d 111 (8 : Int)) < 40) ∧ P1 (xs (xs d 114 (d 111 (8 : Int)) (256 : Int)) 111 (8 : Int) ((d 111 (8 : Int)) + 1)) e))))) : yB D xm_c36 (yQz L P1 P0) L 0 [.ref 111, .int (xJ a1)] [] d e := by
  refine yb_iload (x := a1) rfl rfl ?_
  refine yb_push (v := 45) rfl ?_
  have r1 := h.1
  replace h := h.2
  refine yb_icmp_ne (x := a1) (y := (45 : Int)) rfl rfl r1 (by decide) (fun c => ?_) (fun c => ?_)
  · replace h := h.1 c
    refine yb_iload (x := a1) rfl rfl ?_
    refine yb_push (v := 40) rfl ?_
    refine yb_icmp_ne (x := a1) (y := (40 : Int)) rfl rfl r1 (by decide) (fun c => ?_) (fun c => ?_)
    · replace h := h.1 c
      refine yb_iload (x := a1) rfl rfl ?_
      refine yb_push (v := 48) rfl ?_
      refine yb_icmp_lt (x := a1) (y := (48 : Int)) rfl rfl r1 (by decide) (fun c => ?_) (fun c => ?_)
      · replace h := h.1 c
        exact h
      · replace h := h.2 c
        refine yb_iload (x := a1) rfl rfl ?_
        refine yb_push (v := 57) rfl ?_
        refine yb_icmp_gt (x := a1) (y := (57 : Int)) rfl rfl r1 (by decide) (fun c => ?_) (fun c => ?_)
        · replace h := h.1 c
          exact h
        · replace h := h.2 c
          refine yb_aload rfl rfl ?_
          refine yb_iload (x := a1) rfl rfl ?_
          refine yb_push (v := 48) rfl ?_
          refine yb_isub (x := a1) (y := (48 : Int)) rfl ?_
          have r2 := h.1
          replace h := h.2
          refine yb_callVv (As := [.int (xJ (a1 - (48 : Int)))]) (a := 111) rfl rfl rfl rfl rfl rfl rfl rfl (by decide) (by decide) (rfl) (by decide) (sp_41 (by omega) r2 ?_)
          show yB D xm_c36 _ L 25 [.ref 111, .int (xJ a1)] [] (xs (xs d 113 (d 111 (7 : Int)) (a1 - (48 : Int))) 111 (7 : Int) ((d 111 (7 : Int)) + 1)) e
          refine yb_aload rfl rfl ?_
          refine yb_push (v := 1) rfl ?_
          refine yb_put (z := (1 : Int)) (k := 10) rfl rfl (by decide) (by decide) (rfl) (Nat.le_of_ble_eq_true rfl) rfl (rfl) ?_
          refine yb_goto rfl rfl ?_
          refine yb_aload rfl rfl ?_
          refine yb_push (v := 0) rfl ?_
          refine yb_put (z := (0 : Int)) (k := 11) rfl rfl (by decide) (by decide) (rfl) (Nat.le_of_ble_eq_true rfl) (by decide) (rfl) ?_
          refine yb_push (v := 1) rfl ?_
          exact yb_ret1 rfl h
    · replace h := h.2 c
      refine yb_aload rfl rfl ?_
      refine yb_callVz (As := []) (a := 111) rfl rfl rfl rfl rfl rfl rfl rfl (by decide) (by decide) (rfl) (by decide) (yZ_mono h (fun d3 e4 h => ?_) (fun d3 e4 h => ?_))
      · exact yb_ret1 rfl h
      · exact yb_ret0 rfl h
  · replace h := h.2 c
    refine yb_aload rfl rfl ?_
    refine yb_push (v := 256) rfl ?_
    have r5 := h.1
    replace h := h.2
    refine yb_callVv (As := [.int (xJ (256 : Int))]) (a := 111) rfl rfl rfl rfl rfl rfl rfl rfl (by decide) (by decide) (rfl) (by decide) (sp_42 (by omega) r5 ?_)
    show yB D xm_c36 _ L 6 [.ref 111, .int (xJ a1)] [] (xs (xs d 114 (d 111 (8 : Int)) (256 : Int)) 111 (8 : Int) ((d 111 (8 : Int)) + 1)) e
    refine yb_push (v := 1) rfl ?_
    exact yb_ret1 rfl h
theorem yk_36_29 {D L : Nat} {P1 P0 : xh_D → xd_E → Prop} {d : xh_D} {e : xd_E}  {l1 : Int}  (hD : 1 ≤ D) (h : ((-2147483648 ≤ l1 ∧ l1 < 2147483648) ∧ ((((xp_thg l1) = (-1 : Int)) → P0 d e) ∧ ((¬ (xp_thg l1) = (-1 : Int)) → ((0 ≤ (d 111 (7 : Int)) ∧ (d 111 (7 : Int)) < 40) ∧ P1 (xs (xs (xs (xs d 113 (d 111 (7 : Int)) ((-1 : Int) - (xp_thg l1))) 111 (7 : Int) ((d 111 (7 : Int)) + 1)) 111 (10 : Int) (0 : Int)) 111 (11 : Int) (0 : Int)) e))))) : yB D xm_c36 (yQz L P1 P0) L 29 [.ref 111, .int (xJ l1)] [] d e := by
  refine yb_iload (x := l1) rfl rfl ?_
  have r1 := h.1
  replace h := h.2
  refine yb_callSi (As := [.int (xJ l1)]) rfl rfl rfl rfl rfl rfl rfl rfl (by decide) (sp_45 (by omega) r1 ?_)
  show yB D xm_c36 _ L 31 [.ref 111, .int (xJ l1)] [.int (xJ (xp_thg l1))] d e
  refine yb_push (v := (-1)) rfl ?_
  refine yb_icmp_eq (x := (xp_thg l1)) (y := (-1 : Int)) rfl rfl (xp_thg_r _) (by decide) (fun c => ?_) (fun c => ?_)
  · replace h := h.1 c
    refine yb_push (v := 0) rfl ?_
    exact yb_ret0 rfl h
  · replace h := h.2 c
    refine yb_aload rfl rfl ?_
    refine yb_push (v := (-1)) rfl ?_
    refine yb_iload (x := l1) rfl rfl ?_
    refine yb_callSi (As := [.int (xJ l1)]) rfl rfl rfl rfl rfl rfl rfl rfl (by show (2 : Nat) ≤ 8; decide) (sp_45 (by omega) r1 ?_)
    show yB D xm_c36 _ L 37 [.ref 111, .int (xJ l1)] [.int (xJ (xp_thg l1)), .int (xJ (-1 : Int)), .ref 111] d e
    refine yb_isub (x := (-1 : Int)) (y := (xp_thg l1)) rfl ?_
    have r2 := h.1
    replace h := h.2
    refine yb_callVv (As := [.int (xJ ((-1 : Int) - (xp_thg l1)))]) (a := 111) rfl rfl rfl rfl rfl rfl rfl rfl (by decide) (by decide) (rfl) (by decide) (sp_41 (by omega) r2 ?_)
    show yB D xm_c36 _ L 39 [.ref 111, .int (xJ l1)] [] (xs (xs d 113 (d 111 (7 : Int)) ((-1 : Int) - (xp_thg l1))) 111 (7 : Int) ((d 111 (7 : Int)) + 1)) e
    refine yb_aload rfl rfl ?_
    refine yb_push (v := 0) rfl ?_
    refine yb_put (z := (0 : Int)) (k := 10) rfl rfl (by decide) (by decide) (rfl) (Nat.le_of_ble_eq_true rfl) rfl (rfl) ?_
    refine yb_goto rfl rfl ?_
    refine yb_aload rfl rfl ?_
    refine yb_push (v := 0) rfl ?_
    refine yb_put (z := (0 : Int)) (k := 11) rfl rfl (by decide) (by decide) (rfl) (Nat.le_of_ble_eq_true rfl) (by decide) (rfl) ?_
    refine yb_push (v := 1) rfl ?_
    exact yb_ret1 rfl h
theorem yk_37_0 {D L : Nat} {P1 P0 : xh_D → xd_E → Prop} {d : xh_D} {e : xd_E}    (hD : 1 ≤ D) (h : ((-2147483648 ≤ (d 111 (9 : Int)) ∧ (d 111 (9 : Int)) < 2147483648) ∧ (((¬ (d 111 (9 : Int)) = (4 : Int)) → ((0 ≤ (d 111 (8 : Int)) ∧ (d 111 (8 : Int)) < 40) ∧ ((0 ≤ ((d 111 (9 : Int)) + (1 : Int)) ∧ ((d 111 (9 : Int)) + (1 : Int)) < 5) ∧ P1 (xs (xs (xs (xs d 114 (d 111 (8 : Int)) (40 : Int)) 111 (8 : Int) ((d 111 (8 : Int)) + 1)) 111 (9 : Int) ((d 111 (9 : Int)) + (1 : Int))) 117 ((d 111 (9 : Int)) + (1 : Int)) (0 : Int)) e))) ∧ (((d 111 (9 : Int)) = (4 : Int)) → P0 d e)))) : yB D xm_c37 (yQz L P1 P0) L 0 [.ref 111] [] d e := by
  refine yb_aload rfl rfl ?_
  refine yb_get (v := .int (xJ (d 111 (9 : Int)))) rfl (by decide) (by decide) (rfl) rfl ?_
  refine yb_push (v := 4) rfl ?_
  have r1 := h.1
  replace h := h.2
  refine yb_icmp_ne (x := (d 111 (9 : Int))) (y := (4 : Int)) rfl rfl r1 (by decide) (fun c => ?_) (fun c => ?_)
  · replace h := h.1 c
    refine yb_aload rfl rfl ?_
    refine yb_push (v := 40) rfl ?_
    have r2 := h.1
    replace h := h.2
    refine yb_callVv (As := [.int (xJ (40 : Int))]) (a := 111) rfl rfl rfl rfl rfl rfl rfl rfl (by decide) (by decide) (rfl) (by decide) (sp_42 (by omega) r2 ?_)
    show yB D xm_c37 _ L 9 [.ref 111] [] (xs (xs d 114 (d 111 (8 : Int)) (40 : Int)) 111 (8 : Int) ((d 111 (8 : Int)) + 1)) e
    refine yb_aload rfl rfl ?_
    refine yb_dup rfl rfl ?_
    refine yb_get (v := .int (xJ (d 111 (9 : Int)))) rfl (by decide) (by decide) (rfl) rfl ?_
    refine yb_push (v := 1) rfl ?_
    refine yb_iadd (x := (d 111 (9 : Int))) (y := (1 : Int)) rfl ?_
    refine yb_put (z := ((d 111 (9 : Int)) + (1 : Int))) (k := 9) rfl rfl (by decide) (by decide) (rfl) (Nat.le_of_ble_eq_true rfl) rfl (rfl) ?_
    refine yb_aload rfl rfl ?_
    refine yb_get (v := .ref 117) rfl (by decide) (by decide) (rfl) rfl ?_
    refine yb_aload rfl rfl ?_
    refine yb_get (v := .int (xJ ((d 111 (9 : Int)) + (1 : Int)))) rfl (by decide) (by decide) (rfl) rfl ?_
    refine yb_push (v := 0) rfl ?_
    have r3 := h.1
    replace h := h.2
    refine yb_bast (j := ((d 111 (9 : Int)) + (1 : Int))) (x := (0 : Int)) rfl (Or.inr ⟨rfl, by decide⟩) xd_A117 r3 ?_
    refine yb_push (v := 1) rfl ?_
    exact yb_ret1 rfl h
  · replace h := h.2 c
    refine yb_push (v := 0) rfl ?_
    exact yb_ret0 rfl h
theorem yk_38_0 {D L : Nat} {P1 P0 : xh_D → xd_E → Prop} {d : xh_D} {e : xd_E} {a1 : Int}   (h : ((-2147483648 ≤ a1 ∧ a1 < 2147483648) ∧ (((a1 < (48 : Int)) → yB D xm_c38 (yQz L P1 P0) L 12 [.ref 111, .int (xJ a1), .double 0] [] d e) ∧ ((¬ a1 < (48 : Int)) → ((((57 : Int) < a1) → yB D xm_c38 (yQz L P1 P0) L 12 [.ref 111, .int (xJ a1), .double 0] [] d e) ∧ ((¬ (57 : Int) < a1) → yZ D 39 L [.ref 111, .int (xJ (a1 - (48 : Int)))] d e (fun d2 e3 => P1 d2 e3) (fun d2 e3 => P0 d2 e3))))))) : yB D xm_c38 (yQz L P1 P0) L 0 [.ref 111, .int (xJ a1), .double 0] [] d e := by
  refine yb_iload (x := a1) rfl rfl ?_
  refine yb_push (v := 48) rfl ?_
  have r1 := h.1
  replace h := h.2
  refine yb_icmp_lt (x := a1) (y := (48 : Int)) rfl rfl r1 (by decide) (fun c => ?_) (fun c => ?_)
  · replace h := h.1 c
    exact h
  · replace h := h.2 c
    refine yb_iload (x := a1) rfl rfl ?_
    refine yb_push (v := 57) rfl ?_
    refine yb_icmp_gt (x := a1) (y := (57 : Int)) rfl rfl r1 (by decide) (fun c => ?_) (fun c => ?_)
    · replace h := h.1 c
      exact h
    · replace h := h.2 c
      refine yb_aload rfl rfl ?_
      refine yb_iload (x := a1) rfl rfl ?_
      refine yb_push (v := 48) rfl ?_
      refine yb_isub (x := a1) (y := (48 : Int)) rfl ?_
      refine yb_callVz (As := [.int (xJ (a1 - (48 : Int)))]) (a := 111) rfl rfl rfl rfl rfl rfl rfl rfl (by decide) (by decide) (rfl) (by decide) (yZ_mono h (fun d2 e3 h => ?_) (fun d2 e3 h => ?_))
      · exact yb_ret1 rfl h
      · exact yb_ret0 rfl h
theorem yk_38_12 {D L : Nat} {P1 P0 : xh_D → xd_E → Prop} {d : xh_D} {e : xd_E}  {l1 : Int}  (hD : 1 ≤ D) (h : ((-2147483648 ≤ l1 ∧ l1 < 2147483648) ∧ (((¬ l1 = (41 : Int)) → ((((xp_str l1) = 0) → P0 d e) ∧ ((¬ (xp_str l1) = 0) → (((¬ (xp_str l1) = (1 : Int)) → yB D xm_c38 (yQz L P1 P0) L 34 [.ref 111, .int (xJ l1), .int (xJ (xp_str l1))] [] d e) ∧ (((xp_str l1) = (1 : Int)) → ((0 ≤ (d 111 (9 : Int)) ∧ (d 111 (9 : Int)) < 5) ∧ ((-2147483648 ≤ (d 117 (d 111 (9 : Int))) ∧ (d 117 (d 111 (9 : Int))) < 2147483648) ∧ ((((d 117 (d 111 (9 : Int))) = 0) → yB D xm_c38 (yQz L P1 P0) L 34 [.ref 111, .int (xJ l1), .int (xJ (xp_str l1))] [] d e) ∧ ((¬ (d 117 (d 111 (9 : Int))) = 0) → P0 d e))))))))) ∧ ((l1 = (41 : Int)) → yZ D 40 L [.ref 111] d e (fun d4 e5 => P1 d4 e5) (fun d4 e5 => P0 d4 e5))))) : yB D xm_c38 (yQz L P1 P0) L 12 [.ref 111, .int (xJ l1), .double 0] [] d e := by
  refine yb_iload (x := l1) rfl rfl ?_
  refine yb_push (v := 41) rfl ?_
  have r1 := h.1
  replace h := h.2
  refine yb_icmp_ne (x := l1) (y := (41 : Int)) rfl rfl r1 (by decide) (fun c => ?_) (fun c => ?_)
  · replace h := h.1 c
    refine yb_iload (x := l1) rfl rfl ?_
    refine yb_callSi (As := [.int (xJ l1)]) rfl rfl rfl rfl rfl rfl rfl rfl (by decide) (sp_44 (by omega) r1 ?_)
    show yB D xm_c38 _ L 20 [.ref 111, .int (xJ l1), .double 0] [.int (xJ (xp_str l1))] d e
    refine yb_istore rfl rfl rfl ?_
    refine yb_iload (x := (xp_str l1)) rfl rfl ?_
    refine yb_if_eq (x := (xp_str l1)) rfl rfl (xp_str_r _) (fun c => ?_) (fun c => ?_)
    · replace h := h.1 c
      refine yb_push (v := 0) rfl ?_
      exact yb_ret0 rfl h
    · replace h := h.2 c
      refine yb_iload (x := (xp_str l1)) rfl rfl ?_
      refine yb_push (v := 1) rfl ?_
      refine yb_icmp_ne (x := (xp_str l1)) (y := (1 : Int)) rfl rfl (xp_str_r _) (by decide) (fun c => ?_) (fun c => ?_)
      · replace h := h.1 c
        exact h
      · replace h := h.2 c
        refine yb_aload rfl rfl ?_
        refine yb_get (v := .ref 117) rfl (by decide) (by decide) (rfl) rfl ?_
        refine yb_aload rfl rfl ?_
        refine yb_get (v := .int (xJ (d 111 (9 : Int)))) rfl (by decide) (by decide) (rfl) rfl ?_
        have r2 := h.1
        replace h := h.2
        refine yb_bald (j := (d 111 (9 : Int))) rfl (by decide) xd_A117 r2 (v := (d 117 (d 111 (9 : Int)))) rfl ?_
        have r3 := h.1
        replace h := h.2
        refine yb_if_eq (x := (d 117 (d 111 (9 : Int)))) rfl rfl r3 (fun c => ?_) (fun c => ?_)
        · replace h := h.1 c
          exact h
        · replace h := h.2 c
          refine yb_push (v := 0) rfl ?_
          exact yb_ret0 rfl h
  · replace h := h.2 c
    refine yb_aload rfl rfl ?_
    refine yb_callVz (As := []) (a := 111) rfl rfl rfl rfl rfl rfl rfl rfl (by decide) (by decide) (rfl) (by decide) (yZ_mono h (fun d4 e5 h => ?_) (fun d4 e5 h => ?_))
    · exact yb_ret1 rfl h
    · exact yb_ret0 rfl h
theorem yk_38_34 {D L : Nat} {P1 P0 : xh_D → xd_E → Prop} {d : xh_D} {e : xd_E}  {l1 : Int} {l2 : Int}  (hD : 1 ≤ D) (h : ((-2147483648 ≤ l2 ∧ l2 < 2147483648) ∧ (((¬ l2 = (1 : Int)) → yV D 43 L [.ref 111, .int (xJ l2)] d e (fun d2 e3 => ((0 ≤ (d2 111 (8 : Int)) ∧ (d2 111 (8 : Int)) < 40) ∧ P1 (xs (xs (xs d2 114 (d2 111 (8 : Int)) l1) 111 (8 : Int) ((d2 111 (8 : Int)) + 1)) 111 (11 : Int) (1 : Int)) e3))) ∧ ((l2 = (1 : Int)) → ((0 ≤ (d 111 (9 : Int)) ∧ (d 111 (9 : Int)) < 5) ∧ yV D 43 L [.ref 111, .int (xJ l2)] (xs d 117 (d 111 (9 : Int)) (1 : Int)) e (fun d6 e7 => ((0 ≤ (d6 111 (8 : Int)) ∧ (d6 111 (8 : Int)) < 40) ∧ P1 (xs (xs (xs d6 114 (d6 111 (8 : Int)) l1) 111 (8 : Int) ((d6 111 (8 : Int)) + 1)) 111 (11 : Int) (1 : Int)) e7))))))) : yB D xm_c38 (yQz L P1 P0) L 34 [.ref 111, .int (xJ l1), .int (xJ l2)] [] d e := by
  refine yb_iload (x := l2) rfl rfl ?_
  refine yb_push (v := 1) rfl ?_
  have r1 := h.1
  replace h := h.2
  refine yb_icmp_ne (x := l2) (y := (1 : Int)) rfl rfl r1 (by decide) (fun c => ?_) (fun c => ?_)
  · replace h := h.1 c
    refine yb_aload rfl rfl ?_
    refine yb_iload (x := l2) rfl rfl ?_
    refine yb_callVv (As := [.int (xJ l2)]) (a := 111) rfl rfl rfl rfl rfl rfl rfl rfl (by decide) (by decide) (rfl) (by decide) (yV_mono h (fun d2 e3 h => ?_))
    refine yb_aload rfl rfl ?_
    refine yb_iload (x := l1) rfl rfl ?_
    have r4 := h.1
    replace h := h.2
    refine yb_callVv (As := [.int (xJ l1)]) (a := 111) rfl rfl rfl rfl rfl rfl rfl rfl (by decide) (by decide) (rfl) (by decide) (sp_42 (by omega) r4 ?_)
    show yB D xm_c38 _ L 49 [.ref 111, .int (xJ l1), .int (xJ l2)] [] (xs (xs d2 114 (d2 111 (8 : Int)) l1) 111 (8 : Int) ((d2 111 (8 : Int)) + 1)) e3
    refine yb_aload rfl rfl ?_
    refine yb_push (v := 1) rfl ?_
    refine yb_put (z := (1 : Int)) (k := 11) rfl rfl (by decide) (by decide) (rfl) (Nat.le_of_ble_eq_true rfl) (by decide) (rfl) ?_
    refine yb_push (v := 1) rfl ?_
    exact yb_ret1 rfl h
  · replace h := h.2 c
    refine yb_aload rfl rfl ?_
    refine yb_get (v := .ref 117) rfl (by decide) (by decide) (rfl) rfl ?_
    refine yb_aload rfl rfl ?_
    refine yb_get (v := .int (xJ (d 111 (9 : Int)))) rfl (by decide) (by decide) (rfl) rfl ?_
    refine yb_push (v := 1) rfl ?_
    have r5 := h.1
    replace h := h.2
    refine yb_bast (j := (d 111 (9 : Int))) (x := (1 : Int)) rfl (Or.inr ⟨rfl, by decide⟩) xd_A117 r5 ?_
    refine yb_aload rfl rfl ?_
    refine yb_iload (x := l2) rfl rfl ?_
    refine yb_callVv (As := [.int (xJ l2)]) (a := 111) rfl rfl rfl rfl rfl rfl rfl rfl (by decide) (by decide) (rfl) (by decide) (yV_mono h (fun d6 e7 h => ?_))
    refine yb_aload rfl rfl ?_
    refine yb_iload (x := l1) rfl rfl ?_
    have r8 := h.1
    replace h := h.2
    refine yb_callVv (As := [.int (xJ l1)]) (a := 111) rfl rfl rfl rfl rfl rfl rfl rfl (by decide) (by decide) (rfl) (by decide) (sp_42 (by omega) r8 ?_)
    show yB D xm_c38 _ L 49 [.ref 111, .int (xJ l1), .int (xJ l2)] [] (xs (xs d6 114 (d6 111 (8 : Int)) l1) 111 (8 : Int) ((d6 111 (8 : Int)) + 1)) e7
    refine yb_aload rfl rfl ?_
    refine yb_push (v := 1) rfl ?_
    refine yb_put (z := (1 : Int)) (k := 11) rfl rfl (by decide) (by decide) (rfl) (Nat.le_of_ble_eq_true rfl) (by decide) (rfl) ?_
    refine yb_push (v := 1) rfl ?_
    exact yb_ret1 rfl h
theorem yk_39_0 {D L : Nat} {P1 P0 : xh_D → xd_E → Prop} {d : xh_D} {e : xd_E} {a1 : Int}   (h : ((-2147483648 ≤ (d 111 (10 : Int)) ∧ (d 111 (10 : Int)) < 2147483648) ∧ ((((d 111 (10 : Int)) = 0) → P0 d e) ∧ ((¬ (d 111 (10 : Int)) = 0) → ((((d 111 (10 : Int)) = (3 : Int)) → P0 d e) ∧ ((¬ (d 111 (10 : Int)) = (3 : Int)) → ((-2147483648 ≤ (d 111 (7 : Int)) ∧ (d 111 (7 : Int)) < 2147483648) ∧ (((¬ (d 111 (7 : Int)) = 0) → ((0 ≤ ((d 111 (7 : Int)) - (1 : Int)) ∧ ((d 111 (7 : Int)) - (1 : Int)) < 40) ∧ P1 (xs (xs d 113 ((d 111 (7 : Int)) - (1 : Int)) (((d 113 ((d 111 (7 : Int)) - (1 : Int))) * (10 : Int)) + a1)) 111 (10 : Int) ((d 111 (10 : Int)) + (1 : Int))) e)) ∧ (((d 111 (7 : Int)) = 0) → P0 d e))))))))) : yB D xm_c39 (yQz L P1 P0) L 0 [.ref 111, .int (xJ a1)] [] d e := by
  refine yb_aload rfl rfl ?_
  refine yb_get (v := .int (xJ (d 111 (10 : Int)))) rfl (by decide) (by decide) (rfl) rfl ?_
  have r1 := h.1
  replace h := h.2
  refine yb_if_eq (x := (d 111 (10 : Int))) rfl rfl r1 (fun c => ?_) (fun c => ?_)
  · replace h := h.1 c
    refine yb_push (v := 0) rfl ?_
    exact yb_ret0 rfl h
  · replace h := h.2 c
    refine yb_aload rfl rfl ?_
    refine yb_get (v := .int (xJ (d 111 (10 : Int)))) rfl (by decide) (by decide) (rfl) rfl ?_
    refine yb_push (v := 3) rfl ?_
    refine yb_icmp_eq (x := (d 111 (10 : Int))) (y := (3 : Int)) rfl rfl r1 (by decide) (fun c => ?_) (fun c => ?_)
    · replace h := h.1 c
      refine yb_push (v := 0) rfl ?_
      exact yb_ret0 rfl h
    · replace h := h.2 c
      refine yb_aload rfl rfl ?_
      refine yb_get (v := .int (xJ (d 111 (7 : Int)))) rfl (by decide) (by decide) (rfl) rfl ?_
      have r2 := h.1
      replace h := h.2
      refine yb_if_ne (x := (d 111 (7 : Int))) rfl rfl r2 (fun c => ?_) (fun c => ?_)
      · replace h := h.1 c
        refine yb_aload rfl rfl ?_
        refine yb_get (v := .ref 113) rfl (by decide) (by decide) (rfl) rfl ?_
        refine yb_aload rfl rfl ?_
        refine yb_get (v := .int (xJ (d 111 (7 : Int)))) rfl (by decide) (by decide) (rfl) rfl ?_
        refine yb_push (v := 1) rfl ?_
        refine yb_isub (x := (d 111 (7 : Int))) (y := (1 : Int)) rfl ?_
        refine yb_aload rfl rfl ?_
        refine yb_get (v := .ref 113) rfl (by decide) (by decide) (rfl) rfl ?_
        refine yb_aload rfl rfl ?_
        refine yb_get (v := .int (xJ (d 111 (7 : Int)))) rfl (by decide) (by decide) (rfl) rfl ?_
        refine yb_push (v := 1) rfl ?_
        refine yb_isub (x := (d 111 (7 : Int))) (y := (1 : Int)) rfl ?_
        have r3 := h.1
        replace h := h.2
        refine yb_iald (j := ((d 111 (7 : Int)) - (1 : Int))) rfl xd_A113 (by decide) r3 (v := (d 113 ((d 111 (7 : Int)) - (1 : Int)))) rfl ?_
        refine yb_push (v := 10) rfl ?_
        refine yb_imul (x := (d 113 ((d 111 (7 : Int)) - (1 : Int)))) (y := (10 : Int)) rfl ?_
        refine yb_iload (x := a1) rfl rfl ?_
        refine yb_iadd (x := ((d 113 ((d 111 (7 : Int)) - (1 : Int))) * (10 : Int))) (y := a1) rfl ?_
        refine yb_iast (j := ((d 111 (7 : Int)) - (1 : Int))) (x := (((d 113 ((d 111 (7 : Int)) - (1 : Int))) * (10 : Int)) + a1)) rfl xd_A113 (by decide) r3 ?_
        refine yb_aload rfl rfl ?_
        refine yb_dup rfl rfl ?_
        refine yb_get (v := .int (xJ (d 111 (10 : Int)))) rfl (by decide) (by decide) (rfl) rfl ?_
        refine yb_push (v := 1) rfl ?_
        refine yb_iadd (x := (d 111 (10 : Int))) (y := (1 : Int)) rfl ?_
        refine yb_put (z := ((d 111 (10 : Int)) + (1 : Int))) (k := 10) rfl rfl (by decide) (by decide) (rfl) (Nat.le_of_ble_eq_true rfl) rfl (rfl) ?_
        refine yb_push (v := 1) rfl ?_
        exact yb_ret1 rfl h
      · replace h := h.2 c
        refine yb_push (v := 0) rfl ?_
        exact yb_ret0 rfl h
theorem yk_40_0 {D L : Nat} {P1 P0 : xh_D → xd_E → Prop} {d : xh_D} {e : xd_E}    (hD : 1 ≤ D) (h : ((-2147483648 ≤ (d 111 (9 : Int)) ∧ (d 111 (9 : Int)) < 2147483648) ∧ (((¬ (d 111 (9 : Int)) = 0) → yV D 43 L [.ref 111, .int (xJ (0 : Int))] d e (fun d2 e3 => ((-2147483648 ≤ ((d2 111 (8 : Int)) - (1 : Int)) ∧ ((d2 111 (8 : Int)) - (1 : Int)) < 2147483648) ∧ P1 (xs (xs (xs d2 111 (8 : Int) (max (0 : Int) ((d2 111 (8 : Int)) - (1 : Int)))) 111 (9 : Int) ((d2 111 (9 : Int)) - (1 : Int))) 111 (10 : Int) (0 : Int)) e3))) ∧ (((d 111 (9 : Int)) = 0) → P0 d e)))) : yB D xm_c40 (yQz L P1 P0) L 0 [.ref 111] [] d e := by
  refine yb_aload rfl rfl ?_
  refine yb_get (v := .int (xJ (d 111 (9 : Int)))) rfl (by decide) (by decide) (rfl) rfl ?_
  have r1 := h.1
  replace h := h.2
  refine yb_if_ne (x := (d 111 (9 : Int))) rfl rfl r1 (fun c => ?_) (fun c => ?_)
  · replace h := h.1 c
    refine yb_aload rfl rfl ?_
    refine yb_push (v := 0) rfl ?_
    refine yb_callVv (As := [.int (xJ (0 : Int))]) (a := 111) rfl rfl rfl rfl rfl rfl rfl rfl (by decide) (by decide) (rfl) (by decide) (yV_mono h (fun d2 e3 h => ?_))
    refine yb_aload rfl rfl ?_
    refine yb_push (v := 0) rfl ?_
    refine yb_aload rfl rfl ?_
    refine yb_get (v := .int (xJ (d2 111 (8 : Int)))) rfl (by decide) (by decide) (rfl) rfl ?_
    refine yb_push (v := 1) rfl ?_
    refine yb_isub (x := (d2 111 (8 : Int))) (y := (1 : Int)) rfl ?_
    have r4 := h.1
    replace h := h.2
    refine yb_callSi (As := [.int (xJ (0 : Int)), .int (xJ ((d2 111 (8 : Int)) - (1 : Int)))]) rfl rfl rfl rfl rfl rfl rfl rfl (by show (1 : Nat) ≤ 8; decide) (sp_4 (by omega) ⟨(by show (-2147483648 ≤ (0 : Int) ∧ (0 : Int) < 2147483648); decide), r4⟩ ?_)
    show yB D xm_c40 _ L 15 [.ref 111] [.int (xJ (max (0 : Int) ((d2 111 (8 : Int)) - (1 : Int)))), .ref 111] d2 e3
    refine yb_put (z := (max (0 : Int) ((d2 111 (8 : Int)) - (1 : Int)))) (k := 8) rfl rfl (by decide) (by decide) (rfl) (Nat.le_of_ble_eq_true rfl) rfl (rfl) ?_
    refine yb_aload rfl rfl ?_
    refine yb_dup rfl rfl ?_
    refine yb_get (v := .int (xJ (d2 111 (9 : Int)))) rfl (by decide) (by decide) (rfl) rfl ?_
    refine yb_push (v := 1) rfl ?_
    refine yb_isub (x := (d2 111 (9 : Int))) (y := (1 : Int)) rfl ?_
    refine yb_put (z := ((d2 111 (9 : Int)) - (1 : Int))) (k := 9) rfl rfl (by decide) (by decide) (rfl) (Nat.le_of_ble_eq_true rfl) rfl (rfl) ?_
    refine yb_aload rfl rfl ?_
    refine yb_push (v := 0) rfl ?_
    refine yb_put (z := (0 : Int)) (k := 10) rfl rfl (by decide) (by decide) (rfl) (Nat.le_of_ble_eq_true rfl) rfl (rfl) ?_
    refine yb_push (v := 1) rfl ?_
    exact yb_ret1 rfl h
  · replace h := h.2 c
    refine yb_push (v := 0) rfl ?_
    exact yb_ret0 rfl h
theorem yk_43_0 {D L : Nat} {P : xh_D → xd_E → Prop} {d : xh_D} {e : xd_E} {a1 : Int}   (hD : 1 ≤ D) (h : ((-2147483648 ≤ (d 111 (8 : Int)) ∧ (d 111 (8 : Int)) < 2147483648) ∧ ((((d 111 (8 : Int)) ≤ 0) → P d e) ∧ ((¬ (d 111 (8 : Int)) ≤ 0) → ((0 ≤ ((d 111 (8 : Int)) - (1 : Int)) ∧ ((d 111 (8 : Int)) - (1 : Int)) < 40) ∧ ((-2147483648 ≤ (d 114 ((d 111 (8 : Int)) - (1 : Int))) ∧ (d 114 ((d 111 (8 : Int)) - (1 : Int))) < 2147483648) ∧ ((((d 114 ((d 111 (8 : Int)) - (1 : Int))) = (40 : Int)) → P d e) ∧ ((¬ (d 114 ((d 111 (8 : Int)) - (1 : Int))) = (40 : Int)) → ((-2147483648 ≤ a1 ∧ a1 < 2147483648) ∧ ((((xp_str (d 114 ((d 111 (8 : Int)) - (1 : Int)))) < a1) → P d e) ∧ ((¬ (xp_str (d 114 ((d 111 (8 : Int)) - (1 : Int)))) < a1) → ((0 ≤ (d 111 (7 : Int)) ∧ (d 111 (7 : Int)) < 40) ∧ yB D xm_c43 (yQv L P) L 0 [.ref 111, .int (xJ a1)] [] (xs (xs (xs d 111 (8 : Int) ((d 111 (8 : Int)) - (1 : Int))) 113 (d 111 (7 : Int)) (-(d 114 ((d 111 (8 : Int)) - (1 : Int))))) 111 (7 : Int) ((d 111 (7 : Int)) + 1)) e)))))))))))) : yB D xm_c43 (yQv L P) L 0 [.ref 111, .int (xJ a1)] [] d e := by
  refine yb_aload rfl rfl ?_
  refine yb_get (v := .int (xJ (d 111 (8 : Int)))) rfl (by decide) (by decide) (rfl) rfl ?_
  have r1 := h.1
  replace h := h.2
  refine yb_if_le (x := (d 111 (8 : Int))) rfl rfl r1 (fun c => ?_) (fun c => ?_)
  · replace h := h.1 c
    exact yb_retv rfl h
  · replace h := h.2 c
    refine yb_aload rfl rfl ?_
    refine yb_get (v := .ref 114) rfl (by decide) (by decide) (rfl) rfl ?_
    refine yb_aload rfl rfl ?_
    refine yb_get (v := .int (xJ (d 111 (8 : Int)))) rfl (by decide) (by decide) (rfl) rfl ?_
    refine yb_push (v := 1) rfl ?_
    refine yb_isub (x := (d 111 (8 : Int))) (y := (1 : Int)) rfl ?_
    have r2 := h.1
    replace h := h.2
    refine yb_iald (j := ((d 111 (8 : Int)) - (1 : Int))) rfl xd_A114 (by decide) r2 (v := (d 114 ((d 111 (8 : Int)) - (1 : Int)))) rfl ?_
    refine yb_push (v := 40) rfl ?_
    have r3 := h.1
    replace h := h.2
    refine yb_icmp_eq (x := (d 114 ((d 111 (8 : Int)) - (1 : Int)))) (y := (40 : Int)) rfl rfl r3 (by decide) (fun c => ?_) (fun c => ?_)
    · replace h := h.1 c
      exact yb_retv rfl h
    · replace h := h.2 c
      refine yb_aload rfl rfl ?_
      refine yb_get (v := .ref 114) rfl (by decide) (by decide) (rfl) rfl ?_
      refine yb_aload rfl rfl ?_
      refine yb_get (v := .int (xJ (d 111 (8 : Int)))) rfl (by decide) (by decide) (rfl) rfl ?_
      refine yb_push (v := 1) rfl ?_
      refine yb_isub (x := (d 111 (8 : Int))) (y := (1 : Int)) rfl ?_
      refine yb_iald (j := ((d 111 (8 : Int)) - (1 : Int))) rfl xd_A114 (by decide) r2 (v := (d 114 ((d 111 (8 : Int)) - (1 : Int)))) rfl ?_
      refine yb_callSi (As := [.int (xJ (d 114 ((d 111 (8 : Int)) - (1 : Int))))]) rfl rfl rfl rfl rfl rfl rfl rfl (by decide) (sp_44 (by omega) r3 ?_)
      show yB D xm_c43 _ L 20 [.ref 111, .int (xJ a1)] [.int (xJ (xp_str (d 114 ((d 111 (8 : Int)) - (1 : Int)))))] d e
      refine yb_iload (x := a1) rfl rfl ?_
      have r4 := h.1
      replace h := h.2
      refine yb_icmp_lt (x := (xp_str (d 114 ((d 111 (8 : Int)) - (1 : Int))))) (y := a1) rfl rfl (xp_str_r _) r4 (fun c => ?_) (fun c => ?_)
      · replace h := h.1 c
        exact yb_retv rfl h
      · replace h := h.2 c
        refine yb_aload rfl rfl ?_
        refine yb_dup rfl rfl ?_
        refine yb_get (v := .int (xJ (d 111 (8 : Int)))) rfl (by decide) (by decide) (rfl) rfl ?_
        refine yb_push (v := 1) rfl ?_
        refine yb_isub (x := (d 111 (8 : Int))) (y := (1 : Int)) rfl ?_
        refine yb_put (z := ((d 111 (8 : Int)) - (1 : Int))) (k := 8) rfl rfl (by decide) (by decide) (rfl) (Nat.le_of_ble_eq_true rfl) rfl (rfl) ?_
        refine yb_aload rfl rfl ?_
        refine yb_aload rfl rfl ?_
        refine yb_get (v := .ref 114) rfl (by decide) (by decide) (rfl) rfl ?_
        refine yb_aload rfl rfl ?_
        refine yb_get (v := .int (xJ ((d 111 (8 : Int)) - (1 : Int)))) rfl (by decide) (by decide) (rfl) rfl ?_
        refine yb_iald (j := ((d 111 (8 : Int)) - (1 : Int))) rfl xd_A114 (by decide) r2 (v := (d 114 ((d 111 (8 : Int)) - (1 : Int)))) (xs_np (by decide)) ?_
        refine yb_ineg (x := (d 114 ((d 111 (8 : Int)) - (1 : Int)))) rfl ?_
        have r5 := h.1
        replace h := h.2
        refine yb_callVv (As := [.int (xJ (-(d 114 ((d 111 (8 : Int)) - (1 : Int)))))]) (a := 111) rfl rfl rfl rfl rfl rfl rfl rfl (by decide) (by decide) (rfl) (by decide) (sp_41 (by omega) r5 ?_)
        show yB D xm_c43 _ L 36 [.ref 111, .int (xJ a1)] [] (xs (xs (xs d 111 (8 : Int) ((d 111 (8 : Int)) - (1 : Int))) 113 (d 111 (7 : Int)) (-(d 114 ((d 111 (8 : Int)) - (1 : Int))))) 111 (7 : Int) ((d 111 (7 : Int)) + 1)) e
        refine yb_goto rfl rfl ?_
        exact h
theorem yk_46_11_0 {D L : Nat} {P : xh_D → xd_E → Prop} {d : xh_D} {e : xd_E} {a3 : Int} {a4 : Int} {a5 : Int}   (hD : 2 ≤ D) (h : ((0 ≤ ((a3 * (9 : Int)) + a4) ∧ ((a3 * (9 : Int)) + a4) < 81) ∧ ((0 ≤ ((a4 * (9 : Int)) + a3) ∧ ((a4 * (9 : Int)) + a3) < 81) ∧ ((0 ≤ a3 ∧ a3 < 9) ∧ ((0 ≤ a4 ∧ a4 < 9) ∧ ((0 ≤ (d 13 a3) ∧ (d 13 a3) < 9) ∧ ((0 ≤ (d 13 a4) ∧ (d 13 a4) < 9) ∧ ((0 ≤ a5 ∧ a5 < 2147483648) ∧ P (xs (xs (xs (xs (xs (xs (xs d 116 (0 : Int) (d 7 ((a3 * (9 : Int)) + a4))) 116 (1 : Int) (d 7 ((a4 * (9 : Int)) + a3))) 116 (2 : Int) (xp_apart (d 13 a3) (d 13 a4))) 116 (3 : Int) (xp_bc (xi_and (d 14 a4) (xi_xor (d 14 a3) (-1 : Int))))) 116 (4 : Int) (a5 % (9 : Int))) 116 (5 : Int) a3) 116 (6 : Int) a4) e)))))))) : yB D xm_c46 (yQv L P) L 0 [.ref 111, .ref 6, .ref 11, .int (xJ a3), .int (xJ a4), .int (xJ a5)] [] d e := by
  refine yb_aload rfl rfl ?_
  refine yb_get (v := .ref 116) rfl (by decide) (by decide) (rfl) rfl ?_
  refine yb_push (v := 0) rfl ?_
  refine yb_aload rfl rfl ?_
  refine yb_get (v := .ref 7) rfl (by decide) (by decide) (rfl) rfl ?_
  refine yb_iload (x := a3) rfl rfl ?_
  refine yb_push (v := 9) rfl ?_
  refine yb_imul (x := a3) (y := (9 : Int)) rfl ?_
  refine yb_iload (x := a4) rfl rfl ?_
  refine yb_iadd (x := (a3 * (9 : Int))) (y := a4) rfl ?_
  have r1 := h.1
  replace h := h.2
  refine yb_iald (j := ((a3 * (9 : Int)) + a4)) rfl xd_A7 (by decide) r1 (v := (d 7 ((a3 * (9 : Int)) + a4))) rfl ?_
  refine yb_iast (j := (0 : Int)) (x := (d 7 ((a3 * (9 : Int)) + a4))) rfl xd_A116 (by decide) (by decide) ?_
  refine yb_aload rfl rfl ?_
  refine yb_get (v := .ref 116) rfl (by decide) (by decide) (rfl) rfl ?_
  refine yb_push (v := 1) rfl ?_
  refine yb_aload rfl rfl ?_
  refine yb_get (v := .ref 7) rfl (by decide) (by decide) (rfl) rfl ?_
  refine yb_iload (x := a4) rfl rfl ?_
  refine yb_push (v := 9) rfl ?_
  refine yb_imul (x := a4) (y := (9 : Int)) rfl ?_
  refine yb_iload (x := a3) rfl rfl ?_
  refine yb_iadd (x := (a4 * (9 : Int))) (y := a3) rfl ?_
  have r2 := h.1
  replace h := h.2
  refine yb_iald (j := ((a4 * (9 : Int)) + a3)) rfl xd_A7 (by decide) r2 (v := (d 7 ((a4 * (9 : Int)) + a3))) (xs_np (by decide)) ?_
  refine yb_iast (j := (1 : Int)) (x := (d 7 ((a4 * (9 : Int)) + a3))) rfl xd_A116 (by decide) (by decide) ?_
  refine yb_aload rfl rfl ?_
  refine yb_get (v := .ref 116) rfl (by decide) (by decide) (rfl) rfl ?_
  refine yb_push (v := 2) rfl ?_
  refine yb_aload rfl rfl ?_
  refine yb_get (v := .ref 13) rfl (by decide) (by decide) (rfl) rfl ?_
  refine yb_iload (x := a3) rfl rfl ?_
  have r3 := h.1
  replace h := h.2
  refine yb_iald (j := a3) rfl xd_A13 (by decide) r3 (v := (d 13 a3)) ((xs_np (by decide)).trans (xs_np (by decide))) ?_
  refine yb_aload rfl rfl ?_
  refine yb_get (v := .ref 13) rfl (by decide) (by decide) (rfl) rfl ?_
  refine yb_iload (x := a4) rfl rfl ?_
  have r4 := h.1
  replace h := h.2
  refine yb_iald (j := a4) rfl xd_A13 (by decide) r4 (v := (d 13 a4)) ((xs_np (by decide)).trans (xs_np (by decide))) ?_
  have r5 := h.1
  replace h := h.2
  have r6 := h.1
  replace h := h.2
  refine yb_callSi (As := [.int (xJ (d 13 a3)), .int (xJ (d 13 a4))]) rfl rfl rfl rfl rfl rfl rfl rfl (by show (2 : Nat) ≤ 8; decide) (sp_177 (by omega) ⟨r5, r6⟩ ?_)
  show yB D xm_c46 _ L 36 [.ref 111, .ref 6, .ref 11, .int (xJ a3), .int (xJ a4), .int (xJ a5)] [.int (xJ (xp_apart (d 13 a3) (d 13 a4))), .int (xJ (2 : Int)), .ref 116] (xs (xs d 116 (0 : Int) (d 7 ((a3 * (9 : Int)) + a4))) 116 (1 : Int) (d 7 ((a4 * (9 : Int)) + a3))) e
  refine yb_iast (j := (2 : Int)) (x := (xp_apart (d 13 a3) (d 13 a4))) rfl xd_A116 (by decide) (by decide) ?_
  refine yb_aload rfl rfl ?_
  refine yb_get (v := .ref 116) rfl (by decide) (by decide) (rfl) rfl ?_
  refine yb_push (v := 3) rfl ?_
  refine yb_aload rfl rfl ?_
  refine yb_get (v := .ref 14) rfl (by decide) (by decide) (rfl) rfl ?_
  refine yb_iload (x := a4) rfl rfl ?_
  refine yb_iald (j := a4) rfl xd_A14 (by decide) r4 (v := (d 14 a4)) ((xs_np (by decide)).trans ((xs_np (by decide)).trans (xs_np (by decide)))) ?_
  refine yb_aload rfl rfl ?_
  refine yb_get (v := .ref 14) rfl (by decide) (by decide) (rfl) rfl ?_
  refine yb_iload (x := a3) rfl rfl ?_
  refine yb_iald (j := a3) rfl xd_A14 (by decide) r3 (v := (d 14 a3)) ((xs_np (by decide)).trans ((xs_np (by decide)).trans (xs_np (by decide)))) ?_
  refine yb_push (v := (-1)) rfl ?_
  refine yb_ixor (x := (d 14 a3)) (y := (-1 : Int)) rfl ?_
  refine yb_iand (x := (d 14 a4)) (y := (xi_xor (d 14 a3) (-1 : Int))) rfl ?_
  refine yb_callSi (As := [.int (xJ (xi_and (d 14 a4) (xi_xor (d 14 a3) (-1 : Int))))]) rfl rfl rfl rfl rfl rfl rfl rfl (by show (2 : Nat) ≤ 8; decide) (sp_0 (by omega) ?_)
  show yB D xm_c46 _ L 52 [.ref 111, .ref 6, .ref 11, .int (xJ a3), .int (xJ a4), .int (xJ a5)] [.int (xJ (xp_bc (xi_and (d 14 a4) (xi_xor (d 14 a3) (-1 : Int))))), .int (xJ (3 : Int)), .ref 116] (xs (xs (xs d 116 (0 : Int) (d 7 ((a3 * (9 : Int)) + a4))) 116 (1 : Int) (d 7 ((a4 * (9 : Int)) + a3))) 116 (2 : Int) (xp_apart (d 13 a3) (d 13 a4))) e
  refine yb_iast (j := (3 : Int)) (x := (xp_bc (xi_and (d 14 a4) (xi_xor (d 14 a3) (-1 : Int))))) rfl xd_A116 (by decide) (by decide) ?_
  refine yb_aload rfl rfl ?_
  refine yb_get (v := .ref 116) rfl (by decide) (by decide) (rfl) rfl ?_
  refine yb_push (v := 4) rfl ?_
  refine yb_iload (x := a5) rfl rfl ?_
  refine yb_push (v := 9) rfl ?_
  have r7 := h.1
  replace h := h.2
  refine yb_irem (x := a5) (y := (9 : Int)) rfl r7 (by decide) ?_
  refine yb_iast (j := (4 : Int)) (x := (a5 % (9 : Int))) rfl xd_A116 (by decide) (by decide) ?_
  refine yb_aload rfl rfl ?_
  refine yb_get (v := .ref 116) rfl (by decide) (by decide) (rfl) rfl ?_
  refine yb_push (v := 5) rfl ?_
  refine yb_iload (x := a3) rfl rfl ?_
  refine yb_iast (j := (5 : Int)) (x := a3) rfl xd_A116 (by decide) (by decide) ?_
  refine yb_aload rfl rfl ?_
  refine yb_get (v := .ref 116) rfl (by decide) (by decide) (rfl) rfl ?_
  refine yb_push (v := 6) rfl ?_
  refine yb_iload (x := a4) rfl rfl ?_
  refine yb_iast (j := (6 : Int)) (x := a4) rfl xd_A116 (by decide) (by decide) ?_
  exact yb_retv rfl h
theorem yk_46_17_0 {D L : Nat} {P : xh_D → xd_E → Prop} {d : xh_D} {e : xd_E} {a3 : Int} {a4 : Int} {a5 : Int}   (hD : 2 ≤ D) (h : ((0 ≤ ((a3 * (9 : Int)) + a4) ∧ ((a3 * (9 : Int)) + a4) < 81) ∧ ((0 ≤ ((a4 * (9 : Int)) + a3) ∧ ((a4 * (9 : Int)) + a3) < 81) ∧ ((0 ≤ a3 ∧ a3 < 9) ∧ ((0 ≤ a4 ∧ a4 < 9) ∧ ((0 ≤ (d 19 a3) ∧ (d 19 a3) < 9) ∧ ((0 ≤ (d 19 a4) ∧ (d 19 a4) < 9) ∧ ((0 ≤ a5 ∧ a5 < 2147483648) ∧ P (xs (xs (xs (xs (xs (xs (xs d 116 (0 : Int) (d 7 ((a3 * (9 : Int)) + a4))) 116 (1 : Int) (d 7 ((a4 * (9 : Int)) + a3))) 116 (2 : Int) (xp_apart (d 19 a3) (d 19 a4))) 116 (3 : Int) (xp_bc (xi_and (d 20 a4) (xi_xor (d 20 a3) (-1 : Int))))) 116 (4 : Int) (a5 % (9 : Int))) 116 (5 : Int) a3) 116 (6 : Int) a4) e)))))))) : yB D xm_c46 (yQv L P) L 0 [.ref 111, .ref 6, .ref 17, .int (xJ a3), .int (xJ a4), .int (xJ a5)] [] d e := by
  refine yb_aload rfl rfl ?_
  refine yb_get (v := .ref 116) rfl (by decide) (by decide) (rfl) rfl ?_
  refine yb_push (v := 0) rfl ?_
  refine yb_aload rfl rfl ?_
  refine yb_get (v := .ref 7) rfl (by decide) (by decide) (rfl) rfl ?_
  refine yb_iload (x := a3) rfl rfl ?_
  refine yb_push (v := 9) rfl ?_
  refine yb_imul (x := a3) (y := (9 : Int)) rfl ?_
  refine yb_iload (x := a4) rfl rfl ?_
  refine yb_iadd (x := (a3 * (9 : Int))) (y := a4) rfl ?_
  have r1 := h.1
  replace h := h.2
  refine yb_iald (j := ((a3 * (9 : Int)) + a4)) rfl xd_A7 (by decide) r1 (v := (d 7 ((a3 * (9 : Int)) + a4))) rfl ?_
  refine yb_iast (j := (0 : Int)) (x := (d 7 ((a3 * (9 : Int)) + a4))) rfl xd_A116 (by decide) (by decide) ?_
  refine yb_aload rfl rfl ?_
  refine yb_get (v := .ref 116) rfl (by decide) (by decide) (rfl) rfl ?_
  refine yb_push (v := 1) rfl ?_
  refine yb_aload rfl rfl ?_
  refine yb_get (v := .ref 7) rfl (by decide) (by decide) (rfl) rfl ?_
  refine yb_iload (x := a4) rfl rfl ?_
  refine yb_push (v := 9) rfl ?_
  refine yb_imul (x := a4) (y := (9 : Int)) rfl ?_
  refine yb_iload (x := a3) rfl rfl ?_
  refine yb_iadd (x := (a4 * (9 : Int))) (y := a3) rfl ?_
  have r2 := h.1
  replace h := h.2
  refine yb_iald (j := ((a4 * (9 : Int)) + a3)) rfl xd_A7 (by decide) r2 (v := (d 7 ((a4 * (9 : Int)) + a3))) (xs_np (by decide)) ?_
  refine yb_iast (j := (1 : Int)) (x := (d 7 ((a4 * (9 : Int)) + a3))) rfl xd_A116 (by decide) (by decide) ?_
  refine yb_aload rfl rfl ?_
  refine yb_get (v := .ref 116) rfl (by decide) (by decide) (rfl) rfl ?_
  refine yb_push (v := 2) rfl ?_
  refine yb_aload rfl rfl ?_
  refine yb_get (v := .ref 19) rfl (by decide) (by decide) (rfl) rfl ?_
  refine yb_iload (x := a3) rfl rfl ?_
  have r3 := h.1
  replace h := h.2
  refine yb_iald (j := a3) rfl xd_A19 (by decide) r3 (v := (d 19 a3)) ((xs_np (by decide)).trans (xs_np (by decide))) ?_
  refine yb_aload rfl rfl ?_
  refine yb_get (v := .ref 19) rfl (by decide) (by decide) (rfl) rfl ?_
  refine yb_iload (x := a4) rfl rfl ?_
  have r4 := h.1
  replace h := h.2
  refine yb_iald (j := a4) rfl xd_A19 (by decide) r4 (v := (d 19 a4)) ((xs_np (by decide)).trans (xs_np (by decide))) ?_
  have r5 := h.1
  replace h := h.2
  have r6 := h.1
  replace h := h.2
  refine yb_callSi (As := [.int (xJ (d 19 a3)), .int (xJ (d 19 a4))]) rfl rfl rfl rfl rfl rfl rfl rfl (by show (2 : Nat) ≤ 8; decide) (sp_177 (by omega) ⟨r5, r6⟩ ?_)
  show yB D xm_c46 _ L 36 [.ref 111, .ref 6, .ref 17, .int (xJ a3), .int (xJ a4), .int (xJ a5)] [.int (xJ (xp_apart (d 19 a3) (d 19 a4))), .int (xJ (2 : Int)), .ref 116] (xs (xs d 116 (0 : Int) (d 7 ((a3 * (9 : Int)) + a4))) 116 (1 : Int) (d 7 ((a4 * (9 : Int)) + a3))) e
  refine yb_iast (j := (2 : Int)) (x := (xp_apart (d 19 a3) (d 19 a4))) rfl xd_A116 (by decide) (by decide) ?_
  refine yb_aload rfl rfl ?_
  refine yb_get (v := .ref 116) rfl (by decide) (by decide) (rfl) rfl ?_
  refine yb_push (v := 3) rfl ?_
  refine yb_aload rfl rfl ?_
  refine yb_get (v := .ref 20) rfl (by decide) (by decide) (rfl) rfl ?_
  refine yb_iload (x := a4) rfl rfl ?_
  refine yb_iald (j := a4) rfl xd_A20 (by decide) r4 (v := (d 20 a4)) ((xs_np (by decide)).trans ((xs_np (by decide)).trans (xs_np (by decide)))) ?_
  refine yb_aload rfl rfl ?_
  refine yb_get (v := .ref 20) rfl (by decide) (by decide) (rfl) rfl ?_
  refine yb_iload (x := a3) rfl rfl ?_
  refine yb_iald (j := a3) rfl xd_A20 (by decide) r3 (v := (d 20 a3)) ((xs_np (by decide)).trans ((xs_np (by decide)).trans (xs_np (by decide)))) ?_
  refine yb_push (v := (-1)) rfl ?_
  refine yb_ixor (x := (d 20 a3)) (y := (-1 : Int)) rfl ?_
  refine yb_iand (x := (d 20 a4)) (y := (xi_xor (d 20 a3) (-1 : Int))) rfl ?_
  refine yb_callSi (As := [.int (xJ (xi_and (d 20 a4) (xi_xor (d 20 a3) (-1 : Int))))]) rfl rfl rfl rfl rfl rfl rfl rfl (by show (2 : Nat) ≤ 8; decide) (sp_0 (by omega) ?_)
  show yB D xm_c46 _ L 52 [.ref 111, .ref 6, .ref 17, .int (xJ a3), .int (xJ a4), .int (xJ a5)] [.int (xJ (xp_bc (xi_and (d 20 a4) (xi_xor (d 20 a3) (-1 : Int))))), .int (xJ (3 : Int)), .ref 116] (xs (xs (xs d 116 (0 : Int) (d 7 ((a3 * (9 : Int)) + a4))) 116 (1 : Int) (d 7 ((a4 * (9 : Int)) + a3))) 116 (2 : Int) (xp_apart (d 19 a3) (d 19 a4))) e
  refine yb_iast (j := (3 : Int)) (x := (xp_bc (xi_and (d 20 a4) (xi_xor (d 20 a3) (-1 : Int))))) rfl xd_A116 (by decide) (by decide) ?_
  refine yb_aload rfl rfl ?_
  refine yb_get (v := .ref 116) rfl (by decide) (by decide) (rfl) rfl ?_
  refine yb_push (v := 4) rfl ?_
  refine yb_iload (x := a5) rfl rfl ?_
  refine yb_push (v := 9) rfl ?_
  have r7 := h.1
  replace h := h.2
  refine yb_irem (x := a5) (y := (9 : Int)) rfl r7 (by decide) ?_
  refine yb_iast (j := (4 : Int)) (x := (a5 % (9 : Int))) rfl xd_A116 (by decide) (by decide) ?_
  refine yb_aload rfl rfl ?_
  refine yb_get (v := .ref 116) rfl (by decide) (by decide) (rfl) rfl ?_
  refine yb_push (v := 5) rfl ?_
  refine yb_iload (x := a3) rfl rfl ?_
  refine yb_iast (j := (5 : Int)) (x := a3) rfl xd_A116 (by decide) (by decide) ?_
  refine yb_aload rfl rfl ?_
  refine yb_get (v := .ref 116) rfl (by decide) (by decide) (rfl) rfl ?_
  refine yb_push (v := 6) rfl ?_
  refine yb_iload (x := a4) rfl rfl ?_
  refine yb_iast (j := (6 : Int)) (x := a4) rfl xd_A116 (by decide) (by decide) ?_
  exact yb_retv rfl h
theorem yk_47_0 {D L : Nat} {P : Int → xh_D → xd_E → Prop} {d : xh_D} {e : xd_E}    (hD : 2 ≤ D) (h : ((-2147483648 ≤ (d 111 (6 : Int)) ∧ (d 111 (6 : Int)) < 2147483648) ∧ (((¬ (d 111 (6 : Int)) = 0) → yB D xm_c47 (yQi L P) L 21 [.ref 111, .int (xJ (0 : Int)), .int (xJ (0 : Int)), .double 0] [] d e) ∧ (((d 111 (6 : Int)) = 0) → ((-2147483648 ≤ (((9 : Int) - (d 116 (0 : Int))) + (d 116 (2 : Int))) ∧ (((9 : Int) - (d 116 (0 : Int))) + (d 116 (2 : Int))) < 2147483648) ∧ P (max 0 (min (((9 : Int) - (d 116 (0 : Int))) + (d 116 (2 : Int))) (99 : Int))) d e))))) : yB D xm_c47 (yQi L P) L 0 [.ref 111, .double 0, .double 0, .double 0] [] d e := by
  refine yb_aload rfl rfl ?_
  refine yb_get (v := .int (xJ (d 111 (6 : Int)))) rfl (by decide) (by decide) (rfl) rfl ?_
  have r1 := h.1
  replace h := h.2
  refine yb_if_ne (x := (d 111 (6 : Int))) rfl rfl r1 (fun c => ?_) (fun c => ?_)
  · replace h := h.1 c
    refine yb_push (v := 0) rfl ?_
    refine yb_istore rfl rfl rfl ?_
    refine yb_push (v := 0) rfl ?_
    refine yb_istore rfl rfl rfl ?_
    exact h
  · replace h := h.2 c
    refine yb_push (v := 9) rfl ?_
    refine yb_aload rfl rfl ?_
    refine yb_get (v := .ref 116) rfl (by decide) (by decide) (rfl) rfl ?_
    refine yb_push (v := 0) rfl ?_
    refine yb_iald (j := (0 : Int)) rfl xd_A116 (by decide) (by decide) (v := (d 116 (0 : Int))) rfl ?_
    refine yb_isub (x := (9 : Int)) (y := (d 116 (0 : Int))) rfl ?_
    refine yb_aload rfl rfl ?_
    refine yb_get (v := .ref 116) rfl (by decide) (by decide) (rfl) rfl ?_
    refine yb_push (v := 2) rfl ?_
    refine yb_iald (j := (2 : Int)) rfl xd_A116 (by decide) (by decide) (v := (d 116 (2 : Int))) rfl ?_
    refine yb_iadd (x := ((9 : Int) - (d 116 (0 : Int)))) (y := (d 116 (2 : Int))) rfl ?_
    refine yb_push (v := 99) rfl ?_
    have r2 := h.1
    replace h := h.2
    refine yb_callSi (As := [.int (xJ (((9 : Int) - (d 116 (0 : Int))) + (d 116 (2 : Int)))), .int (xJ (99 : Int))]) rfl rfl rfl rfl rfl rfl rfl rfl (by decide) (sp_176 (by omega) ⟨r2, (by show (-2147483648 ≤ (99 : Int) ∧ (99 : Int) < 2147483648); decide)⟩ ?_)
    show yB D xm_c47 _ L 16 [.ref 111, .double 0, .double 0, .double 0] [.int (xJ (max 0 (min (((9 : Int) - (d 116 (0 : Int))) + (d 116 (2 : Int))) (99 : Int))))] d e
    exact yb_ret rfl h
theorem yk_47_21 {D L : Nat} {P : Int → xh_D → xd_E → Prop} {d : xh_D} {e : xd_E}  {l1 : Int} {l2 : Int}  (hD : 2 ≤ D) (h : ((-2147483648 ≤ l2 ∧ l2 < 2147483648) ∧ ((-2147483648 ≤ (d 111 (6 : Int)) ∧ (d 111 (6 : Int)) < 2147483648) ∧ ((((d 111 (6 : Int)) ≤ l2) → ((-2147483648 ≤ (d 115 (0 : Int)) ∧ (d 115 (0 : Int)) < 2147483648) ∧ P (max 0 (min (d 115 (0 : Int)) (99 : Int))) d e)) ∧ ((¬ (d 111 (6 : Int)) ≤ l2) → ((0 ≤ l2 ∧ l2 < 40) ∧ ((-2147483648 ≤ (d 112 l2) ∧ (d 112 l2) < 2147483648) ∧ ((((d 112 l2) < (-7 : Int)) → (((¬ (d 112 l2) = (-256 : Int)) → yB D xm_c47 (yQi L P) L 69 [.ref 111, .int (xJ l1), .int (xJ l2), .int (xJ (d 112 l2))] [] d e) ∧ (((d 112 l2) = (-256 : Int)) → ((-2147483648 ≤ l1 ∧ l1 < 2147483648) ∧ (((l1 < (1 : Int)) → yB D xm_c47 (yQi L P) L 69 [.ref 111, .int (xJ l1), .int (xJ l2), .int (xJ (d 112 l2))] [] d e) ∧ ((¬ l1 < (1 : Int)) → ((0 ≤ (l1 - (1 : Int)) ∧ (l1 - (1 : Int)) < 40) ∧ yB D xm_c47 (yQi L P) L 21 [.ref 111, .int (xJ l1), .int (xJ (l2 + 1)), .double 0] [] (xs d 115 (l1 - (1 : Int)) (-(d 115 (l1 - (1 : Int))))) e))))))) ∧ ((¬ (d 112 l2) < (-7 : Int)) → ((((d 112 l2) < 0) → ((0 ≤ ((-1 : Int) - (d 112 l2)) ∧ ((-1 : Int) - (d 112 l2)) < 7) ∧ ((0 ≤ l1 ∧ l1 < 40) ∧ yB D xm_c47 (yQi L P) L 21 [.ref 111, .int (xJ (l1 + 1)), .int (xJ (l2 + 1)), .double 0] [] (xs d 115 l1 (d 116 ((-1 : Int) - (d 112 l2)))) e))) ∧ ((¬ (d 112 l2) < 0) → ((0 ≤ l1 ∧ l1 < 40) ∧ yB D xm_c47 (yQi L P) L 21 [.ref 111, .int (xJ (l1 + 1)), .int (xJ (l2 + 1)), .double 0] [] (xs d 115 l1 (d 112 l2)) e)))))))))))) : yB D xm_c47 (yQi L P) L 21 [.ref 111, .int (xJ l1), .int (xJ l2), .double 0] [] d e := by
  refine yb_iload (x := l2) rfl rfl ?_
  refine yb_aload rfl rfl ?_
  refine yb_get (v := .int (xJ (d 111 (6 : Int)))) rfl (by decide) (by decide) (rfl) rfl ?_
  have r1 := h.1
  replace h := h.2
  have r2 := h.1
  replace h := h.2
  refine yb_icmp_ge (x := l2) (y := (d 111 (6 : Int))) rfl rfl r1 r2 (fun c => ?_) (fun c => ?_)
  · replace h := h.1 c
    refine yb_aload rfl rfl ?_
    refine yb_get (v := .ref 115) rfl (by decide) (by decide) (rfl) rfl ?_
    refine yb_push (v := 0) rfl ?_
    refine yb_iald (j := (0 : Int)) rfl xd_A115 (by decide) (by decide) (v := (d 115 (0 : Int))) rfl ?_
    refine yb_push (v := 99) rfl ?_
    have r3 := h.1
    replace h := h.2
    refine yb_callSi (As := [.int (xJ (d 115 (0 : Int))), .int (xJ (99 : Int))]) rfl rfl rfl rfl rfl rfl rfl rfl (by decide) (sp_176 (by omega) ⟨r3, (by show (-2147483648 ≤ (99 : Int) ∧ (99 : Int) < 2147483648); decide)⟩ ?_)
    show yB D xm_c47 _ L 100 [.ref 111, .int (xJ l1), .int (xJ l2), .double 0] [.int (xJ (max 0 (min (d 115 (0 : Int)) (99 : Int))))] d e
    exact yb_ret rfl h
  · replace h := h.2 c
    refine yb_aload rfl rfl ?_
    refine yb_get (v := .ref 112) rfl (by decide) (by decide) (rfl) rfl ?_
    refine yb_iload (x := l2) rfl rfl ?_
    have r4 := h.1
    replace h := h.2
    refine yb_iald (j := l2) rfl xd_A112 (by decide) r4 (v := (d 112 l2)) rfl ?_
    refine yb_istore rfl rfl rfl ?_
    refine yb_iload (x := (d 112 l2)) rfl rfl ?_
    refine yb_push (v := (-7)) rfl ?_
    have r5 := h.1
    replace h := h.2
    refine yb_icmp_lt (x := (d 112 l2)) (y := (-7 : Int)) rfl rfl r5 (by decide) (fun c => ?_) (fun c => ?_)
    · replace h := h.1 c
      refine yb_iload (x := (d 112 l2)) rfl rfl ?_
      refine yb_push (v := (-256)) rfl ?_
      refine yb_icmp_ne (x := (d 112 l2)) (y := (-256 : Int)) rfl rfl r5 (by decide) (fun c => ?_) (fun c => ?_)
      · replace h := h.1 c
        exact h
      · replace h := h.2 c
        refine yb_iload (x := l1) rfl rfl ?_
        refine yb_push (v := 1) rfl ?_
        have r6 := h.1
        replace h := h.2
        refine yb_icmp_lt (x := l1) (y := (1 : Int)) rfl rfl r6 (by decide) (fun c => ?_) (fun c => ?_)
        · replace h := h.1 c
          exact h
        · replace h := h.2 c
          refine yb_aload rfl rfl ?_
          refine yb_get (v := .ref 115) rfl (by decide) (by decide) (rfl) rfl ?_
          refine yb_iload (x := l1) rfl rfl ?_
          refine yb_push (v := 1) rfl ?_
          refine yb_isub (x := l1) (y := (1 : Int)) rfl ?_
          refine yb_aload rfl rfl ?_
          refine yb_get (v := .ref 115) rfl (by decide) (by decide) (rfl) rfl ?_
          refine yb_iload (x := l1) rfl rfl ?_
          refine yb_push (v := 1) rfl ?_
          refine yb_isub (x := l1) (y := (1 : Int)) rfl ?_
          have r7 := h.1
          replace h := h.2
          refine yb_iald (j := (l1 - (1 : Int))) rfl xd_A115 (by decide) r7 (v := (d 115 (l1 - (1 : Int)))) rfl ?_
          refine yb_ineg (x := (d 115 (l1 - (1 : Int)))) rfl ?_
          refine yb_iast (j := (l1 - (1 : Int))) (x := (-(d 115 (l1 - (1 : Int))))) rfl xd_A115 (by decide) r7 ?_
          refine yb_goto rfl rfl ?_
          refine yb_iinc (x := l2) (n := 1) rfl rfl rfl rfl ?_
          refine yb_goto rfl rfl ?_
          refine yb_forget (dl := [.ref 111, .int (xJ l1), .int (xJ (l2 + 1)), .double 0]) ⟨Or.inl rfl, ⟨Or.inl rfl, ⟨Or.inl rfl, ⟨Or.inr ⟨rfl, rfl⟩, trivial⟩⟩⟩⟩ ?_
          exact h
    · replace h := h.2 c
      refine yb_aload rfl rfl ?_
      refine yb_get (v := .ref 115) rfl (by decide) (by decide) (rfl) rfl ?_
      refine yb_iload (x := l1) rfl rfl ?_
      refine yb_iload (x := (d 112 l2)) rfl rfl ?_
      refine yb_if_lt (x := (d 112 l2)) rfl rfl r5 (fun c => ?_) (fun c => ?_)
      · replace h := h.1 c
        refine yb_aload rfl rfl ?_
        refine yb_get (v := .ref 116) rfl (by decide) (by decide) (rfl) rfl ?_
        refine yb_push (v := (-1)) rfl ?_
        refine yb_iload (x := (d 112 l2)) rfl rfl ?_
        refine yb_isub (x := (-1 : Int)) (y := (d 112 l2)) rfl ?_
        have r8 := h.1
        replace h := h.2
        refine yb_iald (j := ((-1 : Int) - (d 112 l2))) rfl xd_A116 (by decide) r8 (v := (d 116 ((-1 : Int) - (d 112 l2)))) rfl ?_
        have r9 := h.1
        replace h := h.2
        refine yb_iast (j := l1) (x := (d 116 ((-1 : Int) - (d 112 l2)))) rfl xd_A115 (by decide) r9 ?_
        refine yb_iinc (x := l1) (n := 1) rfl rfl rfl rfl ?_
        refine yb_goto rfl rfl ?_
        refine yb_iinc (x := l2) (n := 1) rfl rfl rfl rfl ?_
        refine yb_goto rfl rfl ?_
        refine yb_forget (dl := [.ref 111, .int (xJ (l1 + 1)), .int (xJ (l2 + 1)), .double 0]) ⟨Or.inl rfl, ⟨Or.inl rfl, ⟨Or.inl rfl, ⟨Or.inr ⟨rfl, rfl⟩, trivial⟩⟩⟩⟩ ?_
        exact h
      · replace h := h.2 c
        refine yb_iload (x := (d 112 l2)) rfl rfl ?_
        refine yb_goto rfl rfl ?_
        have r10 := h.1
        replace h := h.2
        refine yb_iast (j := l1) (x := (d 112 l2)) rfl xd_A115 (by decide) r10 ?_
        refine yb_iinc (x := l1) (n := 1) rfl rfl rfl rfl ?_
        refine yb_goto rfl rfl ?_
        refine yb_iinc (x := l2) (n := 1) rfl rfl rfl rfl ?_
        refine yb_goto rfl rfl ?_
        refine yb_forget (dl := [.ref 111, .int (xJ (l1 + 1)), .int (xJ (l2 + 1)), .double 0]) ⟨Or.inl rfl, ⟨Or.inl rfl, ⟨Or.inl rfl, ⟨Or.inr ⟨rfl, rfl⟩, trivial⟩⟩⟩⟩ ?_
        exact h
theorem yk_47_69 {D L : Nat} {P : Int → xh_D → xd_E → Prop} {d : xh_D} {e : xd_E}  {l1 : Int} {l2 : Int} {l3 : Int}  (hD : 1 ≤ D) (h : ((-2147483648 ≤ l1 ∧ l1 < 2147483648) ∧ (((l1 < (2 : Int)) → yB D xm_c47 (yQi L P) L 21 [.ref 111, .int (xJ l1), .int (xJ (l2 + 1)), .double 0] [] d e) ∧ ((¬ l1 < (2 : Int)) → ((0 ≤ ((l1 + (-1)) - (1 : Int)) ∧ ((l1 + (-1)) - (1 : Int)) < 40) ∧ ((0 ≤ (l1 + (-1)) ∧ (l1 + (-1)) < 40) ∧ ((-2147483648 ≤ (-l3) ∧ (-l3) < 2147483648) ∧ ((-2147483648 ≤ (d 115 ((l1 + (-1)) - (1 : Int))) ∧ (d 115 ((l1 + (-1)) - (1 : Int))) < 2147483648) ∧ ((-2147483648 ≤ (d 115 (l1 + (-1))) ∧ (d 115 (l1 + (-1))) < 2147483648) ∧ yB D xm_c47 (yQi L P) L 21 [.ref 111, .int (xJ (l1 + (-1))), .int (xJ (l2 + 1)), .double 0] [] (xs d 115 ((l1 + (-1)) - (1 : Int)) (xp_join (-l3) (d 115 ((l1 + (-1)) - (1 : Int))) (d 115 (l1 + (-1))))) e))))))))) : yB D xm_c47 (yQi L P) L 69 [.ref 111, .int (xJ l1), .int (xJ l2), .int (xJ l3)] [] d e := by
  refine yb_iload (x := l1) rfl rfl ?_
  refine yb_push (v := 2) rfl ?_
  have r1 := h.1
  replace h := h.2
  refine yb_icmp_lt (x := l1) (y := (2 : Int)) rfl rfl r1 (by decide) (fun c => ?_) (fun c => ?_)
  · replace h := h.1 c
    refine yb_iinc (x := l2) (n := 1) rfl rfl rfl rfl ?_
    refine yb_goto rfl rfl ?_
    refine yb_forget (dl := [.ref 111, .int (xJ l1), .int (xJ (l2 + 1)), .double 0]) ⟨Or.inl rfl, ⟨Or.inl rfl, ⟨Or.inl rfl, ⟨Or.inr ⟨rfl, rfl⟩, trivial⟩⟩⟩⟩ ?_
    exact h
  · replace h := h.2 c
    refine yb_iinc (x := l1) (n := (-1)) rfl rfl rfl rfl ?_
    refine yb_aload rfl rfl ?_
    refine yb_get (v := .ref 115) rfl (by decide) (by decide) (rfl) rfl ?_
    refine yb_iload (x := (l1 + (-1))) rfl rfl ?_
    refine yb_push (v := 1) rfl ?_
    refine yb_isub (x := (l1 + (-1))) (y := (1 : Int)) rfl ?_
    refine yb_iload (x := l3) rfl rfl ?_
    refine yb_ineg (x := l3) rfl ?_
    refine yb_aload rfl rfl ?_
    refine yb_get (v := .ref 115) rfl (by decide) (by decide) (rfl) rfl ?_
    refine yb_iload (x := (l1 + (-1))) rfl rfl ?_
    refine yb_push (v := 1) rfl ?_
    refine yb_isub (x := (l1 + (-1))) (y := (1 : Int)) rfl ?_
    have r2 := h.1
    replace h := h.2
    refine yb_iald (j := ((l1 + (-1)) - (1 : Int))) rfl xd_A115 (by decide) r2 (v := (d 115 ((l1 + (-1)) - (1 : Int)))) rfl ?_
    refine yb_aload rfl rfl ?_
    refine yb_get (v := .ref 115) rfl (by decide) (by decide) (rfl) rfl ?_
    refine yb_iload (x := (l1 + (-1))) rfl rfl ?_
    have r3 := h.1
    replace h := h.2
    refine yb_iald (j := (l1 + (-1))) rfl xd_A115 (by decide) r3 (v := (d 115 (l1 + (-1)))) rfl ?_
    have r4 := h.1
    replace h := h.2
    have r5 := h.1
    replace h := h.2
    have r6 := h.1
    replace h := h.2
    refine yb_callSi (As := [.int (xJ (-l3)), .int (xJ (d 115 ((l1 + (-1)) - (1 : Int)))), .int (xJ (d 115 (l1 + (-1))))]) rfl rfl rfl rfl rfl rfl rfl rfl (by show (2 : Nat) ≤ 8; decide) (sp_48 (by omega) ⟨r4, r5, r6⟩ ?_)
    show yB D xm_c47 _ L 91 [.ref 111, .int (xJ (l1 + (-1))), .int (xJ l2), .int (xJ l3)] [.int (xJ (xp_join (-l3) (d 115 ((l1 + (-1)) - (1 : Int))) (d 115 (l1 + (-1))))), .int (xJ ((l1 + (-1)) - (1 : Int))), .ref 115] d e
    refine yb_iast (j := ((l1 + (-1)) - (1 : Int))) (x := (xp_join (-l3) (d 115 ((l1 + (-1)) - (1 : Int))) (d 115 (l1 + (-1))))) rfl xd_A115 (by decide) r2 ?_
    refine yb_iinc (x := l2) (n := 1) rfl rfl rfl rfl ?_
    refine yb_goto rfl rfl ?_
    refine yb_forget (dl := [.ref 111, .int (xJ (l1 + (-1))), .int (xJ (l2 + 1)), .double 0]) ⟨Or.inl rfl, ⟨Or.inl rfl, ⟨Or.inl rfl, ⟨Or.inr ⟨rfl, rfl⟩, trivial⟩⟩⟩⟩ ?_
    exact h
theorem yk_50_s_t_0 {D L : Nat} {P : xh_D → xd_E → Prop} {d : xh_D} {e : xd_E} {s : Nat} {t : Nat}  (hs : xd_isS s = true) (ht : xd_isS t = true) (h : P (xs (xcp (xcp (xcp (xcp d (t + 1) (s + 1) (9 : Int)) (t + 2) (s + 2) (9 : Int)) (t + 3) (s + 3) (9 : Int)) (t + 4) (s + 4) (54 : Int)) s (5 : Int) ((xcp (xcp (xcp (xcp d (t + 1) (s + 1) (9 : Int)) (t + 2) (s + 2) (9 : Int)) (t + 3) (s + 3) (9 : Int)) (t + 4) (s + 4) (54 : Int)) t (5 : Int))) (xcl e (t + 5) (s + 5) 30)) : yB D xm_c50 (yQv L P) L 0 [.ref s, .ref t] [] d e := by
  refine yb_aload rfl rfl ?_
  refine yb_get (v := .ref (t + 1)) rfl (xd_Sp ht).1 (xd_Sp ht).2 ((xd_S ht L _ _).1) rfl ?_
  refine yb_push (v := 0) rfl ?_
  refine yb_aload rfl rfl ?_
  refine yb_get (v := .ref (s + 1)) rfl (xd_Sp hs).1 (xd_Sp hs).2 ((xd_S hs L _ _).1) rfl ?_
  refine yb_push (v := 0) rfl ?_
  refine yb_push (v := 9) rfl ?_
  refine yb_copyi (n := (9 : Int)) rfl (by decide) (xd_Sa1 ht) (xd_Sa1 hs) (by decide) (by decide) ?_
  refine yb_aload rfl rfl ?_
  refine yb_get (v := .ref (t + 2)) rfl (xd_Sp ht).1 (xd_Sp ht).2 ((xd_S ht L _ _).1) rfl ?_
  refine yb_push (v := 0) rfl ?_
  refine yb_aload rfl rfl ?_
  refine yb_get (v := .ref (s + 2)) rfl (xd_Sp hs).1 (xd_Sp hs).2 ((xd_S hs L _ _).1) rfl ?_
  refine yb_push (v := 0) rfl ?_
  refine yb_push (v := 9) rfl ?_
  refine yb_copyi (n := (9 : Int)) rfl (by decide) (xd_Sa2 ht) (xd_Sa2 hs) (by decide) (by decide) ?_
  refine yb_aload rfl rfl ?_
  refine yb_get (v := .ref (t + 3)) rfl (xd_Sp ht).1 (xd_Sp ht).2 ((xd_S ht L _ _).1) rfl ?_
  refine yb_push (v := 0) rfl ?_
  refine yb_aload rfl rfl ?_
  refine yb_get (v := .ref (s + 3)) rfl (xd_Sp hs).1 (xd_Sp hs).2 ((xd_S hs L _ _).1) rfl ?_
  refine yb_push (v := 0) rfl ?_
  refine yb_push (v := 9) rfl ?_
  refine yb_copyi (n := (9 : Int)) rfl (by decide) (xd_Sa3 ht) (xd_Sa3 hs) (by decide) (by decide) ?_
  refine yb_aload rfl rfl ?_
  refine yb_get (v := .ref (t + 4)) rfl (xd_Sp ht).1 (xd_Sp ht).2 ((xd_S ht L _ _).1) rfl ?_
  refine yb_push (v := 0) rfl ?_
  refine yb_aload rfl rfl ?_
  refine yb_get (v := .ref (s + 4)) rfl (xd_Sp hs).1 (xd_Sp hs).2 ((xd_S hs L _ _).1) rfl ?_
  refine yb_push (v := 0) rfl ?_
  refine yb_push (v := 54) rfl ?_
  refine yb_copyi (n := (54 : Int)) rfl (by decide) (xd_Sa4 ht) (xd_Sa4 hs) (by decide) (by decide) ?_
  refine yb_aload rfl rfl ?_
  refine yb_get (v := .ref (t + 5)) rfl (xd_Sp ht).1 (xd_Sp ht).2 ((xd_S ht L _ _).1) rfl ?_
  refine yb_push (v := 0) rfl ?_
  refine yb_aload rfl rfl ?_
  refine yb_get (v := .ref (s + 5)) rfl (xd_Sp hs).1 (xd_Sp hs).2 ((xd_S hs L _ _).1) rfl ?_
  refine yb_push (v := 0) rfl ?_
  refine yb_push (v := 30) rfl ?_
  refine yb_copyl (n := (30 : Int)) rfl (by decide) (xd_Al5 ht) (xd_Al5 hs) (by decide) ?_
  refine yb_aload rfl rfl ?_
  refine yb_aload rfl rfl ?_
  refine yb_get (v := .int (xJ ((xcp (xcp (xcp (xcp d (t + 1) (s + 1) (9 : Int)) (t + 2) (s + 2) (9 : Int)) (t + 3) (s + 3) (9 : Int)) (t + 4) (s + 4) (54 : Int)) t (5 : Int)))) rfl (xd_Sp ht).1 (xd_Sp ht).2 ((xd_S ht L _ _).1) rfl ?_
  refine yb_put (z := ((xcp (xcp (xcp (xcp d (t + 1) (s + 1) (9 : Int)) (t + 2) (s + 2) (9 : Int)) (t + 3) (s + 3) (9 : Int)) (t + 4) (s + 4) (54 : Int)) t (5 : Int))) (k := 5) rfl rfl (xd_Sp hs).1 (xd_Sp hs).2 ((xd_S hs L _ _).1) (Nat.le_of_ble_eq_true rfl) rfl (by rw [(xd_S hs L _ _).1]; show (Sum.inr (5, [_, _, _, _, _, Value.int (xJ (xs _ s 5 _ s 5))]) : va_E) = _; rw [xs_eq]; rfl) ?_
  exact yb_retv rfl h
theorem yk_51_11_0 {D L : Nat} {P : Int → xh_D → xd_E → Prop} {d : xh_D} {e : xd_E} {a1 : Int} {a2 : Int}   (h : yB D xm_c51 (yQi L P) L 4 [.ref 11, .int (xJ a1), .int (xJ a2), .int (xJ (0 : Int)), .int (xJ (0 : Int))] [] d e) : yB D xm_c51 (yQi L P) L 0 [.ref 11, .int (xJ a1), .int (xJ a2), .double 0, .double 0] [] d e := by
  refine yb_push (v := 0) rfl ?_
  refine yb_istore rfl rfl rfl ?_
  refine yb_push (v := 0) rfl ?_
  refine yb_istore rfl rfl rfl ?_
  exact h
theorem yk_51_11_4 {D L : Nat} {P : Int → xh_D → xd_E → Prop} {d : xh_D} {e : xd_E}  {l1 : Int} {l2 : Int} {l3 : Int} {l4 : Int}  (h : ((-2147483648 ≤ l4 ∧ l4 < 2147483648) ∧ ((-2147483648 ≤ l2 ∧ l2 < 2147483648) ∧ (((l2 ≤ l4) → P l3 d e) ∧ ((¬ l2 ≤ l4) → ((0 ≤ l4 ∧ l4 < 9) ∧ ((0 ≤ l1 ∧ l1 < 2147483648) ∧ ((-2147483648 ≤ (d 12 l4) ∧ (d 12 l4) < 2147483648) ∧ (((¬ (d 12 l4) = (l1 % (9 : Int))) → yB D xm_c51 (yQi L P) L 4 [.ref 11, .int (xJ l1), .int (xJ l2), .int (xJ (xi_or l3 (0 : Int))), .int (xJ (l4 + 1))] [] d e) ∧ (((d 12 l4) = (l1 % (9 : Int))) → yB D xm_c51 (yQi L P) L 4 [.ref 11, .int (xJ l1), .int (xJ l2), .int (xJ (xi_or l3 (xi_shl (1 : Int) l4))), .int (xJ (l4 + 1))] [] d e)))))))))) : yB D xm_c51 (yQi L P) L 4 [.ref 11, .int (xJ l1), .int (xJ l2), .int (xJ l3), .int (xJ l4)] [] d e := by
  refine yb_iload (x := l4) rfl rfl ?_
  refine yb_iload (x := l2) rfl rfl ?_
  have r1 := h.1
  replace h := h.2
  have r2 := h.1
  replace h := h.2
  refine yb_icmp_ge (x := l4) (y := l2) rfl rfl r1 r2 (fun c => ?_) (fun c => ?_)
  · replace h := h.1 c
    refine yb_iload (x := l3) rfl rfl ?_
    exact yb_ret rfl h
  · replace h := h.2 c
    refine yb_iload (x := l3) rfl rfl ?_
    refine yb_aload rfl rfl ?_
    refine yb_get (v := .ref 12) rfl (by decide) (by decide) (rfl) rfl ?_
    refine yb_iload (x := l4) rfl rfl ?_
    have r3 := h.1
    replace h := h.2
    refine yb_iald (j := l4) rfl xd_A12 (by decide) r3 (v := (d 12 l4)) rfl ?_
    refine yb_iload (x := l1) rfl rfl ?_
    refine yb_push (v := 9) rfl ?_
    have r4 := h.1
    replace h := h.2
    refine yb_irem (x := l1) (y := (9 : Int)) rfl r4 (by decide) ?_
    have r5 := h.1
    replace h := h.2
    refine yb_icmp_ne (x := (d 12 l4)) (y := (l1 % (9 : Int))) rfl rfl r5 (by omega) (fun c => ?_) (fun c => ?_)
    · replace h := h.1 c
      refine yb_push (v := 0) rfl ?_
      refine yb_ior (x := l3) (y := (0 : Int)) rfl ?_
      refine yb_istore rfl rfl rfl ?_
      refine yb_iinc (x := l4) (n := 1) rfl rfl rfl rfl ?_
      refine yb_goto rfl rfl ?_
      exact h
    · replace h := h.2 c
      refine yb_push (v := 1) rfl ?_
      refine yb_iload (x := l4) rfl rfl ?_
      refine yb_ishl (x := (1 : Int)) (y := l4) rfl ?_
      refine yb_goto rfl rfl ?_
      refine yb_ior (x := l3) (y := (xi_shl (1 : Int) l4)) rfl ?_
      refine yb_istore rfl rfl rfl ?_
      refine yb_iinc (x := l4) (n := 1) rfl rfl rfl rfl ?_
      refine yb_goto rfl rfl ?_
      exact h
theorem yk_52_11_0 {D L : Nat} {P : Int → xh_D → xd_E → Prop} {d : xh_D} {e : xd_E} {a1 : Int} {a2 : Int} {a3 : Int}   (h : yB D xm_c52 (yQi L P) L 4 [.ref 11, .int (xJ a1), .int (xJ a2), .int (xJ a3), .int (xJ (0 : Int)), .int (xJ (0 : Int))] [] d e) : yB D xm_c52 (yQi L P) L 0 [.ref 11, .int (xJ a1), .int (xJ a2), .int (xJ a3), .double 0, .double 0] [] d e := by
  refine yb_push (v := 0) rfl ?_
  refine yb_istore rfl rfl rfl ?_
  refine yb_push (v := 0) rfl ?_
  refine yb_istore rfl rfl rfl ?_
  exact h
theorem yk_52_11_4 {D L : Nat} {P : Int → xh_D → xd_E → Prop} {d : xh_D} {e : xd_E}  {l1 : Int} {l2 : Int} {l3 : Int} {l4 : Int} {l5 : Int}  (hD : 2 ≤ D) (h : ((-2147483648 ≤ l5 ∧ l5 < 2147483648) ∧ ((-2147483648 ≤ l3 ∧ l3 < 2147483648) ∧ (((l3 ≤ l5) → P l4 d e) ∧ ((¬ l3 ≤ l5) → ((0 ≤ l5 ∧ l5 < 9) ∧ ((0 ≤ (d 13 l5) ∧ (d 13 l5) < 9) ∧ ((0 ≤ l1 ∧ l1 < 9) ∧ ((-2147483648 ≤ l2 ∧ l2 < 2147483648) ∧ (((l2 < (xp_apart (d 13 l5) l1)) → yB D xm_c52 (yQi L P) L 4 [.ref 11, .int (xJ l1), .int (xJ l2), .int (xJ l3), .int (xJ (xi_or l4 (0 : Int))), .int (xJ (l5 + 1))] [] d e) ∧ ((¬ l2 < (xp_apart (d 13 l5) l1)) → yB D xm_c52 (yQi L P) L 4 [.ref 11, .int (xJ l1), .int (xJ l2), .int (xJ l3), .int (xJ (xi_or l4 (xi_shl (1 : Int) l5))), .int (xJ (l5 + 1))] [] d e))))))))))) : yB D xm_c52 (yQi L P) L 4 [.ref 11, .int (xJ l1), .int (xJ l2), .int (xJ l3), .int (xJ l4), .int (xJ l5)] [] d e := by
  refine yb_iload (x := l5) rfl rfl ?_
  refine yb_iload (x := l3) rfl rfl ?_
  have r1 := h.1
  replace h := h.2
  have r2 := h.1
  replace h := h.2
  refine yb_icmp_ge (x := l5) (y := l3) rfl rfl r1 r2 (fun c => ?_) (fun c => ?_)
  · replace h := h.1 c
    refine yb_iload (x := l4) rfl rfl ?_
    exact yb_ret rfl h
  · replace h := h.2 c
    refine yb_iload (x := l4) rfl rfl ?_
    refine yb_aload rfl rfl ?_
    refine yb_get (v := .ref 13) rfl (by decide) (by decide) (rfl) rfl ?_
    refine yb_iload (x := l5) rfl rfl ?_
    have r3 := h.1
    replace h := h.2
    refine yb_iald (j := l5) rfl xd_A13 (by decide) r3 (v := (d 13 l5)) rfl ?_
    refine yb_iload (x := l1) rfl rfl ?_
    have r4 := h.1
    replace h := h.2
    have r5 := h.1
    replace h := h.2
    refine yb_callSi (As := [.int (xJ (d 13 l5)), .int (xJ l1)]) rfl rfl rfl rfl rfl rfl rfl rfl (by show (1 : Nat) ≤ 8; decide) (sp_177 (by omega) ⟨r4, r5⟩ ?_)
    show yB D xm_c52 _ L 14 [.ref 11, .int (xJ l1), .int (xJ l2), .int (xJ l3), .int (xJ l4), .int (xJ l5)] [.int (xJ (xp_apart (d 13 l5) l1)), .int (xJ l4)] d e
    refine yb_iload (x := l2) rfl rfl ?_
    have r6 := h.1
    replace h := h.2
    refine yb_icmp_gt (x := (xp_apart (d 13 l5) l1)) (y := l2) rfl rfl (xp_apart_r (by omega) (by omega)) r6 (fun c => ?_) (fun c => ?_)
    · replace h := h.1 c
      refine yb_push (v := 0) rfl ?_
      refine yb_ior (x := l4) (y := (0 : Int)) rfl ?_
      refine yb_istore rfl rfl rfl ?_
      refine yb_iinc (x := l5) (n := 1) rfl rfl rfl rfl ?_
      refine yb_goto rfl rfl ?_
      exact h
    · replace h := h.2 c
      refine yb_push (v := 1) rfl ?_
      refine yb_iload (x := l5) rfl rfl ?_
      refine yb_ishl (x := (1 : Int)) (y := l5) rfl ?_
      refine yb_goto rfl rfl ?_
      refine yb_ior (x := l4) (y := (xi_shl (1 : Int) l5)) rfl ?_
      refine yb_istore rfl rfl rfl ?_
      refine yb_iinc (x := l5) (n := 1) rfl rfl rfl rfl ?_
      refine yb_goto rfl rfl ?_
      exact h
theorem yk_56_11_0 {D L : Nat} {P : Int → xh_D → xd_E → Prop} {d : xh_D} {e : xd_E} {a1 : Int} {a2 : Int}   (h : ((0 ≤ a2 ∧ a2 < 9) ∧ ((0 ≤ a1 ∧ a1 < 9) ∧ (∀ v3, v3 = (xi_and (d 14 a2) (xi_xor (d 14 a1) (-1 : Int))) → yB D xm_c56 (yQi L P) L 14 [.ref 11, .int (xJ a1), .double 0, .int (xJ v3), .int (xJ (0 : Int))] [] d e)))) : yB D xm_c56 (yQi L P) L 0 [.ref 11, .int (xJ a1), .int (xJ a2), .double 0, .double 0] [] d e := by
  refine yb_aload rfl rfl ?_
  refine yb_get (v := .ref 14) rfl (by decide) (by decide) (rfl) rfl ?_
  refine yb_iload (x := a2) rfl rfl ?_
  have r1 := h.1
  replace h := h.2
  refine yb_iald (j := a2) rfl xd_A14 (by decide) r1 (v := (d 14 a2)) rfl ?_
  refine yb_aload rfl rfl ?_
  refine yb_get (v := .ref 14) rfl (by decide) (by decide) (rfl) rfl ?_
  refine yb_iload (x := a1) rfl rfl ?_
  have r2 := h.1
  replace h := h.2
  refine yb_iald (j := a1) rfl xd_A14 (by decide) r2 (v := (d 14 a1)) rfl ?_
  refine yb_push (v := (-1)) rfl ?_
  refine yb_ixor (x := (d 14 a1)) (y := (-1 : Int)) rfl ?_
  refine yb_iand (x := (d 14 a2)) (y := (xi_xor (d 14 a1) (-1 : Int))) rfl ?_
  replace h := h _ rfl
  refine yb_istore rfl rfl rfl ?_
  refine yb_push (v := 0) rfl ?_
  refine yb_istore rfl rfl rfl ?_
  refine yb_forget (dl := [.ref 11, .int (xJ a1), .double 0, .int (xJ (xi_and (d 14 a2) (xi_xor (d 14 a1) (-1 : Int)))), .int (xJ (0 : Int))]) ⟨Or.inl rfl, ⟨Or.inl rfl, ⟨Or.inr ⟨rfl, rfl⟩, ⟨Or.inl rfl, ⟨Or.inl rfl, trivial⟩⟩⟩⟩⟩ ?_
  exact h
theorem yk_56_11_14 {D L : Nat} {P : Int → xh_D → xd_E → Prop} {d : xh_D} {e : xd_E}  {l1 : Int} {l3 : Int} {l4 : Int}  (h : ((-2147483648 ≤ l4 ∧ l4 < 2147483648) ∧ ((((6 : Int) ≤ l4) → P (0 : Int) d e) ∧ ((¬ (6 : Int) ≤ l4) → ((((xi_and (xi_shr l3 l4) (1 : Int)) = 0) → yB D xm_c56 (yQi L P) L 14 [.ref 11, .int (xJ l1), .double 0, .int (xJ l3), .int (xJ (l4 + 1))] [] d e) ∧ ((¬ (xi_and (xi_shr l3 l4) (1 : Int)) = 0) → ((0 ≤ ((l1 * (6 : Int)) + l4) ∧ ((l1 * (6 : Int)) + l4) < 54) ∧ ((-2147483648 ≤ ((d 15 ((l1 * (6 : Int)) + l4)) + (1 : Int)) ∧ ((d 15 ((l1 * (6 : Int)) + l4)) + (1 : Int)) < 2147483648) ∧ ((((3 : Int) ≤ ((d 15 ((l1 * (6 : Int)) + l4)) + (1 : Int))) → ((0 ≤ l1 ∧ l1 < 9) ∧ P (1 : Int) (xs (xs d 15 ((l1 * (6 : Int)) + l4) ((d 15 ((l1 * (6 : Int)) + l4)) + (1 : Int))) 14 l1 (xi_or (d 14 l1) (xi_shl (1 : Int) l4))) e)) ∧ ((¬ (3 : Int) ≤ ((d 15 ((l1 * (6 : Int)) + l4)) + (1 : Int))) → P (0 : Int) (xs d 15 ((l1 * (6 : Int)) + l4) ((d 15 ((l1 * (6 : Int)) + l4)) + (1 : Int))) e)))))))))) : yB D xm_c56 (yQi L P) L 14 [.ref 11, .int (xJ l1), .double 0, .int (xJ l3), .int (xJ l4)] [] d e := by
  refine yb_iload (x := l4) rfl rfl ?_
  refine yb_push (v := 6) rfl ?_
  have r1 := h.1
  replace h := h.2
  refine yb_icmp_ge (x := l4) (y := (6 : Int)) rfl rfl r1 (by decide) (fun c => ?_) (fun c => ?_)
  · replace h := h.1 c
    refine yb_push (v := 0) rfl ?_
    exact yb_ret rfl h
  · replace h := h.2 c
    refine yb_iload (x := l3) rfl rfl ?_
    refine yb_iload (x := l4) rfl rfl ?_
    refine yb_ishr (x := l3) (y := l4) rfl ?_
    refine yb_push (v := 1) rfl ?_
    refine yb_iand (x := (xi_shr l3 l4)) (y := (1 : Int)) rfl ?_
    refine yb_if_eq (x := (xi_and (xi_shr l3 l4) (1 : Int))) rfl rfl (xJ_rng _) (fun c => ?_) (fun c => ?_)
    · replace h := h.1 c
      refine yb_iinc (x := l4) (n := 1) rfl rfl rfl rfl ?_
      refine yb_goto rfl rfl ?_
      exact h
    · replace h := h.2 c
      refine yb_aload rfl rfl ?_
      refine yb_get (v := .ref 15) rfl (by decide) (by decide) (rfl) rfl ?_
      refine yb_iload (x := l1) rfl rfl ?_
      refine yb_push (v := 6) rfl ?_
      refine yb_imul (x := l1) (y := (6 : Int)) rfl ?_
      refine yb_iload (x := l4) rfl rfl ?_
      refine yb_iadd (x := (l1 * (6 : Int))) (y := l4) rfl ?_
      refine yb_dup2 rfl rfl rfl ?_
      have r2 := h.1
      replace h := h.2
      refine yb_iald (j := ((l1 * (6 : Int)) + l4)) rfl xd_A15 (by decide) r2 (v := (d 15 ((l1 * (6 : Int)) + l4))) rfl ?_
      refine yb_push (v := 1) rfl ?_
      refine yb_iadd (x := (d 15 ((l1 * (6 : Int)) + l4))) (y := (1 : Int)) rfl ?_
      refine yb_iast (j := ((l1 * (6 : Int)) + l4)) (x := ((d 15 ((l1 * (6 : Int)) + l4)) + (1 : Int))) rfl xd_A15 (by decide) r2 ?_
      refine yb_aload rfl rfl ?_
      refine yb_get (v := .ref 15) rfl (by decide) (by decide) (rfl) rfl ?_
      refine yb_iload (x := l1) rfl rfl ?_
      refine yb_push (v := 6) rfl ?_
      refine yb_imul (x := l1) (y := (6 : Int)) rfl ?_
      refine yb_iload (x := l4) rfl rfl ?_
      refine yb_iadd (x := (l1 * (6 : Int))) (y := l4) rfl ?_
      refine yb_iald (j := ((l1 * (6 : Int)) + l4)) rfl xd_A15 (by decide) r2 (v := ((d 15 ((l1 * (6 : Int)) + l4)) + (1 : Int))) xs_eq ?_
      refine yb_push (v := 3) rfl ?_
      have r3 := h.1
      replace h := h.2
      refine yb_icmp_ge (x := ((d 15 ((l1 * (6 : Int)) + l4)) + (1 : Int))) (y := (3 : Int)) rfl rfl r3 (by decide) (fun c => ?_) (fun c => ?_)
      · replace h := h.1 c
        refine yb_aload rfl rfl ?_
        refine yb_get (v := .ref 14) rfl (by decide) (by decide) (rfl) rfl ?_
        refine yb_iload (x := l1) rfl rfl ?_
        refine yb_dup2 rfl rfl rfl ?_
        have r4 := h.1
        replace h := h.2
        refine yb_iald (j := l1) rfl xd_A14 (by decide) r4 (v := (d 14 l1)) (xs_np (by decide)) ?_
        refine yb_push (v := 1) rfl ?_
        refine yb_iload (x := l4) rfl rfl ?_
        refine yb_ishl (x := (1 : Int)) (y := l4) rfl ?_
        refine yb_ior (x := (d 14 l1)) (y := (xi_shl (1 : Int) l4)) rfl ?_
        refine yb_iast (j := l1) (x := (xi_or (d 14 l1) (xi_shl (1 : Int) l4))) rfl xd_A14 (by decide) r4 ?_
        refine yb_push (v := 1) rfl ?_
        exact yb_ret rfl h
      · replace h := h.2 c
        refine yb_push (v := 0) rfl ?_
        exact yb_ret rfl h
theorem yk_56_17_0 {D L : Nat} {P : Int → xh_D → xd_E → Prop} {d : xh_D} {e : xd_E} {a1 : Int} {a2 : Int}   (h : ((0 ≤ a2 ∧ a2 < 9) ∧ ((0 ≤ a1 ∧ a1 < 9) ∧ (∀ v3, v3 = (xi_and (d 20 a2) (xi_xor (d 20 a1) (-1 : Int))) → yB D xm_c56 (yQi L P) L 14 [.ref 17, .int (xJ a1), .double 0, .int (xJ v3), .int (xJ (0 : Int))] [] d e)))) : yB D xm_c56 (yQi L P) L 0 [.ref 17, .int (xJ a1), .int (xJ a2), .double 0, .double 0] [] d e := by
  refine yb_aload rfl rfl ?_
  refine yb_get (v := .ref 20) rfl (by decide) (by decide) (rfl) rfl ?_
  refine yb_iload (x := a2) rfl rfl ?_
  have r1 := h.1
  replace h := h.2
  refine yb_iald (j := a2) rfl xd_A20 (by decide) r1 (v := (d 20 a2)) rfl ?_
  refine yb_aload rfl rfl ?_
  refine yb_get (v := .ref 20) rfl (by decide) (by decide) (rfl) rfl ?_
  refine yb_iload (x := a1) rfl rfl ?_
  have r2 := h.1
  replace h := h.2
  refine yb_iald (j := a1) rfl xd_A20 (by decide) r2 (v := (d 20 a1)) rfl ?_
  refine yb_push (v := (-1)) rfl ?_
  refine yb_ixor (x := (d 20 a1)) (y := (-1 : Int)) rfl ?_
  refine yb_iand (x := (d 20 a2)) (y := (xi_xor (d 20 a1) (-1 : Int))) rfl ?_
  replace h := h _ rfl
  refine yb_istore rfl rfl rfl ?_
  refine yb_push (v := 0) rfl ?_
  refine yb_istore rfl rfl rfl ?_
  refine yb_forget (dl := [.ref 17, .int (xJ a1), .double 0, .int (xJ (xi_and (d 20 a2) (xi_xor (d 20 a1) (-1 : Int)))), .int (xJ (0 : Int))]) ⟨Or.inl rfl, ⟨Or.inl rfl, ⟨Or.inr ⟨rfl, rfl⟩, ⟨Or.inl rfl, ⟨Or.inl rfl, trivial⟩⟩⟩⟩⟩ ?_
  exact h
theorem yk_56_17_14 {D L : Nat} {P : Int → xh_D → xd_E → Prop} {d : xh_D} {e : xd_E}  {l1 : Int} {l3 : Int} {l4 : Int}  (h : ((-2147483648 ≤ l4 ∧ l4 < 2147483648) ∧ ((((6 : Int) ≤ l4) → P (0 : Int) d e) ∧ ((¬ (6 : Int) ≤ l4) → ((((xi_and (xi_shr l3 l4) (1 : Int)) = 0) → yB D xm_c56 (yQi L P) L 14 [.ref 17, .int (xJ l1), .double 0, .int (xJ l3), .int (xJ (l4 + 1))] [] d e) ∧ ((¬ (xi_and (xi_shr l3 l4) (1 : Int)) = 0) → ((0 ≤ ((l1 * (6 : Int)) + l4) ∧ ((l1 * (6 : Int)) + l4) < 54) ∧ ((-2147483648 ≤ ((d 21 ((l1 * (6 : Int)) + l4)) + (1 : Int)) ∧ ((d 21 ((l1 * (6 : Int)) + l4)) + (1 : Int)) < 2147483648) ∧ ((((3 : Int) ≤ ((d 21 ((l1 * (6 : Int)) + l4)) + (1 : Int))) → ((0 ≤ l1 ∧ l1 < 9) ∧ P (1 : Int) (xs (xs d 21 ((l1 * (6 : Int)) + l4) ((d 21 ((l1 * (6 : Int)) + l4)) + (1 : Int))) 20 l1 (xi_or (d 20 l1) (xi_shl (1 : Int) l4))) e)) ∧ ((¬ (3 : Int) ≤ ((d 21 ((l1 * (6 : Int)) + l4)) + (1 : Int))) → P (0 : Int) (xs d 21 ((l1 * (6 : Int)) + l4) ((d 21 ((l1 * (6 : Int)) + l4)) + (1 : Int))) e)))))))))) : yB D xm_c56 (yQi L P) L 14 [.ref 17, .int (xJ l1), .double 0, .int (xJ l3), .int (xJ l4)] [] d e := by
  refine yb_iload (x := l4) rfl rfl ?_
  refine yb_push (v := 6) rfl ?_
  have r1 := h.1
  replace h := h.2
  refine yb_icmp_ge (x := l4) (y := (6 : Int)) rfl rfl r1 (by decide) (fun c => ?_) (fun c => ?_)
  · replace h := h.1 c
    refine yb_push (v := 0) rfl ?_
    exact yb_ret rfl h
  · replace h := h.2 c
    refine yb_iload (x := l3) rfl rfl ?_
    refine yb_iload (x := l4) rfl rfl ?_
    refine yb_ishr (x := l3) (y := l4) rfl ?_
    refine yb_push (v := 1) rfl ?_
    refine yb_iand (x := (xi_shr l3 l4)) (y := (1 : Int)) rfl ?_
    refine yb_if_eq (x := (xi_and (xi_shr l3 l4) (1 : Int))) rfl rfl (xJ_rng _) (fun c => ?_) (fun c => ?_)
    · replace h := h.1 c
      refine yb_iinc (x := l4) (n := 1) rfl rfl rfl rfl ?_
      refine yb_goto rfl rfl ?_
      exact h
    · replace h := h.2 c
      refine yb_aload rfl rfl ?_
      refine yb_get (v := .ref 21) rfl (by decide) (by decide) (rfl) rfl ?_
      refine yb_iload (x := l1) rfl rfl ?_
      refine yb_push (v := 6) rfl ?_
      refine yb_imul (x := l1) (y := (6 : Int)) rfl ?_
      refine yb_iload (x := l4) rfl rfl ?_
      refine yb_iadd (x := (l1 * (6 : Int))) (y := l4) rfl ?_
      refine yb_dup2 rfl rfl rfl ?_
      have r2 := h.1
      replace h := h.2
      refine yb_iald (j := ((l1 * (6 : Int)) + l4)) rfl xd_A21 (by decide) r2 (v := (d 21 ((l1 * (6 : Int)) + l4))) rfl ?_
      refine yb_push (v := 1) rfl ?_
      refine yb_iadd (x := (d 21 ((l1 * (6 : Int)) + l4))) (y := (1 : Int)) rfl ?_
      refine yb_iast (j := ((l1 * (6 : Int)) + l4)) (x := ((d 21 ((l1 * (6 : Int)) + l4)) + (1 : Int))) rfl xd_A21 (by decide) r2 ?_
      refine yb_aload rfl rfl ?_
      refine yb_get (v := .ref 21) rfl (by decide) (by decide) (rfl) rfl ?_
      refine yb_iload (x := l1) rfl rfl ?_
      refine yb_push (v := 6) rfl ?_
      refine yb_imul (x := l1) (y := (6 : Int)) rfl ?_
      refine yb_iload (x := l4) rfl rfl ?_
      refine yb_iadd (x := (l1 * (6 : Int))) (y := l4) rfl ?_
      refine yb_iald (j := ((l1 * (6 : Int)) + l4)) rfl xd_A21 (by decide) r2 (v := ((d 21 ((l1 * (6 : Int)) + l4)) + (1 : Int))) xs_eq ?_
      refine yb_push (v := 3) rfl ?_
      have r3 := h.1
      replace h := h.2
      refine yb_icmp_ge (x := ((d 21 ((l1 * (6 : Int)) + l4)) + (1 : Int))) (y := (3 : Int)) rfl rfl r3 (by decide) (fun c => ?_) (fun c => ?_)
      · replace h := h.1 c
        refine yb_aload rfl rfl ?_
        refine yb_get (v := .ref 20) rfl (by decide) (by decide) (rfl) rfl ?_
        refine yb_iload (x := l1) rfl rfl ?_
        refine yb_dup2 rfl rfl rfl ?_
        have r4 := h.1
        replace h := h.2
        refine yb_iald (j := l1) rfl xd_A20 (by decide) r4 (v := (d 20 l1)) (xs_np (by decide)) ?_
        refine yb_push (v := 1) rfl ?_
        refine yb_iload (x := l4) rfl rfl ?_
        refine yb_ishl (x := (1 : Int)) (y := l4) rfl ?_
        refine yb_ior (x := (d 20 l1)) (y := (xi_shl (1 : Int) l4)) rfl ?_
        refine yb_iast (j := l1) (x := (xi_or (d 20 l1) (xi_shl (1 : Int) l4))) rfl xd_A20 (by decide) r4 ?_
        refine yb_push (v := 1) rfl ?_
        exact yb_ret rfl h
      · replace h := h.2 c
        refine yb_push (v := 0) rfl ?_
        exact yb_ret rfl h
theorem yk_59_11_0 {D L : Nat} {P : xh_D → xd_E → Prop} {d : xh_D} {e : xd_E} {a1 : Int}   (h : yB D xm_c59 (yQv L P) L 4 [.ref 11, .int (xJ a1), .long (0 : Int64), .double 0, .int (xJ (8 : Int))] [] d e) : yB D xm_c59 (yQv L P) L 0 [.ref 11, .int (xJ a1), .double 0, .double 0, .double 0] [] d e := by
  refine yb_lconst rfl ?_
  refine yb_lstore rfl rfl rfl ?_
  refine yb_push (v := 8) rfl ?_
  refine yb_istore rfl rfl rfl ?_
  exact h
theorem yk_59_11_4 {D L : Nat} {P : xh_D → xd_E → Prop} {d : xh_D} {e : xd_E}  {l1 : Int} {l2 : Int64} {l4 : Int}  (hD : 2 ≤ D) (h : ((-2147483648 ≤ l4 ∧ l4 < 2147483648) ∧ (((l4 < 0) → ((0 ≤ (d 11 (5 : Int)) - (0 : Int) ∧ (d 11 (5 : Int)) - (0 : Int) < 2147483648) ∧ ((0 ≤ (((d 11 (5 : Int)) - (0 : Int)) % (30 : Int)) ∧ (((d 11 (5 : Int)) - (0 : Int)) % (30 : Int)) < 30) ∧ P d (va_up e 16 (vp_updL (e 16) (((d 11 (5 : Int)) - (0 : Int)) % (30 : Int)).toNat l2))))) ∧ ((¬ l4 < 0) → ((-2147483648 ≤ l1 ∧ l1 < 2147483648) ∧ (((l1 ≤ l4) → (∀ v5, v5 = ((l2 <<< ((xJ (4 : Int)).toInt64 &&& 63)) ||| (xJ (11 : Int)).toInt64) → yB D xm_c59 (yQv L P) L 4 [.ref 11, .int (xJ l1), .long v5, .double 0, .int (xJ (l4 + (-1)))] [] d e)) ∧ ((¬ l1 ≤ l4) → (∀ v6, v6 = ((l2 <<< ((xJ (4 : Int)).toInt64 &&& 63)) ||| (xJ (10 : Int)).toInt64) → yB D xm_c59 (yQv L P) L 4 [.ref 11, .int (xJ l1), .long v6, .double 0, .int (xJ (l4 + (-1)))] [] d e)))))))) : yB D xm_c59 (yQv L P) L 4 [.ref 11, .int (xJ l1), .long l2, .double 0, .int (xJ l4)] [] d e := by
  refine yb_iload (x := l4) rfl rfl ?_
  have r1 := h.1
  replace h := h.2
  refine yb_if_lt (x := l4) rfl rfl r1 (fun c => ?_) (fun c => ?_)
  · replace h := h.1 c
    refine yb_aload rfl rfl ?_
    refine yb_get (v := .ref 16) rfl (by decide) (by decide) (rfl) rfl ?_
    refine yb_aload rfl rfl ?_
    refine yb_push (v := 0) rfl ?_
    have r2 := h.1
    replace h := h.2
    refine yb_callVi (As := [.int (xJ (0 : Int))]) (a := 11) rfl rfl rfl rfl rfl rfl rfl rfl (by decide) (by decide) (rfl) (by show (1 : Nat) ≤ 8; decide) (sp_292_11 (by omega) r2 ?_)
    show yB D xm_c59 _ L 25 [.ref 11, .int (xJ l1), .long l2, .double 0, .int (xJ l4)] [.int (xJ (((d 11 (5 : Int)) - (0 : Int)) % (30 : Int))), .ref 16] d e
    refine yb_lload rfl rfl ?_
    have r3 := h.1
    replace h := h.2
    refine yb_last (j := (((d 11 (5 : Int)) - (0 : Int)) % (30 : Int))) rfl xd_A16 r3 ?_
    exact yb_retv rfl h
  · replace h := h.2 c
    refine yb_lload rfl rfl ?_
    refine yb_push (v := 4) rfl ?_
    refine yb_lshl (y := (4 : Int)) rfl ?_
    refine yb_iload (x := l4) rfl rfl ?_
    refine yb_iload (x := l1) rfl rfl ?_
    have r4 := h.1
    replace h := h.2
    refine yb_icmp_ge (x := l4) (y := l1) rfl rfl r1 r4 (fun c => ?_) (fun c => ?_)
    · replace h := h.1 c
      refine yb_push (v := 11) rfl ?_
      refine yb_i2l (x := (11 : Int)) rfl ?_
      refine yb_lor rfl ?_
      replace h := h _ rfl
      refine yb_lstore rfl rfl rfl ?_
      refine yb_iinc (x := l4) (n := (-1)) rfl rfl rfl rfl ?_
      refine yb_goto rfl rfl ?_
      exact h
    · replace h := h.2 c
      refine yb_push (v := 10) rfl ?_
      refine yb_goto rfl rfl ?_
      refine yb_i2l (x := (10 : Int)) rfl ?_
      refine yb_lor rfl ?_
      replace h := h _ rfl
      refine yb_lstore rfl rfl rfl ?_
      refine yb_iinc (x := l4) (n := (-1)) rfl rfl rfl rfl ?_
      refine yb_goto rfl rfl ?_
      exact h
theorem yk_59_17_0 {D L : Nat} {P : xh_D → xd_E → Prop} {d : xh_D} {e : xd_E} {a1 : Int}   (h : yB D xm_c59 (yQv L P) L 4 [.ref 17, .int (xJ a1), .long (0 : Int64), .double 0, .int (xJ (8 : Int))] [] d e) : yB D xm_c59 (yQv L P) L 0 [.ref 17, .int (xJ a1), .double 0, .double 0, .double 0] [] d e := by
  refine yb_lconst rfl ?_
  refine yb_lstore rfl rfl rfl ?_
  refine yb_push (v := 8) rfl ?_
  refine yb_istore rfl rfl rfl ?_
  exact h
theorem yk_59_17_4 {D L : Nat} {P : xh_D → xd_E → Prop} {d : xh_D} {e : xd_E}  {l1 : Int} {l2 : Int64} {l4 : Int}  (hD : 2 ≤ D) (h : ((-2147483648 ≤ l4 ∧ l4 < 2147483648) ∧ (((l4 < 0) → ((0 ≤ (d 17 (5 : Int)) - (0 : Int) ∧ (d 17 (5 : Int)) - (0 : Int) < 2147483648) ∧ ((0 ≤ (((d 17 (5 : Int)) - (0 : Int)) % (30 : Int)) ∧ (((d 17 (5 : Int)) - (0 : Int)) % (30 : Int)) < 30) ∧ P d (va_up e 22 (vp_updL (e 22) (((d 17 (5 : Int)) - (0 : Int)) % (30 : Int)).toNat l2))))) ∧ ((¬ l4 < 0) → ((-2147483648 ≤ l1 ∧ l1 < 2147483648) ∧ (((l1 ≤ l4) → (∀ v5, v5 = ((l2 <<< ((xJ (4 : Int)).toInt64 &&& 63)) ||| (xJ (11 : Int)).toInt64) → yB D xm_c59 (yQv L P) L 4 [.ref 17, .int (xJ l1), .long v5, .double 0, .int (xJ (l4 + (-1)))] [] d e)) ∧ ((¬ l1 ≤ l4) → (∀ v6, v6 = ((l2 <<< ((xJ (4 : Int)).toInt64 &&& 63)) ||| (xJ (10 : Int)).toInt64) → yB D xm_c59 (yQv L P) L 4 [.ref 17, .int (xJ l1), .long v6, .double 0, .int (xJ (l4 + (-1)))] [] d e)))))))) : yB D xm_c59 (yQv L P) L 4 [.ref 17, .int (xJ l1), .long l2, .double 0, .int (xJ l4)] [] d e := by
  refine yb_iload (x := l4) rfl rfl ?_
  have r1 := h.1
  replace h := h.2
  refine yb_if_lt (x := l4) rfl rfl r1 (fun c => ?_) (fun c => ?_)
  · replace h := h.1 c
    refine yb_aload rfl rfl ?_
    refine yb_get (v := .ref 22) rfl (by decide) (by decide) (rfl) rfl ?_
    refine yb_aload rfl rfl ?_
    refine yb_push (v := 0) rfl ?_
    have r2 := h.1
    replace h := h.2
    refine yb_callVi (As := [.int (xJ (0 : Int))]) (a := 17) rfl rfl rfl rfl rfl rfl rfl rfl (by decide) (by decide) (rfl) (by show (1 : Nat) ≤ 8; decide) (sp_292_17 (by omega) r2 ?_)
    show yB D xm_c59 _ L 25 [.ref 17, .int (xJ l1), .long l2, .double 0, .int (xJ l4)] [.int (xJ (((d 17 (5 : Int)) - (0 : Int)) % (30 : Int))), .ref 22] d e
    refine yb_lload rfl rfl ?_
    have r3 := h.1
    replace h := h.2
    refine yb_last (j := (((d 17 (5 : Int)) - (0 : Int)) % (30 : Int))) rfl xd_A22 r3 ?_
    exact yb_retv rfl h
  · replace h := h.2 c
    refine yb_lload rfl rfl ?_
    refine yb_push (v := 4) rfl ?_
    refine yb_lshl (y := (4 : Int)) rfl ?_
    refine yb_iload (x := l4) rfl rfl ?_
    refine yb_iload (x := l1) rfl rfl ?_
    have r4 := h.1
    replace h := h.2
    refine yb_icmp_ge (x := l4) (y := l1) rfl rfl r1 r4 (fun c => ?_) (fun c => ?_)
    · replace h := h.1 c
      refine yb_push (v := 11) rfl ?_
      refine yb_i2l (x := (11 : Int)) rfl ?_
      refine yb_lor rfl ?_
      replace h := h _ rfl
      refine yb_lstore rfl rfl rfl ?_
      refine yb_iinc (x := l4) (n := (-1)) rfl rfl rfl rfl ?_
      refine yb_goto rfl rfl ?_
      exact h
    · replace h := h.2 c
      refine yb_push (v := 10) rfl ?_
      refine yb_goto rfl rfl ?_
      refine yb_i2l (x := (10 : Int)) rfl ?_
      refine yb_lor rfl ?_
      replace h := h _ rfl
      refine yb_lstore rfl rfl rfl ?_
      refine yb_iinc (x := l4) (n := (-1)) rfl rfl rfl rfl ?_
      refine yb_goto rfl rfl ?_
      exact h
theorem yk_60_11_0 {D L : Nat} {P : xh_D → xd_E → Prop} {d : xh_D} {e : xd_E} {a1 : Int} {a2 : Int}   (hD : 2 ≤ D) (h : ((0 ≤ (d 11 (5 : Int)) - (0 : Int) ∧ (d 11 (5 : Int)) - (0 : Int) < 2147483648) ∧ ((0 ≤ (((d 11 (5 : Int)) - (0 : Int)) % (30 : Int)) ∧ (((d 11 (5 : Int)) - (0 : Int)) % (30 : Int)) < 30) ∧ P d (va_up e 16 (vp_updL (e 16) (((d 11 (5 : Int)) - (0 : Int)) % (30 : Int)).toNat ((e 16 (((d 11 (5 : Int)) - (0 : Int)) % (30 : Int)).toNat) ^^^ ((xJ (xi_xor (10 : Int) a2)).toInt64 <<< ((xJ (a1 * (4 : Int))).toInt64 &&& 63)))))))) : yB D xm_c60 (yQv L P) L 0 [.ref 11, .int (xJ a1), .int (xJ a2), .double 0, .double 0] [] d e := by
  refine yb_push (v := 10) rfl ?_
  refine yb_iload (x := a2) rfl rfl ?_
  refine yb_ixor (x := (10 : Int)) (y := a2) rfl ?_
  refine yb_i2l (x := (xi_xor (10 : Int) a2)) rfl ?_
  refine yb_lstore rfl rfl rfl ?_
  refine yb_aload rfl rfl ?_
  refine yb_get (v := .ref 16) rfl (by decide) (by decide) (rfl) rfl ?_
  refine yb_aload rfl rfl ?_
  refine yb_push (v := 0) rfl ?_
  have r1 := h.1
  replace h := h.2
  refine yb_callVi (As := [.int (xJ (0 : Int))]) (a := 11) rfl rfl rfl rfl rfl rfl rfl rfl (by decide) (by decide) (rfl) (by show (1 : Nat) ≤ 8; decide) (sp_292_11 (by omega) r1 ?_)
  show yB D xm_c60 _ L 10 [.ref 11, .int (xJ a1), .int (xJ a2), .long (xJ (xi_xor (10 : Int) a2)).toInt64, .double 0] [.int (xJ (((d 11 (5 : Int)) - (0 : Int)) % (30 : Int))), .ref 16] d e
  refine yb_dup2 rfl rfl rfl ?_
  have r2 := h.1
  replace h := h.2
  refine yb_lald (j := (((d 11 (5 : Int)) - (0 : Int)) % (30 : Int))) rfl xd_A16 r2 rfl ?_
  refine yb_lload rfl rfl ?_
  refine yb_iload (x := a1) rfl rfl ?_
  refine yb_push (v := 4) rfl ?_
  refine yb_imul (x := a1) (y := (4 : Int)) rfl ?_
  refine yb_lshl (y := (a1 * (4 : Int))) rfl ?_
  refine yb_lxor rfl ?_
  refine yb_last (j := (((d 11 (5 : Int)) - (0 : Int)) % (30 : Int))) rfl xd_A16 r2 ?_
  exact yb_retv rfl h
theorem yk_60_17_0 {D L : Nat} {P : xh_D → xd_E → Prop} {d : xh_D} {e : xd_E} {a1 : Int} {a2 : Int}   (hD : 2 ≤ D) (h : ((0 ≤ (d 17 (5 : Int)) - (0 : Int) ∧ (d 17 (5 : Int)) - (0 : Int) < 2147483648) ∧ ((0 ≤ (((d 17 (5 : Int)) - (0 : Int)) % (30 : Int)) ∧ (((d 17 (5 : Int)) - (0 : Int)) % (30 : Int)) < 30) ∧ P d (va_up e 22 (vp_updL (e 22) (((d 17 (5 : Int)) - (0 : Int)) % (30 : Int)).toNat ((e 22 (((d 17 (5 : Int)) - (0 : Int)) % (30 : Int)).toNat) ^^^ ((xJ (xi_xor (10 : Int) a2)).toInt64 <<< ((xJ (a1 * (4 : Int))).toInt64 &&& 63)))))))) : yB D xm_c60 (yQv L P) L 0 [.ref 17, .int (xJ a1), .int (xJ a2), .double 0, .double 0] [] d e := by
  refine yb_push (v := 10) rfl ?_
  refine yb_iload (x := a2) rfl rfl ?_
  refine yb_ixor (x := (10 : Int)) (y := a2) rfl ?_
  refine yb_i2l (x := (xi_xor (10 : Int) a2)) rfl ?_
  refine yb_lstore rfl rfl rfl ?_
  refine yb_aload rfl rfl ?_
  refine yb_get (v := .ref 22) rfl (by decide) (by decide) (rfl) rfl ?_
  refine yb_aload rfl rfl ?_
  refine yb_push (v := 0) rfl ?_
  have r1 := h.1
  replace h := h.2
  refine yb_callVi (As := [.int (xJ (0 : Int))]) (a := 17) rfl rfl rfl rfl rfl rfl rfl rfl (by decide) (by decide) (rfl) (by show (1 : Nat) ≤ 8; decide) (sp_292_17 (by omega) r1 ?_)
  show yB D xm_c60 _ L 10 [.ref 17, .int (xJ a1), .int (xJ a2), .long (xJ (xi_xor (10 : Int) a2)).toInt64, .double 0] [.int (xJ (((d 17 (5 : Int)) - (0 : Int)) % (30 : Int))), .ref 22] d e
  refine yb_dup2 rfl rfl rfl ?_
  have r2 := h.1
  replace h := h.2
  refine yb_lald (j := (((d 17 (5 : Int)) - (0 : Int)) % (30 : Int))) rfl xd_A22 r2 rfl ?_
  refine yb_lload rfl rfl ?_
  refine yb_iload (x := a1) rfl rfl ?_
  refine yb_push (v := 4) rfl ?_
  refine yb_imul (x := a1) (y := (4 : Int)) rfl ?_
  refine yb_lshl (y := (a1 * (4 : Int))) rfl ?_
  refine yb_lxor rfl ?_
  refine yb_last (j := (((d 17 (5 : Int)) - (0 : Int)) % (30 : Int))) rfl xd_A22 r2 ?_
  exact yb_retv rfl h
theorem yk_63_11_0 {D L : Nat} {P : xh_D → xd_E → Prop} {d : xh_D} {e : xd_E} {a2 : Int}   (h : yB D xm_c63 (yQv L P) L 9 [.ref 127, .ref 11, .int (xJ a2), .int (xJ (0 : Int)), .double 0] [] (xs d 127 (9 : Int) ((xi_shl (1 : Int) a2) - (1 : Int))) e) : yB D xm_c63 (yQv L P) L 0 [.ref 127, .ref 11, .int (xJ a2), .double 0, .double 0] [] d e := by
  refine yb_aload rfl rfl ?_
  refine yb_push (v := 1) rfl ?_
  refine yb_iload (x := a2) rfl rfl ?_
  refine yb_ishl (x := (1 : Int)) (y := a2) rfl ?_
  refine yb_push (v := 1) rfl ?_
  refine yb_isub (x := (xi_shl (1 : Int) a2)) (y := (1 : Int)) rfl ?_
  refine yb_put (z := ((xi_shl (1 : Int) a2) - (1 : Int))) (k := 9) rfl rfl (by decide) (by decide) (rfl) (Nat.le_of_ble_eq_true rfl) rfl (rfl) ?_
  refine yb_push (v := 0) rfl ?_
  refine yb_istore rfl rfl rfl ?_
  exact h
theorem yk_63_11_9 {D L : Nat} {P : xh_D → xd_E → Prop} {d : xh_D} {e : xd_E}  {l2 : Int} {l3 : Int}  (h : ((-2147483648 ≤ l3 ∧ l3 < 2147483648) ∧ ((((9 : Int) ≤ l3) → yV D 6 L [.ref 130, .int (xJ (0 : Int))] d e (fun d2 e3 => yV D 6 L [.ref 131, .int (xJ (0 : Int))] d2 e3 (fun d4 e5 => yV D 6 L [.ref 132, .int (xJ (-1 : Int))] d4 e5 (fun d6 e7 => yB D xm_c63 (yQv L P) L 39 [.ref 127, .ref 11, .int (xJ l2), .int (xJ (0 : Int)), .double 0] [] (xs d6 127 (10 : Int) (0 : Int)) e7)))) ∧ ((¬ (9 : Int) ≤ l3) → yC D 51 L [.ref 11, .int (xJ l3), .int (xJ l2)] d e (fun x8 d9 e10 => ((0 ≤ l3 ∧ l3 < 9) ∧ yB D xm_c63 (yQv L P) L 9 [.ref 127, .ref 11, .int (xJ l2), .int (xJ (l3 + 1)), .double 0] [] (xs d9 133 l3 x8) e10)))))) : yB D xm_c63 (yQv L P) L 9 [.ref 127, .ref 11, .int (xJ l2), .int (xJ l3), .double 0] [] d e := by
  refine yb_iload (x := l3) rfl rfl ?_
  refine yb_push (v := 9) rfl ?_
  have r1 := h.1
  replace h := h.2
  refine yb_icmp_ge (x := l3) (y := (9 : Int)) rfl rfl r1 (by decide) (fun c => ?_) (fun c => ?_)
  · replace h := h.1 c
    refine yb_aload rfl rfl ?_
    refine yb_get (v := .ref 130) rfl (by decide) (by decide) (rfl) rfl ?_
    refine yb_push (v := 0) rfl ?_
    refine yb_callSv (As := [.ref 130, .int (xJ (0 : Int))]) rfl rfl rfl rfl rfl rfl rfl rfl (by decide) (yV_mono h (fun d2 e3 h => ?_))
    refine yb_aload rfl rfl ?_
    refine yb_get (v := .ref 131) rfl (by decide) (by decide) (rfl) rfl ?_
    refine yb_push (v := 0) rfl ?_
    refine yb_callSv (As := [.ref 131, .int (xJ (0 : Int))]) rfl rfl rfl rfl rfl rfl rfl rfl (by decide) (yV_mono h (fun d4 e5 h => ?_))
    refine yb_aload rfl rfl ?_
    refine yb_get (v := .ref 132) rfl (by decide) (by decide) (rfl) rfl ?_
    refine yb_push (v := (-1)) rfl ?_
    refine yb_callSv (As := [.ref 132, .int (xJ (-1 : Int))]) rfl rfl rfl rfl rfl rfl rfl rfl (by decide) (yV_mono h (fun d6 e7 h => ?_))
    refine yb_aload rfl rfl ?_
    refine yb_push (v := 0) rfl ?_
    refine yb_put (z := (0 : Int)) (k := 10) rfl rfl (by decide) (by decide) (rfl) (Nat.le_of_ble_eq_true rfl) rfl (rfl) ?_
    refine yb_push (v := 0) rfl ?_
    refine yb_istore rfl rfl rfl ?_
    exact h
  · replace h := h.2 c
    refine yb_aload rfl rfl ?_
    refine yb_get (v := .ref 133) rfl (by decide) (by decide) (rfl) rfl ?_
    refine yb_iload (x := l3) rfl rfl ?_
    refine yb_aload rfl rfl ?_
    refine yb_iload (x := l3) rfl rfl ?_
    refine yb_iload (x := l2) rfl rfl ?_
    refine yb_callVi (As := [.int (xJ l3), .int (xJ l2)]) (a := 11) rfl rfl rfl rfl rfl rfl rfl rfl (by decide) (by decide) (rfl) (by show (2 : Nat) ≤ 8; decide) (yC_mono h (fun x8 d9 e10 h => ?_))
    have r11 := h.1
    replace h := h.2
    refine yb_iast (j := l3) (x := x8) rfl xd_A133 (by decide) r11 ?_
    refine yb_iinc (x := l3) (n := 1) rfl rfl rfl rfl ?_
    refine yb_goto rfl rfl ?_
    exact h
theorem yk_63_11_39 {D L : Nat} {P : xh_D → xd_E → Prop} {d : xh_D} {e : xd_E}  {l2 : Int} {l3 : Int}  (h : ((-2147483648 ≤ l3 ∧ l3 < 2147483648) ∧ ((-2147483648 ≤ (d 127 (8 : Int)) ∧ (d 127 (8 : Int)) < 2147483648) ∧ ((((d 127 (8 : Int)) ≤ l3) → yB D xm_c63 (yQv L P) L 74 [.ref 127, .ref 11, .int (xJ l2), .int (xJ (0 : Int)), .double 0] [] d e) ∧ ((¬ (d 127 (8 : Int)) ≤ l3) → ((0 ≤ l3 ∧ l3 < 6) ∧ ((0 ≤ (xi_shl (1 : Int) (d 128 l3)) ∧ (xi_shl (1 : Int) (d 128 l3)) < 64) ∧ yB D xm_c63 (yQv L P) L 39 [.ref 127, .ref 11, .int (xJ l2), .int (xJ (l3 + 1)), .double 0] [] (xs (xs d 130 (xi_shl (1 : Int) (d 128 l3)) ((d 130 (xi_shl (1 : Int) (d 128 l3))) + (d 129 l3))) 127 (10 : Int) (xi_or (d 127 (10 : Int)) (xi_shl (1 : Int) (d 128 l3)))) e))))))) : yB D xm_c63 (yQv L P) L 39 [.ref 127, .ref 11, .int (xJ l2), .int (xJ l3), .double 0] [] d e := by
  refine yb_iload (x := l3) rfl rfl ?_
  refine yb_aload rfl rfl ?_
  refine yb_get (v := .int (xJ (d 127 (8 : Int)))) rfl (by decide) (by decide) (rfl) rfl ?_
  have r1 := h.1
  replace h := h.2
  have r2 := h.1
  replace h := h.2
  refine yb_icmp_ge (x := l3) (y := (d 127 (8 : Int))) rfl rfl r1 r2 (fun c => ?_) (fun c => ?_)
  · replace h := h.1 c
    refine yb_push (v := 0) rfl ?_
    refine yb_istore rfl rfl rfl ?_
    exact h
  · replace h := h.2 c
    refine yb_aload rfl rfl ?_
    refine yb_get (v := .ref 130) rfl (by decide) (by decide) (rfl) rfl ?_
    refine yb_push (v := 1) rfl ?_
    refine yb_aload rfl rfl ?_
    refine yb_get (v := .ref 128) rfl (by decide) (by decide) (rfl) rfl ?_
    refine yb_iload (x := l3) rfl rfl ?_
    have r3 := h.1
    replace h := h.2
    refine yb_iald (j := l3) rfl xd_A128 (by decide) r3 (v := (d 128 l3)) rfl ?_
    refine yb_ishl (x := (1 : Int)) (y := (d 128 l3)) rfl ?_
    refine yb_dup2 rfl rfl rfl ?_
    have r4 := h.1
    replace h := h.2
    refine yb_iald (j := (xi_shl (1 : Int) (d 128 l3))) rfl xd_A130 (by decide) r4 (v := (d 130 (xi_shl (1 : Int) (d 128 l3)))) rfl ?_
    refine yb_aload rfl rfl ?_
    refine yb_get (v := .ref 129) rfl (by decide) (by decide) (rfl) rfl ?_
    refine yb_iload (x := l3) rfl rfl ?_
    refine yb_iald (j := l3) rfl xd_A129 (by decide) r3 (v := (d 129 l3)) rfl ?_
    refine yb_iadd (x := (d 130 (xi_shl (1 : Int) (d 128 l3)))) (y := (d 129 l3)) rfl ?_
    refine yb_iast (j := (xi_shl (1 : Int) (d 128 l3))) (x := ((d 130 (xi_shl (1 : Int) (d 128 l3))) + (d 129 l3))) rfl xd_A130 (by decide) r4 ?_
    refine yb_aload rfl rfl ?_
    refine yb_dup rfl rfl ?_
    refine yb_get (v := .int (xJ (d 127 (10 : Int)))) rfl (by decide) (by decide) (rfl) rfl ?_
    refine yb_push (v := 1) rfl ?_
    refine yb_aload rfl rfl ?_
    refine yb_get (v := .ref 128) rfl (by decide) (by decide) (rfl) rfl ?_
    refine yb_iload (x := l3) rfl rfl ?_
    refine yb_iald (j := l3) rfl xd_A128 (by decide) r3 (v := (d 128 l3)) (xs_np (by decide)) ?_
    refine yb_ishl (x := (1 : Int)) (y := (d 128 l3)) rfl ?_
    refine yb_ior (x := (d 127 (10 : Int))) (y := (xi_shl (1 : Int) (d 128 l3))) rfl ?_
    refine yb_put (z := (xi_or (d 127 (10 : Int)) (xi_shl (1 : Int) (d 128 l3)))) (k := 10) rfl rfl (by decide) (by decide) (rfl) (Nat.le_of_ble_eq_true rfl) rfl (rfl) ?_
    refine yb_iinc (x := l3) (n := 1) rfl rfl rfl rfl ?_
    refine yb_goto rfl rfl ?_
    exact h
theorem yk_63_11_74 {D L : Nat} {P : xh_D → xd_E → Prop} {d : xh_D} {e : xd_E}  {l2 : Int} {l3 : Int}  (h : ((-2147483648 ≤ l3 ∧ l3 < 2147483648) ∧ ((-2147483648 ≤ l2 ∧ l2 < 2147483648) ∧ (((l2 ≤ l3) → yB D xm_c63 (yQv L P) L 107 [.ref 127, .double 0, .double 0, .int (xJ (1 : Int)), .double 0] [] d e) ∧ ((¬ l2 ≤ l3) → yB D xm_c63 (yQv L P) L 79 [.ref 127, .ref 11, .int (xJ l2), .int (xJ l3), .int (xJ (0 : Int))] [] d e))))) : yB D xm_c63 (yQv L P) L 74 [.ref 127, .ref 11, .int (xJ l2), .int (xJ l3), .double 0] [] d e := by
  refine yb_iload (x := l3) rfl rfl ?_
  refine yb_iload (x := l2) rfl rfl ?_
  have r1 := h.1
  replace h := h.2
  have r2 := h.1
  replace h := h.2
  refine yb_icmp_ge (x := l3) (y := l2) rfl rfl r1 r2 (fun c => ?_) (fun c => ?_)
  · replace h := h.1 c
    refine yb_push (v := 1) rfl ?_
    refine yb_istore rfl rfl rfl ?_
    refine yb_forget (dl := [.ref 127, .double 0, .double 0, .int (xJ (1 : Int)), .double 0]) ⟨Or.inl rfl, ⟨Or.inr ⟨rfl, rfl⟩, ⟨Or.inr ⟨rfl, rfl⟩, ⟨Or.inl rfl, ⟨Or.inl rfl, trivial⟩⟩⟩⟩⟩ ?_
    exact h
  · replace h := h.2 c
    refine yb_push (v := 0) rfl ?_
    refine yb_istore rfl rfl rfl ?_
    exact h
theorem yk_63_11_79 {D L : Nat} {P : xh_D → xd_E → Prop} {d : xh_D} {e : xd_E}  {l2 : Int} {l3 : Int} {l4 : Int}  (hD : 1 ≤ D) (h : ((-2147483648 ≤ l4 ∧ l4 < 2147483648) ∧ ((((6 : Int) ≤ l4) → yB D xm_c63 (yQv L P) L 74 [.ref 127, .ref 11, .int (xJ l2), .int (xJ (l3 + 1)), .double 0] [] d e) ∧ ((¬ (6 : Int) ≤ l4) → ((0 ≤ (xi_shl (1 : Int) l4) ∧ (xi_shl (1 : Int) l4) < 64) ∧ ((0 ≤ l3 ∧ l3 < 9) ∧ (((¬ xi_and (xi_shr (d 14 l3) l4) (1 : Int) = 0) → yB D xm_c63 (yQv L P) L 79 [.ref 127, .ref 11, .int (xJ l2), .int (xJ l3), .int (xJ (l4 + 1))] [] (xs d 131 (xi_shl (1 : Int) l4) (xi_or (d 131 (xi_shl (1 : Int) l4)) (xi_shl (1 : Int) l3))) e) ∧ (¬ (¬ xi_and (xi_shr (d 14 l3) l4) (1 : Int) = 0) → yB D xm_c63 (yQv L P) L 79 [.ref 127, .ref 11, .int (xJ l2), .int (xJ l3), .int (xJ (l4 + 1))] [] (xs d 131 (xi_shl (1 : Int) l4) (xi_or (d 131 (xi_shl (1 : Int) l4)) (0 : Int))) e)))))))) : yB D xm_c63 (yQv L P) L 79 [.ref 127, .ref 11, .int (xJ l2), .int (xJ l3), .int (xJ l4)] [] d e := by
  refine yb_iload (x := l4) rfl rfl ?_
  refine yb_push (v := 6) rfl ?_
  have r1 := h.1
  replace h := h.2
  refine yb_icmp_ge (x := l4) (y := (6 : Int)) rfl rfl r1 (by decide) (fun c => ?_) (fun c => ?_)
  · replace h := h.1 c
    refine yb_iinc (x := l3) (n := 1) rfl rfl rfl rfl ?_
    refine yb_goto rfl rfl ?_
    refine yb_forget (dl := [.ref 127, .ref 11, .int (xJ l2), .int (xJ (l3 + 1)), .double 0]) ⟨Or.inl rfl, ⟨Or.inl rfl, ⟨Or.inl rfl, ⟨Or.inl rfl, ⟨Or.inr ⟨rfl, rfl⟩, trivial⟩⟩⟩⟩⟩ ?_
    exact h
  · replace h := h.2 c
    refine yb_aload rfl rfl ?_
    refine yb_get (v := .ref 131) rfl (by decide) (by decide) (rfl) rfl ?_
    refine yb_push (v := 1) rfl ?_
    refine yb_iload (x := l4) rfl rfl ?_
    refine yb_ishl (x := (1 : Int)) (y := l4) rfl ?_
    refine yb_dup2 rfl rfl rfl ?_
    have r2 := h.1
    replace h := h.2
    refine yb_iald (j := (xi_shl (1 : Int) l4)) rfl xd_A131 (by decide) r2 (v := (d 131 (xi_shl (1 : Int) l4))) rfl ?_
    refine yb_aload rfl rfl ?_
    refine yb_iload (x := l3) rfl rfl ?_
    refine yb_iload (x := l4) rfl rfl ?_
    have r3 := h.1
    replace h := h.2
    refine yb_callVz (As := [.int (xJ l3), .int (xJ l4)]) (a := 11) rfl rfl rfl rfl rfl rfl rfl rfl (by decide) (by decide) (rfl) (by show (3 : Nat) ≤ 8; decide) (sp_54_11 (by omega) r3 (fun c => ?_) (fun c => ?_))
    · replace h := h.1 c
      show yB D xm_c63 _ L 93 [.ref 127, .ref 11, .int (xJ l2), .int (xJ l3), .int (xJ l4)] [.int (xJ (1 : Int)), .int (xJ (d 131 (xi_shl (1 : Int) l4))), .int (xJ (xi_shl (1 : Int) l4)), .ref 131] d e
      refine yb_if_eq (x := (1 : Int)) rfl rfl (by decide) (fun c => absurd c (by decide)) (fun _ => ?_)
      refine yb_push (v := 1) rfl ?_
      refine yb_iload (x := l3) rfl rfl ?_
      refine yb_ishl (x := (1 : Int)) (y := l3) rfl ?_
      refine yb_goto rfl rfl ?_
      refine yb_ior (x := (d 131 (xi_shl (1 : Int) l4))) (y := (xi_shl (1 : Int) l3)) rfl ?_
      refine yb_iast (j := (xi_shl (1 : Int) l4)) (x := (xi_or (d 131 (xi_shl (1 : Int) l4)) (xi_shl (1 : Int) l3))) rfl xd_A131 (by decide) r2 ?_
      refine yb_iinc (x := l4) (n := 1) rfl rfl rfl rfl ?_
      refine yb_goto rfl rfl ?_
      exact h
    · replace h := h.2 c
      show yB D xm_c63 _ L 93 [.ref 127, .ref 11, .int (xJ l2), .int (xJ l3), .int (xJ l4)] [.int (xJ (0 : Int)), .int (xJ (d 131 (xi_shl (1 : Int) l4))), .int (xJ (xi_shl (1 : Int) l4)), .ref 131] d e
      refine yb_if_eq (x := (0 : Int)) rfl rfl (by decide) (fun _ => ?_) (fun c => absurd (by decide) c)
      refine yb_push (v := 0) rfl ?_
      refine yb_ior (x := (d 131 (xi_shl (1 : Int) l4))) (y := (0 : Int)) rfl ?_
      refine yb_iast (j := (xi_shl (1 : Int) l4)) (x := (xi_or (d 131 (xi_shl (1 : Int) l4)) (0 : Int))) rfl xd_A131 (by decide) r2 ?_
      refine yb_iinc (x := l4) (n := 1) rfl rfl rfl rfl ?_
      refine yb_goto rfl rfl ?_
      exact h
theorem yk_63_11_107 {D L : Nat} {P : xh_D → xd_E → Prop} {d : xh_D} {e : xd_E}  {l3 : Int}  (h : ((-2147483648 ≤ l3 ∧ l3 < 2147483648) ∧ ((((64 : Int) ≤ l3) → P d e) ∧ ((¬ (64 : Int) ≤ l3) → ((((xi_and l3 (-l3)) = l3) → yB D xm_c63 (yQv L P) L 107 [.ref 127, .double 0, .double 0, .int (xJ (l3 + 1)), .double 0] [] d e) ∧ ((¬ (xi_and l3 (-l3)) = l3) → ((0 ≤ (xi_and l3 (-l3)) ∧ (xi_and l3 (-l3)) < 64) ∧ ((0 ≤ (xi_xor l3 (xi_and l3 (-l3))) ∧ (xi_xor l3 (xi_and l3 (-l3))) < 64) ∧ ((0 ≤ l3 ∧ l3 < 64) ∧ yB D xm_c63 (yQv L P) L 107 [.ref 127, .double 0, .double 0, .int (xJ (l3 + 1)), .double 0] [] (xs (xs d 130 l3 ((d 130 (xi_and l3 (-l3))) + (d 130 (xi_xor l3 (xi_and l3 (-l3)))))) 131 l3 (xi_or (d 131 (xi_and l3 (-l3))) (d 131 (xi_xor l3 (xi_and l3 (-l3)))))) e))))))))) : yB D xm_c63 (yQv L P) L 107 [.ref 127, .double 0, .double 0, .int (xJ l3), .double 0] [] d e := by
  refine yb_iload (x := l3) rfl rfl ?_
  refine yb_push (v := 64) rfl ?_
  have r1 := h.1
  replace h := h.2
  refine yb_icmp_ge (x := l3) (y := (64 : Int)) rfl rfl r1 (by decide) (fun c => ?_) (fun c => ?_)
  · replace h := h.1 c
    exact yb_retv rfl h
  · replace h := h.2 c
    refine yb_iload (x := l3) rfl rfl ?_
    refine yb_iload (x := l3) rfl rfl ?_
    refine yb_ineg (x := l3) rfl ?_
    refine yb_iand (x := l3) (y := (-l3)) rfl ?_
    refine yb_istore rfl rfl rfl ?_
    refine yb_iload (x := (xi_and l3 (-l3))) rfl rfl ?_
    refine yb_iload (x := l3) rfl rfl ?_
    refine yb_icmp_eq (x := (xi_and l3 (-l3))) (y := l3) rfl rfl (xJ_rng _) r1 (fun c => ?_) (fun c => ?_)
    · replace h := h.1 c
      refine yb_iinc (x := l3) (n := 1) rfl rfl rfl rfl ?_
      refine yb_goto rfl rfl ?_
      refine yb_forget (dl := [.ref 127, .double 0, .double 0, .int (xJ (l3 + 1)), .double 0]) ⟨Or.inl rfl, ⟨Or.inl rfl, ⟨Or.inl rfl, ⟨Or.inl rfl, ⟨Or.inr ⟨rfl, rfl⟩, trivial⟩⟩⟩⟩⟩ ?_
      exact h
    · replace h := h.2 c
      refine yb_aload rfl rfl ?_
      refine yb_get (v := .ref 130) rfl (by decide) (by decide) (rfl) rfl ?_
      refine yb_iload (x := l3) rfl rfl ?_
      refine yb_aload rfl rfl ?_
      refine yb_get (v := .ref 130) rfl (by decide) (by decide) (rfl) rfl ?_
      refine yb_iload (x := (xi_and l3 (-l3))) rfl rfl ?_
      have r2 := h.1
      replace h := h.2
      refine yb_iald (j := (xi_and l3 (-l3))) rfl xd_A130 (by decide) r2 (v := (d 130 (xi_and l3 (-l3)))) rfl ?_
      refine yb_aload rfl rfl ?_
      refine yb_get (v := .ref 130) rfl (by decide) (by decide) (rfl) rfl ?_
      refine yb_iload (x := l3) rfl rfl ?_
      refine yb_iload (x := (xi_and l3 (-l3))) rfl rfl ?_
      refine yb_ixor (x := l3) (y := (xi_and l3 (-l3))) rfl ?_
      have r3 := h.1
      replace h := h.2
      refine yb_iald (j := (xi_xor l3 (xi_and l3 (-l3)))) rfl xd_A130 (by decide) r3 (v := (d 130 (xi_xor l3 (xi_and l3 (-l3))))) rfl ?_
      refine yb_iadd (x := (d 130 (xi_and l3 (-l3)))) (y := (d 130 (xi_xor l3 (xi_and l3 (-l3))))) rfl ?_
      have r4 := h.1
      replace h := h.2
      refine yb_iast (j := l3) (x := ((d 130 (xi_and l3 (-l3))) + (d 130 (xi_xor l3 (xi_and l3 (-l3)))))) rfl xd_A130 (by decide) r4 ?_
      refine yb_aload rfl rfl ?_
      refine yb_get (v := .ref 131) rfl (by decide) (by decide) (rfl) rfl ?_
      refine yb_iload (x := l3) rfl rfl ?_
      refine yb_aload rfl rfl ?_
      refine yb_get (v := .ref 131) rfl (by decide) (by decide) (rfl) rfl ?_
      refine yb_iload (x := (xi_and l3 (-l3))) rfl rfl ?_
      refine yb_iald (j := (xi_and l3 (-l3))) rfl xd_A131 (by decide) r2 (v := (d 131 (xi_and l3 (-l3)))) (xs_np (by decide)) ?_
      refine yb_aload rfl rfl ?_
      refine yb_get (v := .ref 131) rfl (by decide) (by decide) (rfl) rfl ?_
      refine yb_iload (x := l3) rfl rfl ?_
      refine yb_iload (x := (xi_and l3 (-l3))) rfl rfl ?_
      refine yb_ixor (x := l3) (y := (xi_and l3 (-l3))) rfl ?_
      refine yb_iald (j := (xi_xor l3 (xi_and l3 (-l3)))) rfl xd_A131 (by decide) r3 (v := (d 131 (xi_xor l3 (xi_and l3 (-l3))))) (xs_np (by decide)) ?_
      refine yb_ior (x := (d 131 (xi_and l3 (-l3)))) (y := (d 131 (xi_xor l3 (xi_and l3 (-l3))))) rfl ?_
      refine yb_iast (j := l3) (x := (xi_or (d 131 (xi_and l3 (-l3))) (d 131 (xi_xor l3 (xi_and l3 (-l3)))))) rfl xd_A131 (by decide) r4 ?_
      refine yb_iinc (x := l3) (n := 1) rfl rfl rfl rfl ?_
      refine yb_goto rfl rfl ?_
      refine yb_forget (dl := [.ref 127, .double 0, .double 0, .int (xJ (l3 + 1)), .double 0]) ⟨Or.inl rfl, ⟨Or.inl rfl, ⟨Or.inl rfl, ⟨Or.inl rfl, ⟨Or.inr ⟨rfl, rfl⟩, trivial⟩⟩⟩⟩⟩ ?_
      exact h
theorem yk_65_0 {D L : Nat} {P : Int → xh_D → xd_E → Prop} {d : xh_D} {e : xd_E} {a1 : Int}   (h : ((0 ≤ a1 ∧ a1 < 512) ∧ ((-2147483648 ≤ (d 132 a1) ∧ (d 132 a1) < 2147483648) ∧ (((¬ (d 132 a1) = (-1 : Int)) → P (d 132 a1) d e) ∧ (((d 132 a1) = (-1 : Int)) → yC D 66 L [.ref 127, .int (xJ a1), .int (xJ (0 : Int))] d e (fun x3 d4 e5 => P x3 (xs d4 132 a1 x3) e5)))))) : yB D xm_c65 (yQi L P) L 0 [.ref 127, .int (xJ a1)] [] d e := by
  refine yb_aload rfl rfl ?_
  refine yb_get (v := .ref 132) rfl (by decide) (by decide) (rfl) rfl ?_
  refine yb_iload (x := a1) rfl rfl ?_
  have r1 := h.1
  replace h := h.2
  refine yb_iald (j := a1) rfl xd_A132 (by decide) r1 (v := (d 132 a1)) rfl ?_
  refine yb_push (v := (-1)) rfl ?_
  have r2 := h.1
  replace h := h.2
  refine yb_icmp_ne (x := (d 132 a1)) (y := (-1 : Int)) rfl rfl r2 (by decide) (fun c => ?_) (fun c => ?_)
  · replace h := h.1 c
    refine yb_aload rfl rfl ?_
    refine yb_get (v := .ref 132) rfl (by decide) (by decide) (rfl) rfl ?_
    refine yb_iload (x := a1) rfl rfl ?_
    refine yb_iald (j := a1) rfl xd_A132 (by decide) r1 (v := (d 132 a1)) rfl ?_
    exact yb_ret rfl h
  · replace h := h.2 c
    refine yb_aload rfl rfl ?_
    refine yb_get (v := .ref 132) rfl (by decide) (by decide) (rfl) rfl ?_
    refine yb_iload (x := a1) rfl rfl ?_
    refine yb_aload rfl rfl ?_
    refine yb_iload (x := a1) rfl rfl ?_
    refine yb_push (v := 0) rfl ?_
    refine yb_callVi (As := [.int (xJ a1), .int (xJ (0 : Int))]) (a := 127) rfl rfl rfl rfl rfl rfl rfl rfl (by decide) (by decide) (rfl) (by show (2 : Nat) ≤ 8; decide) (yC_mono h (fun x3 d4 e5 h => ?_))
    refine yb_iast (j := a1) (x := x3) rfl xd_A132 (by decide) r1 ?_
    refine yb_aload rfl rfl ?_
    refine yb_get (v := .ref 132) rfl (by decide) (by decide) (rfl) rfl ?_
    refine yb_iload (x := a1) rfl rfl ?_
    refine yb_iald (j := a1) rfl xd_A132 (by decide) r1 (v := x3) xs_eq ?_
    exact yb_ret rfl h
theorem yk_66_0 {D L : Nat} {P : Int → xh_D → xd_E → Prop} {d : xh_D} {e : xd_E} {a1 : Int} {a2 : Int}   (h : yB D xm_c66 (yQi L P) L 5 [.ref 127, .int (xJ a1), .int (xJ a2), .int (xJ (0 : Int)), .int (xJ (d 127 (10 : Int))), .double 0] [] d e) : yB D xm_c66 (yQi L P) L 0 [.ref 127, .int (xJ a1), .int (xJ a2), .double 0, .double 0, .double 0] [] d e := by
  refine yb_push (v := 0) rfl ?_
  refine yb_istore rfl rfl rfl ?_
  refine yb_aload rfl rfl ?_
  refine yb_get (v := .int (xJ (d 127 (10 : Int)))) rfl (by decide) (by decide) (rfl) rfl ?_
  refine yb_istore rfl rfl rfl ?_
  exact h
theorem yk_66_5 {D L : Nat} {P : Int → xh_D → xd_E → Prop} {d : xh_D} {e : xd_E}  {l1 : Int} {l2 : Int} {l3 : Int} {l4 : Int}  (hD : 1 ≤ D) (h : ((-2147483648 ≤ l4 ∧ l4 < 2147483648) ∧ (((l4 ≤ 0) → P l3 d e) ∧ ((¬ l4 ≤ 0) → ((0 ≤ l4 ∧ l4 < 64) ∧ ((((xi_and l4 l2) = 0) → (∀ v3, v3 = ((xp_bc (xi_and (d 131 l4) l1)) + (0 : Int)) → ((-2147483648 ≤ l3 ∧ l3 < 2147483648) ∧ ((-2147483648 ≤ ((d 130 l4) - v3) ∧ ((d 130 l4) - v3) < 2147483648) ∧ (∀ v6, v6 = (xi_and (l4 - (1 : Int)) (d 127 (10 : Int))) → yB D xm_c66 (yQi L P) L 5 [.ref 127, .int (xJ l1), .int (xJ l2), .int (xJ (max l3 ((d 130 l4) - v3))), .int (xJ v6), .double 0] [] d e))))) ∧ ((¬ (xi_and l4 l2) = 0) → (∀ v7, v7 = ((xp_bc (xi_and (d 131 l4) l1)) + (1 : Int)) → ((-2147483648 ≤ l3 ∧ l3 < 2147483648) ∧ ((-2147483648 ≤ ((d 130 l4) - v7) ∧ ((d 130 l4) - v7) < 2147483648) ∧ (∀ v10, v10 = (xi_and (l4 - (1 : Int)) (d 127 (10 : Int))) → yB D xm_c66 (yQi L P) L 5 [.ref 127, .int (xJ l1), .int (xJ l2), .int (xJ (max l3 ((d 130 l4) - v7))), .int (xJ v10), .double 0] [] d e))))))))))) : yB D xm_c66 (yQi L P) L 5 [.ref 127, .int (xJ l1), .int (xJ l2), .int (xJ l3), .int (xJ l4), .double 0] [] d e := by
  refine yb_iload (x := l4) rfl rfl ?_
  have r1 := h.1
  replace h := h.2
  refine yb_if_le (x := l4) rfl rfl r1 (fun c => ?_) (fun c => ?_)
  · replace h := h.1 c
    refine yb_iload (x := l3) rfl rfl ?_
    exact yb_ret rfl h
  · replace h := h.2 c
    refine yb_aload rfl rfl ?_
    refine yb_get (v := .ref 131) rfl (by decide) (by decide) (rfl) rfl ?_
    refine yb_iload (x := l4) rfl rfl ?_
    have r2 := h.1
    replace h := h.2
    refine yb_iald (j := l4) rfl xd_A131 (by decide) r2 (v := (d 131 l4)) rfl ?_
    refine yb_iload (x := l1) rfl rfl ?_
    refine yb_iand (x := (d 131 l4)) (y := l1) rfl ?_
    refine yb_callSi (As := [.int (xJ (xi_and (d 131 l4) l1))]) rfl rfl rfl rfl rfl rfl rfl rfl (by decide) (sp_0 (by omega) ?_)
    show yB D xm_c66 _ L 14 [.ref 127, .int (xJ l1), .int (xJ l2), .int (xJ l3), .int (xJ l4), .double 0] [.int (xJ (xp_bc (xi_and (d 131 l4) l1)))] d e
    refine yb_iload (x := l4) rfl rfl ?_
    refine yb_iload (x := l2) rfl rfl ?_
    refine yb_iand (x := l4) (y := l2) rfl ?_
    refine yb_if_eq (x := (xi_and l4 l2)) rfl rfl (xJ_rng _) (fun c => ?_) (fun c => ?_)
    · replace h := h.1 c
      refine yb_push (v := 0) rfl ?_
      refine yb_iadd (x := (xp_bc (xi_and (d 131 l4) l1))) (y := (0 : Int)) rfl ?_
      replace h := h _ rfl
      refine yb_istore rfl rfl rfl ?_
      refine yb_iload (x := l3) rfl rfl ?_
      refine yb_aload rfl rfl ?_
      refine yb_get (v := .ref 130) rfl (by decide) (by decide) (rfl) rfl ?_
      refine yb_iload (x := l4) rfl rfl ?_
      refine yb_iald (j := l4) rfl xd_A130 (by decide) r2 (v := (d 130 l4)) rfl ?_
      refine yb_iload (x := ((xp_bc (xi_and (d 131 l4) l1)) + (0 : Int))) rfl rfl ?_
      refine yb_isub (x := (d 130 l4)) (y := ((xp_bc (xi_and (d 131 l4) l1)) + (0 : Int))) rfl ?_
      have r4 := h.1
      replace h := h.2
      have r5 := h.1
      replace h := h.2
      refine yb_callSi (As := [.int (xJ l3), .int (xJ ((d 130 l4) - ((xp_bc (xi_and (d 131 l4) l1)) + (0 : Int))))]) rfl rfl rfl rfl rfl rfl rfl rfl (by decide) (sp_4 (by omega) ⟨r4, r5⟩ ?_)
      show yB D xm_c66 _ L 31 [.ref 127, .int (xJ l1), .int (xJ l2), .int (xJ l3), .int (xJ l4), .int (xJ ((xp_bc (xi_and (d 131 l4) l1)) + (0 : Int)))] [.int (xJ (max l3 ((d 130 l4) - ((xp_bc (xi_and (d 131 l4) l1)) + (0 : Int)))))] d e
      refine yb_istore rfl rfl rfl ?_
      refine yb_iload (x := l4) rfl rfl ?_
      refine yb_push (v := 1) rfl ?_
      refine yb_isub (x := l4) (y := (1 : Int)) rfl ?_
      refine yb_aload rfl rfl ?_
      refine yb_get (v := .int (xJ (d 127 (10 : Int)))) rfl (by decide) (by decide) (rfl) rfl ?_
      refine yb_iand (x := (l4 - (1 : Int))) (y := (d 127 (10 : Int))) rfl ?_
      replace h := h _ rfl
      refine yb_istore rfl rfl rfl ?_
      refine yb_goto rfl rfl ?_
      refine yb_forget (dl := [.ref 127, .int (xJ l1), .int (xJ l2), .int (xJ (max l3 ((d 130 l4) - ((xp_bc (xi_and (d 131 l4) l1)) + (0 : Int))))), .int (xJ (xi_and (l4 - (1 : Int)) (d 127 (10 : Int)))), .double 0]) ⟨Or.inl rfl, ⟨Or.inl rfl, ⟨Or.inl rfl, ⟨Or.inl rfl, ⟨Or.inl rfl, ⟨Or.inr ⟨rfl, rfl⟩, trivial⟩⟩⟩⟩⟩⟩ ?_
      exact h
    · replace h := h.2 c
      refine yb_push (v := 1) rfl ?_
      refine yb_goto rfl rfl ?_
      refine yb_iadd (x := (xp_bc (xi_and (d 131 l4) l1))) (y := (1 : Int)) rfl ?_
      replace h := h _ rfl
      refine yb_istore rfl rfl rfl ?_
      refine yb_iload (x := l3) rfl rfl ?_
      refine yb_aload rfl rfl ?_
      refine yb_get (v := .ref 130) rfl (by decide) (by decide) (rfl) rfl ?_
      refine yb_iload (x := l4) rfl rfl ?_
      refine yb_iald (j := l4) rfl xd_A130 (by decide) r2 (v := (d 130 l4)) rfl ?_
      refine yb_iload (x := ((xp_bc (xi_and (d 131 l4) l1)) + (1 : Int))) rfl rfl ?_
      refine yb_isub (x := (d 130 l4)) (y := ((xp_bc (xi_and (d 131 l4) l1)) + (1 : Int))) rfl ?_
      have r8 := h.1
      replace h := h.2
      have r9 := h.1
      replace h := h.2
      refine yb_callSi (As := [.int (xJ l3), .int (xJ ((d 130 l4) - ((xp_bc (xi_and (d 131 l4) l1)) + (1 : Int))))]) rfl rfl rfl rfl rfl rfl rfl rfl (by decide) (sp_4 (by omega) ⟨r8, r9⟩ ?_)
      show yB D xm_c66 _ L 31 [.ref 127, .int (xJ l1), .int (xJ l2), .int (xJ l3), .int (xJ l4), .int (xJ ((xp_bc (xi_and (d 131 l4) l1)) + (1 : Int)))] [.int (xJ (max l3 ((d 130 l4) - ((xp_bc (xi_and (d 131 l4) l1)) + (1 : Int)))))] d e
      refine yb_istore rfl rfl rfl ?_
      refine yb_iload (x := l4) rfl rfl ?_
      refine yb_push (v := 1) rfl ?_
      refine yb_isub (x := l4) (y := (1 : Int)) rfl ?_
      refine yb_aload rfl rfl ?_
      refine yb_get (v := .int (xJ (d 127 (10 : Int)))) rfl (by decide) (by decide) (rfl) rfl ?_
      refine yb_iand (x := (l4 - (1 : Int))) (y := (d 127 (10 : Int))) rfl ?_
      replace h := h _ rfl
      refine yb_istore rfl rfl rfl ?_
      refine yb_goto rfl rfl ?_
      refine yb_forget (dl := [.ref 127, .int (xJ l1), .int (xJ l2), .int (xJ (max l3 ((d 130 l4) - ((xp_bc (xi_and (d 131 l4) l1)) + (1 : Int))))), .int (xJ (xi_and (l4 - (1 : Int)) (d 127 (10 : Int)))), .double 0]) ⟨Or.inl rfl, ⟨Or.inl rfl, ⟨Or.inl rfl, ⟨Or.inl rfl, ⟨Or.inl rfl, ⟨Or.inr ⟨rfl, rfl⟩, trivial⟩⟩⟩⟩⟩⟩ ?_
      exact h
theorem yk_67_0 {D L : Nat} {P : Int → xh_D → xd_E → Prop} {d : xh_D} {e : xd_E}    (h : yB D xm_c67 (yQi L P) L 4 [.ref 127, .int (xJ (0 : Int)), .int (xJ (0 : Int))] [] d e) : yB D xm_c67 (yQi L P) L 0 [.ref 127, .double 0, .double 0] [] d e := by
  refine yb_push (v := 0) rfl ?_
  refine yb_istore rfl rfl rfl ?_
  refine yb_push (v := 0) rfl ?_
  refine yb_istore rfl rfl rfl ?_
  exact h
theorem yk_67_4 {D L : Nat} {P : Int → xh_D → xd_E → Prop} {d : xh_D} {e : xd_E}  {l1 : Int} {l2 : Int}  (hD : 1 ≤ D) (h : ((-2147483648 ≤ l2 ∧ l2 < 2147483648) ∧ ((((9 : Int) ≤ l2) → P l1 d e) ∧ ((¬ (9 : Int) ≤ l2) → ((0 ≤ l2 ∧ l2 < 9) ∧ yC D 65 L [.ref 127, .int (xJ (xi_and (d 127 (9 : Int)) (xi_xor (d 133 l2) (-1 : Int))))] d e (fun x3 d4 e5 => yB D xm_c67 (yQi L P) L 4 [.ref 127, .int (xJ (l1 + x3)), .int (xJ (l2 + 1))] [] d4 e5)))))) : yB D xm_c67 (yQi L P) L 4 [.ref 127, .int (xJ l1), .int (xJ l2)] [] d e := by
  refine yb_iload (x := l2) rfl rfl ?_
  refine yb_push (v := 9) rfl ?_
  have r1 := h.1
  replace h := h.2
  refine yb_icmp_ge (x := l2) (y := (9 : Int)) rfl rfl r1 (by decide) (fun c => ?_) (fun c => ?_)
  · replace h := h.1 c
    refine yb_iload (x := l1) rfl rfl ?_
    exact yb_ret rfl h
  · replace h := h.2 c
    refine yb_iload (x := l1) rfl rfl ?_
    refine yb_aload rfl rfl ?_
    refine yb_aload rfl rfl ?_
    refine yb_iload (x := l2) rfl rfl ?_
    have r2 := h.1
    replace h := h.2
    refine yb_callVi (As := [.int (xJ l2)]) (a := 127) rfl rfl rfl rfl rfl rfl rfl rfl (by decide) (by decide) (rfl) (by show (2 : Nat) ≤ 8; decide) (sp_64 (by omega) r2 ?_)
    show yB D xm_c67 _ L 12 [.ref 127, .int (xJ l1), .int (xJ l2)] [.int (xJ (xi_and (d 127 (9 : Int)) (xi_xor (d 133 l2) (-1 : Int)))), .ref 127, .int (xJ l1)] d e
    refine yb_callVi (As := [.int (xJ (xi_and (d 127 (9 : Int)) (xi_xor (d 133 l2) (-1 : Int))))]) (a := 127) rfl rfl rfl rfl rfl rfl rfl rfl (by decide) (by decide) (rfl) (by show (1 : Nat) ≤ 8; decide) (yC_mono h (fun x3 d4 e5 h => ?_))
    refine yb_iadd (x := l1) (y := x3) rfl ?_
    refine yb_istore rfl rfl rfl ?_
    refine yb_iinc (x := l2) (n := 1) rfl rfl rfl rfl ?_
    refine yb_goto rfl rfl ?_
    exact h
theorem yk_68_0 {D L : Nat} {P1 P0 : xh_D → xd_E → Prop} {d : xh_D} {e : xd_E}    (h : yB D xm_c68 (yQz L P1 P0) L 2 [.ref 127, .int (xJ (0 : Int))] [] d e) : yB D xm_c68 (yQz L P1 P0) L 0 [.ref 127, .double 0] [] d e := by
  refine yb_push (v := 0) rfl ?_
  refine yb_istore rfl rfl rfl ?_
  exact h
theorem yk_68_2 {D L : Nat} {P1 P0 : xh_D → xd_E → Prop} {d : xh_D} {e : xd_E}  {l1 : Int}  (hD : 1 ≤ D) (h : ((-2147483648 ≤ l1 ∧ l1 < 2147483648) ∧ ((((9 : Int) ≤ l1) → P1 d e) ∧ ((¬ (9 : Int) ≤ l1) → ((0 ≤ l1 ∧ l1 < 9) ∧ yC D 65 L [.ref 127, .int (xJ (xi_and (d 127 (9 : Int)) (xi_xor (d 133 l1) (-1 : Int))))] d e (fun x3 d4 e5 => ((-2147483648 ≤ x3 ∧ x3 < 2147483648) ∧ (((x3 ≤ 0) → yB D xm_c68 (yQz L P1 P0) L 2 [.ref 127, .int (xJ (l1 + 1))] [] d4 e5) ∧ ((¬ x3 ≤ 0) → P0 d4 e5))))))))) : yB D xm_c68 (yQz L P1 P0) L 2 [.ref 127, .int (xJ l1)] [] d e := by
  refine yb_iload (x := l1) rfl rfl ?_
  refine yb_push (v := 9) rfl ?_
  have r1 := h.1
  replace h := h.2
  refine yb_icmp_ge (x := l1) (y := (9 : Int)) rfl rfl r1 (by decide) (fun c => ?_) (fun c => ?_)
  · replace h := h.1 c
    refine yb_push (v := 1) rfl ?_
    exact yb_ret1 rfl h
  · replace h := h.2 c
    refine yb_aload rfl rfl ?_
    refine yb_aload rfl rfl ?_
    refine yb_iload (x := l1) rfl rfl ?_
    have r2 := h.1
    replace h := h.2
    refine yb_callVi (As := [.int (xJ l1)]) (a := 127) rfl rfl rfl rfl rfl rfl rfl rfl (by decide) (by decide) (rfl) (by show (1 : Nat) ≤ 8; decide) (sp_64 (by omega) r2 ?_)
    show yB D xm_c68 _ L 9 [.ref 127, .int (xJ l1)] [.int (xJ (xi_and (d 127 (9 : Int)) (xi_xor (d 133 l1) (-1 : Int)))), .ref 127] d e
    refine yb_callVi (As := [.int (xJ (xi_and (d 127 (9 : Int)) (xi_xor (d 133 l1) (-1 : Int))))]) (a := 127) rfl rfl rfl rfl rfl rfl rfl rfl (by decide) (by decide) (rfl) (by decide) (yC_mono h (fun x3 d4 e5 h => ?_))
    have r6 := h.1
    replace h := h.2
    refine yb_if_le (x := x3) rfl rfl r6 (fun c => ?_) (fun c => ?_)
    · replace h := h.1 c
      refine yb_iinc (x := l1) (n := 1) rfl rfl rfl rfl ?_
      refine yb_goto rfl rfl ?_
      exact h
    · replace h := h.2 c
      refine yb_push (v := 0) rfl ?_
      exact yb_ret0 rfl h
theorem yk_70_11_0 {D L : Nat} {P : Int → xh_D → xd_E → Prop} {d : xh_D} {e : xd_E} {a2 : Int}   (h : yV D 63 L [.ref 127, .ref 11, .int (xJ a2)] d e (fun d1 e2 => yB D xm_c70 (yQi L P) L 6 [.ref 127, .ref 11, .int (xJ a2), .int (xJ (0 : Int))] [] d1 e2)) : yB D xm_c70 (yQi L P) L 0 [.ref 127, .ref 11, .int (xJ a2), .double 0] [] d e := by
  refine yb_aload rfl rfl ?_
  refine yb_aload rfl rfl ?_
  refine yb_iload (x := a2) rfl rfl ?_
  refine yb_callVv (As := [.ref 11, .int (xJ a2)]) (a := 127) rfl rfl rfl rfl rfl rfl rfl rfl (by decide) (by decide) (rfl) (by decide) (yV_mono h (fun d1 e2 h => ?_))
  refine yb_push (v := 0) rfl ?_
  refine yb_istore rfl rfl rfl ?_
  exact h
theorem yk_70_11_6 {D L : Nat} {P : Int → xh_D → xd_E → Prop} {d : xh_D} {e : xd_E}  {l2 : Int} {l3 : Int}  (h : ((-2147483648 ≤ l3 ∧ l3 < 2147483648) ∧ ((((2 : Int) < l3) → P (-2 : Int) d e) ∧ ((¬ (2 : Int) < l3) → yZ D 71 L [.ref 127, .ref 11, .int (xJ (0 : Int)), .int (xJ (0 : Int)), .int (xJ l3), .int (xJ l2)] d e (fun d2 e3 => P l3 d2 e3) (fun d2 e3 => yB D xm_c70 (yQi L P) L 6 [.ref 127, .ref 11, .int (xJ l2), .int (xJ (l3 + 1))] [] d2 e3))))) : yB D xm_c70 (yQi L P) L 6 [.ref 127, .ref 11, .int (xJ l2), .int (xJ l3)] [] d e := by
  refine yb_iload (x := l3) rfl rfl ?_
  refine yb_push (v := 2) rfl ?_
  have r1 := h.1
  replace h := h.2
  refine yb_icmp_gt (x := l3) (y := (2 : Int)) rfl rfl r1 (by decide) (fun c => ?_) (fun c => ?_)
  · replace h := h.1 c
    refine yb_push (v := (-2)) rfl ?_
    exact yb_ret rfl h
  · replace h := h.2 c
    refine yb_aload rfl rfl ?_
    refine yb_aload rfl rfl ?_
    refine yb_push (v := 0) rfl ?_
    refine yb_push (v := 0) rfl ?_
    refine yb_iload (x := l3) rfl rfl ?_
    refine yb_iload (x := l2) rfl rfl ?_
    refine yb_callVz (As := [.ref 11, .int (xJ (0 : Int)), .int (xJ (0 : Int)), .int (xJ l3), .int (xJ l2)]) (a := 127) rfl rfl rfl rfl rfl rfl rfl rfl (by decide) (by decide) (rfl) (by decide) (yZ_mono h (fun d2 e3 h => ?_) (fun d2 e3 h => ?_))
    · refine yb_if_eq (x := (1 : Int)) rfl rfl (by decide) (fun c => absurd c (by decide)) (fun _ => ?_)
      refine yb_iload (x := l3) rfl rfl ?_
      exact yb_ret rfl h
    · refine yb_if_eq (x := (0 : Int)) rfl rfl (by decide) (fun _ => ?_) (fun c => absurd (by decide) c)
      refine yb_iinc (x := l3) (n := 1) rfl rfl rfl rfl ?_
      refine yb_goto rfl rfl ?_
      exact h
theorem yk_71_11_0 {D L : Nat} {P1 P0 : xh_D → xd_E → Prop} {d : xh_D} {e : xd_E} {a2 : Int} {a3 : Int} {a4 : Int} {a5 : Int}   (h : ((-2147483648 ≤ a3 ∧ a3 < 2147483648) ∧ ((-2147483648 ≤ a4 ∧ a4 < 2147483648) ∧ (((a3 < a4) → yB D xm_c71 (yQz L P1 P0) L 8 [.ref 127, .ref 11, .double 0, .int (xJ a3), .int (xJ a4), .int (xJ a5), .int (xJ a2), .double 0, .double 0, .double 0] [] d e) ∧ ((¬ a3 < a4) → yZ D 68 L [.ref 127] d e (fun d3 e4 => P1 d3 e4) (fun d3 e4 => P0 d3 e4)))))) : yB D xm_c71 (yQz L P1 P0) L 0 [.ref 127, .ref 11, .int (xJ a2), .int (xJ a3), .int (xJ a4), .int (xJ a5), .double 0, .double 0, .double 0, .double 0] [] d e := by
  refine yb_iload (x := a3) rfl rfl ?_
  refine yb_iload (x := a4) rfl rfl ?_
  have r1 := h.1
  replace h := h.2
  have r2 := h.1
  replace h := h.2
  refine yb_icmp_lt (x := a3) (y := a4) rfl rfl r1 r2 (fun c => ?_) (fun c => ?_)
  · replace h := h.1 c
    refine yb_iload (x := a2) rfl rfl ?_
    refine yb_istore rfl rfl rfl ?_
    refine yb_forget (dl := [.ref 127, .ref 11, .double 0, .int (xJ a3), .int (xJ a4), .int (xJ a5), .int (xJ a2), .double 0, .double 0, .double 0]) ⟨Or.inl rfl, ⟨Or.inl rfl, ⟨Or.inr ⟨rfl, rfl⟩, ⟨Or.inl rfl, ⟨Or.inl rfl, ⟨Or.inl rfl, ⟨Or.inl rfl, ⟨Or.inl rfl, ⟨Or.inl rfl, ⟨Or.inl rfl, trivial⟩⟩⟩⟩⟩⟩⟩⟩⟩⟩ ?_
    exact h
  · replace h := h.2 c
    refine yb_aload rfl rfl ?_
    refine yb_callVz (As := []) (a := 127) rfl rfl rfl rfl rfl rfl rfl rfl (by decide) (by decide) (rfl) (by decide) (yZ_mono h (fun d3 e4 h => ?_) (fun d3 e4 h => ?_))
    · exact yb_ret1 rfl h
    · exact yb_ret0 rfl h
theorem yk_71_11_8 {D L : Nat} {P1 P0 : xh_D → xd_E → Prop} {d : xh_D} {e : xd_E}  {l3 : Int} {l4 : Int} {l5 : Int} {l6 : Int}  (h : ((-2147483648 ≤ l6 ∧ l6 < 2147483648) ∧ ((-2147483648 ≤ l5 ∧ l5 < 2147483648) ∧ (((l5 ≤ l6) → P0 d e) ∧ ((¬ l5 ≤ l6) → ((0 ≤ l6 ∧ l6 < 9) ∧ yB D xm_c71 (yQz L P1 P0) L 18 [.ref 127, .ref 11, .double 0, .int (xJ l3), .int (xJ l4), .int (xJ l5), .int (xJ l6), .int (xJ (d 12 l6)), .int (xJ (0 : Int)), .double 0] [] d e)))))) : yB D xm_c71 (yQz L P1 P0) L 8 [.ref 127, .ref 11, .double 0, .int (xJ l3), .int (xJ l4), .int (xJ l5), .int (xJ l6), .double 0, .double 0, .double 0] [] d e := by
  refine yb_iload (x := l6) rfl rfl ?_
  refine yb_iload (x := l5) rfl rfl ?_
  have r1 := h.1
  replace h := h.2
  have r2 := h.1
  replace h := h.2
  refine yb_icmp_ge (x := l6) (y := l5) rfl rfl r1 r2 (fun c => ?_) (fun c => ?_)
  · replace h := h.1 c
    refine yb_push (v := 0) rfl ?_
    exact yb_ret0 rfl h
  · replace h := h.2 c
    refine yb_aload rfl rfl ?_
    refine yb_get (v := .ref 12) rfl (by decide) (by decide) (rfl) rfl ?_
    refine yb_iload (x := l6) rfl rfl ?_
    have r3 := h.1
    replace h := h.2
    refine yb_iald (j := l6) rfl xd_A12 (by decide) r3 (v := (d 12 l6)) rfl ?_
    refine yb_istore rfl rfl rfl ?_
    refine yb_push (v := 0) rfl ?_
    refine yb_istore rfl rfl rfl ?_
    exact h
theorem yk_71_11_18 {D L : Nat} {P1 P0 : xh_D → xd_E → Prop} {d : xh_D} {e : xd_E}  {l3 : Int} {l4 : Int} {l5 : Int} {l6 : Int} {l7 : Int} {l8 : Int}  (hD : 1 ≤ D) (h : ((-2147483648 ≤ l8 ∧ l8 < 2147483648) ∧ ((((9 : Int) ≤ l8) → yB D xm_c71 (yQz L P1 P0) L 8 [.ref 127, .ref 11, .double 0, .int (xJ l3), .int (xJ l4), .int (xJ l5), .int (xJ (l6 + 1)), .double 0, .double 0, .double 0] [] d e) ∧ ((¬ (9 : Int) ≤ l8) → ((-2147483648 ≤ l7 ∧ l7 < 2147483648) ∧ (((l8 = l7) → yB D xm_c71 (yQz L P1 P0) L 18 [.ref 127, .ref 11, .double 0, .int (xJ l3), .int (xJ l4), .int (xJ l5), .int (xJ l6), .int (xJ l7), .int (xJ (l8 + 1)), .double 0] [] d e) ∧ ((¬ l8 = l7) → ((0 ≤ l3 ∧ l3 < 2) ∧ ((0 ≤ l7 ∧ l7 < 9) ∧ ((0 ≤ l8 ∧ l8 < 9) ∧ yZ D 71 L [.ref 127, .ref 11, .int (xJ (l6 + (1 : Int))), .int (xJ (l3 + (1 : Int))), .int (xJ l4), .int (xJ l5)] (xs (xs (xs (xs d 134 l3 l6) 135 l3 l8) 133 l7 (xi_xor (d 133 l7) (xi_shl (1 : Int) l6))) 133 l8 (xi_xor ((xs (xs (xs d 134 l3 l6) 135 l3 l8) 133 l7 (xi_xor (d 133 l7) (xi_shl (1 : Int) l6))) 133 l8) (xi_shl (1 : Int) l6))) e (fun d6 e7 => P1 (xs (xs d6 133 l8 (xi_xor (d6 133 l8) (xi_shl (1 : Int) l6))) 133 l7 (xi_xor ((xs d6 133 l8 (xi_xor (d6 133 l8) (xi_shl (1 : Int) l6))) 133 l7) (xi_shl (1 : Int) l6))) e7) (fun d6 e7 => yB D xm_c71 (yQz L P1 P0) L 18 [.ref 127, .ref 11, .double 0, .int (xJ l3), .int (xJ l4), .int (xJ l5), .int (xJ l6), .int (xJ l7), .int (xJ (l8 + 1)), .double 0] [] (xs (xs d6 133 l8 (xi_xor (d6 133 l8) (xi_shl (1 : Int) l6))) 133 l7 (xi_xor ((xs d6 133 l8 (xi_xor (d6 133 l8) (xi_shl (1 : Int) l6))) 133 l7) (xi_shl (1 : Int) l6))) e7))))))))))) : yB D xm_c71 (yQz L P1 P0) L 18 [.ref 127, .ref 11, .double 0, .int (xJ l3), .int (xJ l4), .int (xJ l5), .int (xJ l6), .int (xJ l7), .int (xJ l8), .double 0] [] d e := by
  refine yb_iload (x := l8) rfl rfl ?_
  refine yb_push (v := 9) rfl ?_
  have r1 := h.1
  replace h := h.2
  refine yb_icmp_ge (x := l8) (y := (9 : Int)) rfl rfl r1 (by decide) (fun c => ?_) (fun c => ?_)
  · replace h := h.1 c
    refine yb_iinc (x := l6) (n := 1) rfl rfl rfl rfl ?_
    refine yb_goto rfl rfl ?_
    refine yb_forget (dl := [.ref 127, .ref 11, .double 0, .int (xJ l3), .int (xJ l4), .int (xJ l5), .int (xJ (l6 + 1)), .double 0, .double 0, .double 0]) ⟨Or.inl rfl, ⟨Or.inl rfl, ⟨Or.inl rfl, ⟨Or.inl rfl, ⟨Or.inl rfl, ⟨Or.inl rfl, ⟨Or.inl rfl, ⟨Or.inr ⟨rfl, rfl⟩, ⟨Or.inr ⟨rfl, rfl⟩, ⟨Or.inl rfl, trivial⟩⟩⟩⟩⟩⟩⟩⟩⟩⟩ ?_
    exact h
  · replace h := h.2 c
    refine yb_iload (x := l8) rfl rfl ?_
    refine yb_iload (x := l7) rfl rfl ?_
    have r2 := h.1
    replace h := h.2
    refine yb_icmp_eq (x := l8) (y := l7) rfl rfl r1 r2 (fun c => ?_) (fun c => ?_)
    · replace h := h.1 c
      refine yb_iinc (x := l8) (n := 1) rfl rfl rfl rfl ?_
      refine yb_goto rfl rfl ?_
      exact h
    · replace h := h.2 c
      refine yb_aload rfl rfl ?_
      refine yb_get (v := .ref 134) rfl (by decide) (by decide) (rfl) rfl ?_
      refine yb_iload (x := l3) rfl rfl ?_
      refine yb_iload (x := l6) rfl rfl ?_
      have r3 := h.1
      replace h := h.2
      refine yb_iast (j := l3) (x := l6) rfl xd_A134 (by decide) r3 ?_
      refine yb_aload rfl rfl ?_
      refine yb_get (v := .ref 135) rfl (by decide) (by decide) (rfl) rfl ?_
      refine yb_iload (x := l3) rfl rfl ?_
      refine yb_iload (x := l8) rfl rfl ?_
      refine yb_iast (j := l3) (x := l8) rfl xd_A135 (by decide) r3 ?_
      refine yb_aload rfl rfl ?_
      refine yb_iload (x := l6) rfl rfl ?_
      refine yb_iload (x := l7) rfl rfl ?_
      refine yb_iload (x := l8) rfl rfl ?_
      have r4 := h.1
      replace h := h.2
      have r5 := h.1
      replace h := h.2
      refine yb_callVv (As := [.int (xJ l6), .int (xJ l7), .int (xJ l8)]) (a := 127) rfl rfl rfl rfl rfl rfl rfl rfl (by decide) (by decide) (rfl) (by decide) (sp_69 (by omega) ⟨r4, r5⟩ ?_)
      show yB D xm_c71 _ L 39 [.ref 127, .ref 11, .double 0, .int (xJ l3), .int (xJ l4), .int (xJ l5), .int (xJ l6), .int (xJ l7), .int (xJ l8), .double 0] [] (xs (xs (xs (xs d 134 l3 l6) 135 l3 l8) 133 l7 (xi_xor (d 133 l7) (xi_shl (1 : Int) l6))) 133 l8 (xi_xor ((xs (xs (xs d 134 l3 l6) 135 l3 l8) 133 l7 (xi_xor (d 133 l7) (xi_shl (1 : Int) l6))) 133 l8) (xi_shl (1 : Int) l6))) e
      refine yb_aload rfl rfl ?_
      refine yb_aload rfl rfl ?_
      refine yb_iload (x := l6) rfl rfl ?_
      refine yb_push (v := 1) rfl ?_
      refine yb_iadd (x := l6) (y := (1 : Int)) rfl ?_
      refine yb_iload (x := l3) rfl rfl ?_
      refine yb_push (v := 1) rfl ?_
      refine yb_iadd (x := l3) (y := (1 : Int)) rfl ?_
      refine yb_iload (x := l4) rfl rfl ?_
      refine yb_iload (x := l5) rfl rfl ?_
      refine yb_callVz (As := [.ref 11, .int (xJ (l6 + (1 : Int))), .int (xJ (l3 + (1 : Int))), .int (xJ l4), .int (xJ l5)]) (a := 127) rfl rfl rfl rfl rfl rfl rfl rfl (by decide) (by decide) (rfl) (by decide) (yZ_mono h (fun d6 e7 h => ?_) (fun d6 e7 h => ?_))
      · refine yb_istore rfl rfl rfl ?_
        refine yb_aload rfl rfl ?_
        refine yb_iload (x := l6) rfl rfl ?_
        refine yb_iload (x := l8) rfl rfl ?_
        refine yb_iload (x := l7) rfl rfl ?_
        refine yb_callVv (As := [.int (xJ l6), .int (xJ l8), .int (xJ l7)]) (a := 127) rfl rfl rfl rfl rfl rfl rfl rfl (by decide) (by decide) (rfl) (by decide) (sp_69 (by omega) ⟨r5, r4⟩ ?_)
        show yB D xm_c71 _ L 56 [.ref 127, .ref 11, .double 0, .int (xJ l3), .int (xJ l4), .int (xJ l5), .int (xJ l6), .int (xJ l7), .int (xJ l8), .int (xJ (1 : Int))] [] (xs (xs d6 133 l8 (xi_xor (d6 133 l8) (xi_shl (1 : Int) l6))) 133 l7 (xi_xor ((xs d6 133 l8 (xi_xor (d6 133 l8) (xi_shl (1 : Int) l6))) 133 l7) (xi_shl (1 : Int) l6))) e7
        refine yb_iload (x := (1 : Int)) rfl rfl ?_
        refine yb_if_eq (x := (1 : Int)) rfl rfl (by decide) (fun c => absurd c (by decide)) (fun _ => ?_)
        refine yb_push (v := 1) rfl ?_
        exact yb_ret1 rfl h
      · refine yb_istore rfl rfl rfl ?_
        refine yb_aload rfl rfl ?_
        refine yb_iload (x := l6) rfl rfl ?_
        refine yb_iload (x := l8) rfl rfl ?_
        refine yb_iload (x := l7) rfl rfl ?_
        refine yb_callVv (As := [.int (xJ l6), .int (xJ l8), .int (xJ l7)]) (a := 127) rfl rfl rfl rfl rfl rfl rfl rfl (by decide) (by decide) (rfl) (by decide) (sp_69 (by omega) ⟨r5, r4⟩ ?_)
        show yB D xm_c71 _ L 56 [.ref 127, .ref 11, .double 0, .int (xJ l3), .int (xJ l4), .int (xJ l5), .int (xJ l6), .int (xJ l7), .int (xJ l8), .int (xJ (0 : Int))] [] (xs (xs d6 133 l8 (xi_xor (d6 133 l8) (xi_shl (1 : Int) l6))) 133 l7 (xi_xor ((xs d6 133 l8 (xi_xor (d6 133 l8) (xi_shl (1 : Int) l6))) 133 l7) (xi_shl (1 : Int) l6))) e7
        refine yb_iload (x := (0 : Int)) rfl rfl ?_
        refine yb_if_eq (x := (0 : Int)) rfl rfl (by decide) (fun _ => ?_) (fun c => absurd (by decide) c)
        refine yb_iinc (x := l8) (n := 1) rfl rfl rfl rfl ?_
        refine yb_goto rfl rfl ?_
        refine yb_forget (dl := [.ref 127, .ref 11, .double 0, .int (xJ l3), .int (xJ l4), .int (xJ l5), .int (xJ l6), .int (xJ l7), .int (xJ (l8 + 1)), .double 0]) ⟨Or.inl rfl, ⟨Or.inl rfl, ⟨Or.inl rfl, ⟨Or.inl rfl, ⟨Or.inl rfl, ⟨Or.inl rfl, ⟨Or.inl rfl, ⟨Or.inl rfl, ⟨Or.inl rfl, ⟨Or.inr ⟨rfl, rfl⟩, trivial⟩⟩⟩⟩⟩⟩⟩⟩⟩⟩ ?_
        exact h
theorem yk_78_0 {D L : Nat} {P : Int → xh_D → xd_E → Prop} {d : xh_D} {e : xd_E} {a1 : Int}   (h : yB D xm_c78 (yQi L P) L 2 [.ref 2, .int (xJ a1), .int (xJ (0 : Int))] [] d e) : yB D xm_c78 (yQi L P) L 0 [.ref 2, .int (xJ a1), .double 0] [] d e := by
  refine yb_push (v := 0) rfl ?_
  refine yb_istore rfl rfl rfl ?_
  exact h
theorem yk_78_2 {D L : Nat} {P : Int → xh_D → xd_E → Prop} {d : xh_D} {e : xd_E}  {l1 : Int} {l2 : Int}  (hD : 2 ≤ D) (h : ((-2147483648 ≤ l2 ∧ l2 < 2147483648) ∧ ((-2147483648 ≤ l1 ∧ l1 < 2147483648) ∧ (((l1 ≤ l2) → ((-2147483648 ≤ (d 2 (1 : Int)) ∧ (d 2 (1 : Int)) < 2147483648) ∧ ((((d 2 (1 : Int)) ≤ l1) → P (-1 : Int) d e) ∧ ((¬ (d 2 (1 : Int)) ≤ l1) → P l1 d e)))) ∧ ((¬ l1 ≤ l2) → (xt_ok d ∧ ((-2147483648 ≤ (xt_dig d l2) ∧ (xt_dig d l2) < 2147483648) ∧ (((¬ (xt_dig d l2) = (-1 : Int)) → yB D xm_c78 (yQi L P) L 2 [.ref 2, .int (xJ l1), .int (xJ (l2 + 1))] [] d e) ∧ (((xt_dig d l2) = (-1 : Int)) → P l2 d e))))))))) : yB D xm_c78 (yQi L P) L 2 [.ref 2, .int (xJ l1), .int (xJ l2)] [] d e := by
  refine yb_iload (x := l2) rfl rfl ?_
  refine yb_iload (x := l1) rfl rfl ?_
  have r1 := h.1
  replace h := h.2
  have r2 := h.1
  replace h := h.2
  refine yb_icmp_ge (x := l2) (y := l1) rfl rfl r1 r2 (fun c => ?_) (fun c => ?_)
  · replace h := h.1 c
    refine yb_aload rfl rfl ?_
    refine yb_get (v := .int (xJ (d 2 (1 : Int)))) rfl (by decide) (by decide) (rfl) rfl ?_
    refine yb_iload (x := l1) rfl rfl ?_
    have r3 := h.1
    replace h := h.2
    refine yb_icmp_le (x := (d 2 (1 : Int))) (y := l1) rfl rfl r3 r2 (fun c => ?_) (fun c => ?_)
    · replace h := h.1 c
      refine yb_push (v := (-1)) rfl ?_
      exact yb_ret rfl h
    · replace h := h.2 c
      refine yb_iload (x := l1) rfl rfl ?_
      refine yb_goto rfl rfl ?_
      exact yb_ret rfl h
  · replace h := h.2 c
    refine yb_aload rfl rfl ?_
    refine yb_iload (x := l2) rfl rfl ?_
    have r4 := h.1
    replace h := h.2
    refine yb_callVi (As := [.int (xJ l2)]) (a := 2) rfl rfl rfl rfl rfl rfl rfl rfl (by decide) (by decide) (rfl) (by decide) (sp_76 (by omega) ⟨r1, r4⟩ ?_)
    show yB D xm_c78 _ L 8 [.ref 2, .int (xJ l1), .int (xJ l2)] [.int (xJ (xt_dig d l2))] d e
    refine yb_push (v := (-1)) rfl ?_
    have r5 := h.1
    replace h := h.2
    refine yb_icmp_ne (x := (xt_dig d l2)) (y := (-1 : Int)) rfl rfl r5 (by decide) (fun c => ?_) (fun c => ?_)
    · replace h := h.1 c
      refine yb_iinc (x := l2) (n := 1) rfl rfl rfl rfl ?_
      refine yb_goto rfl rfl ?_
      exact h
    · replace h := h.2 c
      refine yb_iload (x := l2) rfl rfl ?_
      exact yb_ret rfl h
theorem yk_81_11_0 {D L : Nat} {P : Int → xh_D → xd_E → Prop} {d : xh_D} {e : xd_E} {a1 : Int}   (h : ((0 ≤ a1 ∧ a1 < 10) ∧ yC D 51 L [.ref 11, .int (xJ (d 144 a1)), .int (xJ (d 6 (4 : Int)))] d e (fun x2 d3 e4 => ((0 ≤ (d 143 a1) ∧ (d 143 a1) < 9) ∧ yC D 52 L [.ref 11, .int (xJ (d3 13 (d 143 a1))), .int (xJ (2 : Int)), .int (xJ (d3 6 (4 : Int)))] d3 e4 (fun x6 d7 e8 => (∀ v9, v9 = (xi_and (xi_and x6 (xi_xor x2 (-1 : Int))) (xi_xor (xi_shl (1 : Int) (d 143 a1)) (-1 : Int))) → ((((xi_and (xi_shr x2 (d 143 a1)) (1 : Int)) = 0) → P v9 d7 e8) ∧ ((¬ (xi_and (xi_shr x2 (d 143 a1)) (1 : Int)) = 0) → yB D xm_c81 (yQi L P) L 44 [.double 0, .double 0, .ref 6, .double 0, .int (xJ (d 143 a1)), .double 0, .double 0, .int (xJ v9), .int (xJ (0 : Int))] [] d7 e8)))))))) : yB D xm_c81 (yQi L P) L 0 [.ref 142, .int (xJ a1), .ref 6, .ref 11, .double 0, .double 0, .double 0, .double 0, .double 0] [] d e := by
  refine yb_aload rfl rfl ?_
  refine yb_get (v := .ref 143) rfl (by decide) (by decide) (rfl) rfl ?_
  refine yb_iload (x := a1) rfl rfl ?_
  have r1 := h.1
  replace h := h.2
  refine yb_iald (j := a1) rfl xd_A143 (by decide) r1 (v := (d 143 a1)) rfl ?_
  refine yb_istore rfl rfl rfl ?_
  refine yb_aload rfl rfl ?_
  refine yb_aload rfl rfl ?_
  refine yb_get (v := .ref 144) rfl (by decide) (by decide) (rfl) rfl ?_
  refine yb_iload (x := a1) rfl rfl ?_
  refine yb_iald (j := a1) rfl xd_A144 (by decide) r1 (v := (d 144 a1)) rfl ?_
  refine yb_aload rfl rfl ?_
  refine yb_get (v := .int (xJ (d 6 (4 : Int)))) rfl (by decide) (by decide) (rfl) rfl ?_
  refine yb_callVi (As := [.int (xJ (d 144 a1)), .int (xJ (d 6 (4 : Int)))]) (a := 11) rfl rfl rfl rfl rfl rfl rfl rfl (by decide) (by decide) (rfl) (by decide) (yC_mono h (fun x2 d3 e4 h => ?_))
  refine yb_istore rfl rfl rfl ?_
  refine yb_aload rfl rfl ?_
  refine yb_aload rfl rfl ?_
  refine yb_get (v := .ref 13) rfl (by decide) (by decide) (rfl) rfl ?_
  refine yb_iload (x := (d 143 a1)) rfl rfl ?_
  have r5 := h.1
  replace h := h.2
  refine yb_iald (j := (d 143 a1)) rfl xd_A13 (by decide) r5 (v := (d3 13 (d 143 a1))) rfl ?_
  refine yb_push (v := 2) rfl ?_
  refine yb_aload rfl rfl ?_
  refine yb_get (v := .int (xJ (d3 6 (4 : Int)))) rfl (by decide) (by decide) (rfl) rfl ?_
  refine yb_callVi (As := [.int (xJ (d3 13 (d 143 a1))), .int (xJ (2 : Int)), .int (xJ (d3 6 (4 : Int)))]) (a := 11) rfl rfl rfl rfl rfl rfl rfl rfl (by decide) (by decide) (rfl) (by decide) (yC_mono h (fun x6 d7 e8 h => ?_))
  refine yb_istore rfl rfl rfl ?_
  refine yb_iload (x := x6) rfl rfl ?_
  refine yb_iload (x := x2) rfl rfl ?_
  refine yb_push (v := (-1)) rfl ?_
  refine yb_ixor (x := x2) (y := (-1 : Int)) rfl ?_
  refine yb_iand (x := x6) (y := (xi_xor x2 (-1 : Int))) rfl ?_
  refine yb_push (v := 1) rfl ?_
  refine yb_iload (x := (d 143 a1)) rfl rfl ?_
  refine yb_ishl (x := (1 : Int)) (y := (d 143 a1)) rfl ?_
  refine yb_push (v := (-1)) rfl ?_
  refine yb_ixor (x := (xi_shl (1 : Int) (d 143 a1))) (y := (-1 : Int)) rfl ?_
  refine yb_iand (x := (xi_and x6 (xi_xor x2 (-1 : Int)))) (y := (xi_xor (xi_shl (1 : Int) (d 143 a1)) (-1 : Int))) rfl ?_
  replace h := h _ rfl
  refine yb_istore rfl rfl rfl ?_
  refine yb_iload (x := x2) rfl rfl ?_
  refine yb_iload (x := (d 143 a1)) rfl rfl ?_
  refine yb_ishr (x := x2) (y := (d 143 a1)) rfl ?_
  refine yb_push (v := 1) rfl ?_
  refine yb_iand (x := (xi_shr x2 (d 143 a1))) (y := (1 : Int)) rfl ?_
  refine yb_if_eq (x := (xi_and (xi_shr x2 (d 143 a1)) (1 : Int))) rfl rfl (xJ_rng _) (fun c => ?_) (fun c => ?_)
  · replace h := h.1 c
    refine yb_iload (x := (xi_and (xi_and x6 (xi_xor x2 (-1 : Int))) (xi_xor (xi_shl (1 : Int) (d 143 a1)) (-1 : Int)))) rfl rfl ?_
    exact yb_ret rfl h
  · replace h := h.2 c
    refine yb_push (v := 0) rfl ?_
    refine yb_istore rfl rfl rfl ?_
    refine yb_forget (dl := [.double 0, .double 0, .ref 6, .double 0, .int (xJ (d 143 a1)), .double 0, .double 0, .int (xJ (xi_and (xi_and x6 (xi_xor x2 (-1 : Int))) (xi_xor (xi_shl (1 : Int) (d 143 a1)) (-1 : Int)))), .int (xJ (0 : Int))]) ⟨Or.inr ⟨rfl, rfl⟩, ⟨Or.inr ⟨rfl, rfl⟩, ⟨Or.inl rfl, ⟨Or.inr ⟨rfl, rfl⟩, ⟨Or.inl rfl, ⟨Or.inr ⟨rfl, rfl⟩, ⟨Or.inr ⟨rfl, rfl⟩, ⟨Or.inl rfl, ⟨Or.inl rfl, trivial⟩⟩⟩⟩⟩⟩⟩⟩⟩ ?_
    exact h
theorem yk_81_11_44 {D L : Nat} {P : Int → xh_D → xd_E → Prop} {d : xh_D} {e : xd_E}  {l4 : Int} {l7 : Int} {l8 : Int}  (h : ((-2147483648 ≤ l8 ∧ l8 < 2147483648) ∧ ((-2147483648 ≤ (d 6 (4 : Int)) ∧ (d 6 (4 : Int)) < 2147483648) ∧ ((((d 6 (4 : Int)) ≤ l8) → P l7 d e) ∧ ((¬ (d 6 (4 : Int)) ≤ l8) → ((0 ≤ ((l4 * (9 : Int)) + l8) ∧ ((l4 * (9 : Int)) + l8) < 81) ∧ ((-2147483648 ≤ (d 7 ((l4 * (9 : Int)) + l8)) ∧ (d 7 ((l4 * (9 : Int)) + l8)) < 2147483648) ∧ (((¬ (d 7 ((l4 * (9 : Int)) + l8)) = 0) → yB D xm_c81 (yQi L P) L 44 [.double 0, .double 0, .ref 6, .double 0, .int (xJ l4), .double 0, .double 0, .int (xJ l7), .int (xJ (l8 + 1))] [] d e) ∧ (((d 7 ((l4 * (9 : Int)) + l8)) = 0) → (∀ v5, v5 = (xi_and l7 (xi_xor (xi_shl (1 : Int) l8) (-1 : Int))) → yB D xm_c81 (yQi L P) L 44 [.double 0, .double 0, .ref 6, .double 0, .int (xJ l4), .double 0, .double 0, .int (xJ v5), .int (xJ (l8 + 1))] [] d e)))))))))) : yB D xm_c81 (yQi L P) L 44 [.double 0, .double 0, .ref 6, .double 0, .int (xJ l4), .double 0, .double 0, .int (xJ l7), .int (xJ l8)] [] d e := by
  refine yb_iload (x := l8) rfl rfl ?_
  refine yb_aload rfl rfl ?_
  refine yb_get (v := .int (xJ (d 6 (4 : Int)))) rfl (by decide) (by decide) (rfl) rfl ?_
  have r1 := h.1
  replace h := h.2
  have r2 := h.1
  replace h := h.2
  refine yb_icmp_ge (x := l8) (y := (d 6 (4 : Int))) rfl rfl r1 r2 (fun c => ?_) (fun c => ?_)
  · replace h := h.1 c
    refine yb_iload (x := l7) rfl rfl ?_
    exact yb_ret rfl h
  · replace h := h.2 c
    refine yb_aload rfl rfl ?_
    refine yb_get (v := .ref 7) rfl (by decide) (by decide) (rfl) rfl ?_
    refine yb_iload (x := l4) rfl rfl ?_
    refine yb_push (v := 9) rfl ?_
    refine yb_imul (x := l4) (y := (9 : Int)) rfl ?_
    refine yb_iload (x := l8) rfl rfl ?_
    refine yb_iadd (x := (l4 * (9 : Int))) (y := l8) rfl ?_
    have r3 := h.1
    replace h := h.2
    refine yb_iald (j := ((l4 * (9 : Int)) + l8)) rfl xd_A7 (by decide) r3 (v := (d 7 ((l4 * (9 : Int)) + l8))) rfl ?_
    have r4 := h.1
    replace h := h.2
    refine yb_if_ne (x := (d 7 ((l4 * (9 : Int)) + l8))) rfl rfl r4 (fun c => ?_) (fun c => ?_)
    · replace h := h.1 c
      refine yb_iinc (x := l8) (n := 1) rfl rfl rfl rfl ?_
      refine yb_goto rfl rfl ?_
      exact h
    · replace h := h.2 c
      refine yb_iload (x := l7) rfl rfl ?_
      refine yb_push (v := 1) rfl ?_
      refine yb_iload (x := l8) rfl rfl ?_
      refine yb_ishl (x := (1 : Int)) (y := l8) rfl ?_
      refine yb_push (v := (-1)) rfl ?_
      refine yb_ixor (x := (xi_shl (1 : Int) l8)) (y := (-1 : Int)) rfl ?_
      refine yb_iand (x := l7) (y := (xi_xor (xi_shl (1 : Int) l8) (-1 : Int))) rfl ?_
      replace h := h _ rfl
      refine yb_istore rfl rfl rfl ?_
      refine yb_iinc (x := l8) (n := 1) rfl rfl rfl rfl ?_
      refine yb_goto rfl rfl ?_
      exact h
theorem yk_82_11_0 {D L : Nat} {P : Int → xh_D → xd_E → Prop} {d : xh_D} {e : xd_E}    (h : yB D xm_c82 (yQi L P) L 2 [.ref 142, .ref 6, .ref 11, .int (xJ (0 : Int)), .double 0, .double 0, .double 0] [] d e) : yB D xm_c82 (yQi L P) L 0 [.ref 142, .ref 6, .ref 11, .double 0, .double 0, .double 0, .double 0] [] d e := by
  refine yb_push (v := 0) rfl ?_
  refine yb_istore rfl rfl rfl ?_
  exact h
theorem yk_82_11_2 {D L : Nat} {P : Int → xh_D → xd_E → Prop} {d : xh_D} {e : xd_E}  {l3 : Int}  (h : ((-2147483648 ≤ l3 ∧ l3 < 2147483648) ∧ ((-2147483648 ≤ (d 142 (3 : Int)) ∧ (d 142 (3 : Int)) < 2147483648) ∧ ((((d 142 (3 : Int)) ≤ l3) → yB D xm_c82 (yQi L P) L 23 [.ref 142, .ref 6, .double 0, .int (xJ (-1 : Int)), .int (xJ (10 : Int)), .int (xJ (0 : Int)), .double 0] [] d e) ∧ ((¬ (d 142 (3 : Int)) ≤ l3) → yC D 81 L [.ref 142, .int (xJ l3), .ref 6, .ref 11] d e (fun x3 d4 e5 => ((0 ≤ l3 ∧ l3 < 10) ∧ yB D xm_c82 (yQi L P) L 2 [.ref 142, .ref 6, .ref 11, .int (xJ (l3 + 1)), .double 0, .double 0, .double 0] [] (xs d4 145 l3 x3) e5))))))) : yB D xm_c82 (yQi L P) L 2 [.ref 142, .ref 6, .ref 11, .int (xJ l3), .double 0, .double 0, .double 0] [] d e := by
  refine yb_iload (x := l3) rfl rfl ?_
  refine yb_aload rfl rfl ?_
  refine yb_get (v := .int (xJ (d 142 (3 : Int)))) rfl (by decide) (by decide) (rfl) rfl ?_
  have r1 := h.1
  replace h := h.2
  have r2 := h.1
  replace h := h.2
  refine yb_icmp_ge (x := l3) (y := (d 142 (3 : Int))) rfl rfl r1 r2 (fun c => ?_) (fun c => ?_)
  · replace h := h.1 c
    refine yb_push (v := (-1)) rfl ?_
    refine yb_istore rfl rfl rfl ?_
    refine yb_push (v := 10) rfl ?_
    refine yb_istore rfl rfl rfl ?_
    refine yb_push (v := 0) rfl ?_
    refine yb_istore rfl rfl rfl ?_
    refine yb_forget (dl := [.ref 142, .ref 6, .double 0, .int (xJ (-1 : Int)), .int (xJ (10 : Int)), .int (xJ (0 : Int)), .double 0]) ⟨Or.inl rfl, ⟨Or.inl rfl, ⟨Or.inr ⟨rfl, rfl⟩, ⟨Or.inl rfl, ⟨Or.inl rfl, ⟨Or.inl rfl, ⟨Or.inl rfl, trivial⟩⟩⟩⟩⟩⟩⟩ ?_
    exact h
  · replace h := h.2 c
    refine yb_aload rfl rfl ?_
    refine yb_get (v := .ref 145) rfl (by decide) (by decide) (rfl) rfl ?_
    refine yb_iload (x := l3) rfl rfl ?_
    refine yb_aload rfl rfl ?_
    refine yb_iload (x := l3) rfl rfl ?_
    refine yb_aload rfl rfl ?_
    refine yb_aload rfl rfl ?_
    refine yb_callVi (As := [.int (xJ l3), .ref 6, .ref 11]) (a := 142) rfl rfl rfl rfl rfl rfl rfl rfl (by decide) (by decide) (rfl) (by show (2 : Nat) ≤ 8; decide) (yC_mono h (fun x3 d4 e5 h => ?_))
    have r6 := h.1
    replace h := h.2
    refine yb_iast (j := l3) (x := x3) rfl xd_A145 (by decide) r6 ?_
    refine yb_iinc (x := l3) (n := 1) rfl rfl rfl rfl ?_
    refine yb_goto rfl rfl ?_
    exact h
theorem yk_82_11_23 {D L : Nat} {P : Int → xh_D → xd_E → Prop} {d : xh_D} {e : xd_E}  {l3 : Int} {l4 : Int} {l5 : Int}  (hD : 1 ≤ D) (h : ((-2147483648 ≤ l5 ∧ l5 < 2147483648) ∧ ((-2147483648 ≤ (xi_shl (1 : Int) (d 6 (4 : Int)) - 1) ∧ (xi_shl (1 : Int) (d 6 (4 : Int)) - 1) < 2147483648) ∧ ((((xi_shl (1 : Int) (d 6 (4 : Int)) - 1) < l5) → P l3 d e) ∧ ((¬ (xi_shl (1 : Int) (d 6 (4 : Int)) - 1) < l5) → ((-2147483648 ≤ l4 ∧ l4 < 2147483648) ∧ (((l4 ≤ (xp_bc l5)) → yB D xm_c82 (yQi L P) L 23 [.ref 142, .ref 6, .double 0, .int (xJ l3), .int (xJ l4), .int (xJ (l5 + 1)), .double 0] [] d e) ∧ ((¬ l4 ≤ (xp_bc l5)) → yZ D 83 L [.ref 142, .int (xJ l5)] d e (fun d4 e5 => yB D xm_c82 (yQi L P) L 23 [.ref 142, .ref 6, .double 0, .int (xJ l5), .int (xJ (xp_bc l5)), .int (xJ (l5 + 1)), .double 0] [] d4 e5) (fun d4 e5 => yB D xm_c82 (yQi L P) L 23 [.ref 142, .ref 6, .double 0, .int (xJ l3), .int (xJ l4), .int (xJ (l5 + 1)), .double 0] [] d4 e5))))))))) : yB D xm_c82 (yQi L P) L 23 [.ref 142, .ref 6, .double 0, .int (xJ l3), .int (xJ l4), .int (xJ l5), .double 0] [] d e := by
  refine yb_iload (x := l5) rfl rfl ?_
  refine yb_aload rfl rfl ?_
  refine yb_callVi (As := []) (a := 6) rfl rfl rfl rfl rfl rfl rfl rfl (by decide) (by decide) (rfl) (by show (1 : Nat) ≤ 8; decide) (sp_23 (by omega) ?_)
  show yB D xm_c82 _ L 26 [.ref 142, .ref 6, .double 0, .int (xJ l3), .int (xJ l4), .int (xJ l5), .double 0] [.int (xJ (xi_shl (1 : Int) (d 6 (4 : Int)) - 1)), .int (xJ l5)] d e
  have r1 := h.1
  replace h := h.2
  have r2 := h.1
  replace h := h.2
  refine yb_icmp_gt (x := l5) (y := (xi_shl (1 : Int) (d 6 (4 : Int)) - 1)) rfl rfl r1 r2 (fun c => ?_) (fun c => ?_)
  · replace h := h.1 c
    refine yb_iload (x := l3) rfl rfl ?_
    exact yb_ret rfl h
  · replace h := h.2 c
    refine yb_iload (x := l5) rfl rfl ?_
    refine yb_callSi (As := [.int (xJ l5)]) rfl rfl rfl rfl rfl rfl rfl rfl (by decide) (sp_0 (by omega) ?_)
    show yB D xm_c82 _ L 29 [.ref 142, .ref 6, .double 0, .int (xJ l3), .int (xJ l4), .int (xJ l5), .double 0] [.int (xJ (xp_bc l5))] d e
    refine yb_istore rfl rfl rfl ?_
    refine yb_iload (x := (xp_bc l5)) rfl rfl ?_
    refine yb_iload (x := l4) rfl rfl ?_
    have r3 := h.1
    replace h := h.2
    refine yb_icmp_ge (x := (xp_bc l5)) (y := l4) rfl rfl (xJ_rng _) r3 (fun c => ?_) (fun c => ?_)
    · replace h := h.1 c
      refine yb_iinc (x := l5) (n := 1) rfl rfl rfl rfl ?_
      refine yb_goto rfl rfl ?_
      refine yb_forget (dl := [.ref 142, .ref 6, .double 0, .int (xJ l3), .int (xJ l4), .int (xJ (l5 + 1)), .double 0]) ⟨Or.inl rfl, ⟨Or.inl rfl, ⟨Or.inl rfl, ⟨Or.inl rfl, ⟨Or.inl rfl, ⟨Or.inl rfl, ⟨Or.inr ⟨rfl, rfl⟩, trivial⟩⟩⟩⟩⟩⟩⟩ ?_
      exact h
    · replace h := h.2 c
      refine yb_aload rfl rfl ?_
      refine yb_iload (x := l5) rfl rfl ?_
      refine yb_callVz (As := [.int (xJ l5)]) (a := 142) rfl rfl rfl rfl rfl rfl rfl rfl (by decide) (by decide) (rfl) (by decide) (yZ_mono h (fun d4 e5 h => ?_) (fun d4 e5 h => ?_))
      · refine yb_if_eq (x := (1 : Int)) rfl rfl (by decide) (fun c => absurd c (by decide)) (fun _ => ?_)
        refine yb_iload (x := (xp_bc l5)) rfl rfl ?_
        refine yb_istore rfl rfl rfl ?_
        refine yb_iload (x := l5) rfl rfl ?_
        refine yb_istore rfl rfl rfl ?_
        refine yb_iinc (x := l5) (n := 1) rfl rfl rfl rfl ?_
        refine yb_goto rfl rfl ?_
        refine yb_forget (dl := [.ref 142, .ref 6, .double 0, .int (xJ l5), .int (xJ (xp_bc l5)), .int (xJ (l5 + 1)), .double 0]) ⟨Or.inl rfl, ⟨Or.inl rfl, ⟨Or.inl rfl, ⟨Or.inl rfl, ⟨Or.inl rfl, ⟨Or.inl rfl, ⟨Or.inr ⟨rfl, rfl⟩, trivial⟩⟩⟩⟩⟩⟩⟩ ?_
        exact h
      · refine yb_if_eq (x := (0 : Int)) rfl rfl (by decide) (fun _ => ?_) (fun c => absurd (by decide) c)
        refine yb_iinc (x := l5) (n := 1) rfl rfl rfl rfl ?_
        refine yb_goto rfl rfl ?_
        refine yb_forget (dl := [.ref 142, .ref 6, .double 0, .int (xJ l3), .int (xJ l4), .int (xJ (l5 + 1)), .double 0]) ⟨Or.inl rfl, ⟨Or.inl rfl, ⟨Or.inl rfl, ⟨Or.inl rfl, ⟨Or.inl rfl, ⟨Or.inl rfl, ⟨Or.inr ⟨rfl, rfl⟩, trivial⟩⟩⟩⟩⟩⟩⟩ ?_
        exact h
theorem yk_83_0 {D L : Nat} {P1 P0 : xh_D → xd_E → Prop} {d : xh_D} {e : xd_E} {a1 : Int}   (h : yB D xm_c83 (yQz L P1 P0) L 2 [.ref 142, .int (xJ a1), .int (xJ (0 : Int))] [] d e) : yB D xm_c83 (yQz L P1 P0) L 0 [.ref 142, .int (xJ a1), .double 0] [] d e := by
  refine yb_push (v := 0) rfl ?_
  refine yb_istore rfl rfl rfl ?_
  exact h
theorem yk_83_2 {D L : Nat} {P1 P0 : xh_D → xd_E → Prop} {d : xh_D} {e : xd_E}  {l1 : Int} {l2 : Int}  (h : ((-2147483648 ≤ l2 ∧ l2 < 2147483648) ∧ ((-2147483648 ≤ (d 142 (3 : Int)) ∧ (d 142 (3 : Int)) < 2147483648) ∧ ((((d 142 (3 : Int)) ≤ l2) → P1 d e) ∧ ((¬ (d 142 (3 : Int)) ≤ l2) → ((0 ≤ l2 ∧ l2 < 10) ∧ (((¬ (xi_and (d 145 l2) l1) = 0) → yB D xm_c83 (yQz L P1 P0) L 2 [.ref 142, .int (xJ l1), .int (xJ (l2 + 1))] [] d e) ∧ (((xi_and (d 145 l2) l1) = 0) → P0 d e)))))))) : yB D xm_c83 (yQz L P1 P0) L 2 [.ref 142, .int (xJ l1), .int (xJ l2)] [] d e := by
  refine yb_iload (x := l2) rfl rfl ?_
  refine yb_aload rfl rfl ?_
  refine yb_get (v := .int (xJ (d 142 (3 : Int)))) rfl (by decide) (by decide) (rfl) rfl ?_
  have r1 := h.1
  replace h := h.2
  have r2 := h.1
  replace h := h.2
  refine yb_icmp_ge (x := l2) (y := (d 142 (3 : Int))) rfl rfl r1 r2 (fun c => ?_) (fun c => ?_)
  · replace h := h.1 c
    refine yb_push (v := 1) rfl ?_
    exact yb_ret1 rfl h
  · replace h := h.2 c
    refine yb_aload rfl rfl ?_
    refine yb_get (v := .ref 145) rfl (by decide) (by decide) (rfl) rfl ?_
    refine yb_iload (x := l2) rfl rfl ?_
    have r3 := h.1
    replace h := h.2
    refine yb_iald (j := l2) rfl xd_A145 (by decide) r3 (v := (d 145 l2)) rfl ?_
    refine yb_iload (x := l1) rfl rfl ?_
    refine yb_iand (x := (d 145 l2)) (y := l1) rfl ?_
    refine yb_if_ne (x := (xi_and (d 145 l2) l1)) rfl rfl (xJ_rng _) (fun c => ?_) (fun c => ?_)
    · replace h := h.1 c
      refine yb_iinc (x := l2) (n := 1) rfl rfl rfl rfl ?_
      refine yb_goto rfl rfl ?_
      exact h
    · replace h := h.2 c
      refine yb_push (v := 0) rfl ?_
      exact yb_ret0 rfl h
theorem yk_85_0 {D L : Nat} {P : xh_D → xd_E → Prop} {d : xh_D} {e : xd_E}    (h : yV D 6 L [.ref 126, .int (xJ (0 : Int))] (xs (xs (xs d 118 (2 : Int) (0 : Int)) 118 (3 : Int) (0 : Int)) 118 (4 : Int) (0 : Int)) e (fun d1 e2 => P d1 e2)) : yB D xm_c85 (yQv L P) L 0 [.ref 118] [] d e := by
  refine yb_aload rfl rfl ?_
  refine yb_push (v := 0) rfl ?_
  refine yb_put (z := (0 : Int)) (k := 2) rfl rfl (by decide) (by decide) (rfl) (Nat.le_of_ble_eq_true rfl) rfl (rfl) ?_
  refine yb_aload rfl rfl ?_
  refine yb_push (v := 0) rfl ?_
  refine yb_put (z := (0 : Int)) (k := 3) rfl rfl (by decide) (by decide) (rfl) (Nat.le_of_ble_eq_true rfl) rfl (rfl) ?_
  refine yb_aload rfl rfl ?_
  refine yb_push (v := 0) rfl ?_
  refine yb_put (z := (0 : Int)) (k := 4) rfl rfl (by decide) (by decide) (rfl) (Nat.le_of_ble_eq_true rfl) rfl (rfl) ?_
  refine yb_aload rfl rfl ?_
  refine yb_get (v := .ref 126) rfl (by decide) (by decide) (rfl) rfl ?_
  refine yb_push (v := 0) rfl ?_
  refine yb_callSv (As := [.ref 126, .int (xJ (0 : Int))]) rfl rfl rfl rfl rfl rfl rfl rfl (by decide) (yV_mono h (fun d1 e2 h => ?_))
  exact yb_retv rfl h
theorem yk_86_11_0 {D L : Nat} {P : xh_D → xd_E → Prop} {d : xh_D} {e : xd_E} {a4 : Int}   (h : yB D xm_c86 (yQv L P) L 2 [.ref 118, .ref 6, .ref 111, .ref 11, .int (xJ a4), .int (xJ (0 : Int))] [] d e) : yB D xm_c86 (yQv L P) L 0 [.ref 118, .ref 6, .ref 111, .ref 11, .int (xJ a4), .double 0] [] d e := by
  refine yb_push (v := 0) rfl ?_
  refine yb_istore rfl rfl rfl ?_
  exact h
theorem yk_86_11_2 {D L : Nat} {P : xh_D → xd_E → Prop} {d : xh_D} {e : xd_E}  {l4 : Int} {l5 : Int}  (hD : 1 ≤ D) (h : ((-2147483648 ≤ l5 ∧ l5 < 2147483648) ∧ ((-2147483648 ≤ l4 ∧ l4 < 2147483648) ∧ (((l4 ≤ l5) → P d e) ∧ ((¬ l4 ≤ l5) → yV D 8 L [.ref 119, .ref 6, .ref 111, .ref 11, .int (xJ (d 11 (5 : Int)))] d e (fun d3 e4 => yV D 59 L [.ref 11, .int (xJ (d3 6 (4 : Int)))] d3 e4 (fun d5 e6 => yV D 87 L [.ref 118, .ref 11] d5 e6 (fun d7 e8 => ((0 ≤ (d7 119 (8 : Int)) ∧ (d7 119 (8 : Int)) < 2147483648) ∧ yB D xm_c86 (yQv L P) L 2 [.ref 118, .ref 6, .ref 111, .ref 11, .int (xJ l4), .int (xJ (l5 + 1))] [] (xs (xs d7 118 (3 : Int) ((d7 118 (3 : Int)) + ((d7 119 (8 : Int)) % (1000 : Int)))) 11 (5 : Int) ((d7 11 (5 : Int)) + (1 : Int))) e8))))))))) : yB D xm_c86 (yQv L P) L 2 [.ref 118, .ref 6, .ref 111, .ref 11, .int (xJ l4), .int (xJ l5)] [] d e := by
  refine yb_iload (x := l5) rfl rfl ?_
  refine yb_iload (x := l4) rfl rfl ?_
  have r1 := h.1
  replace h := h.2
  have r2 := h.1
  replace h := h.2
  refine yb_icmp_ge (x := l5) (y := l4) rfl rfl r1 r2 (fun c => ?_) (fun c => ?_)
  · replace h := h.1 c
    exact yb_retv rfl h
  · replace h := h.2 c
    refine yb_aload rfl rfl ?_
    refine yb_get (v := .ref 119) rfl (by decide) (by decide) (rfl) rfl ?_
    refine yb_aload rfl rfl ?_
    refine yb_aload rfl rfl ?_
    refine yb_aload rfl rfl ?_
    refine yb_aload rfl rfl ?_
    refine yb_get (v := .int (xJ (d 11 (5 : Int)))) rfl (by decide) (by decide) (rfl) rfl ?_
    refine yb_callVv (As := [.ref 6, .ref 111, .ref 11, .int (xJ (d 11 (5 : Int)))]) (a := 119) rfl rfl rfl rfl rfl rfl rfl rfl (by decide) (by decide) (rfl) (by decide) (yV_mono h (fun d3 e4 h => ?_))
    refine yb_aload rfl rfl ?_
    refine yb_aload rfl rfl ?_
    refine yb_get (v := .int (xJ (d3 6 (4 : Int)))) rfl (by decide) (by decide) (rfl) rfl ?_
    refine yb_callVv (As := [.int (xJ (d3 6 (4 : Int)))]) (a := 11) rfl rfl rfl rfl rfl rfl rfl rfl (by decide) (by decide) (rfl) (by decide) (yV_mono h (fun d5 e6 h => ?_))
    refine yb_aload rfl rfl ?_
    refine yb_aload rfl rfl ?_
    refine yb_callVv (As := [.ref 11]) (a := 118) rfl rfl rfl rfl rfl rfl rfl rfl (by decide) (by decide) (rfl) (by decide) (yV_mono h (fun d7 e8 h => ?_))
    refine yb_aload rfl rfl ?_
    refine yb_dup rfl rfl ?_
    refine yb_get (v := .int (xJ (d7 118 (3 : Int)))) rfl (by decide) (by decide) (rfl) rfl ?_
    refine yb_aload rfl rfl ?_
    refine yb_get (v := .ref 119) rfl (by decide) (by decide) (rfl) rfl ?_
    have r9 := h.1
    replace h := h.2
    refine yb_callVi (As := []) (a := 119) rfl rfl rfl rfl rfl rfl rfl rfl (by decide) (by decide) (rfl) (by show (2 : Nat) ≤ 8; decide) (sp_13 (by omega) r9 ?_)
    show yB D xm_c86 _ L 26 [.ref 118, .ref 6, .ref 111, .ref 11, .int (xJ l4), .int (xJ l5)] [.int (xJ ((d7 119 (8 : Int)) % (1000 : Int))), .int (xJ (d7 118 (3 : Int))), .ref 118] d7 e8
    refine yb_iadd (x := (d7 118 (3 : Int))) (y := ((d7 119 (8 : Int)) % (1000 : Int))) rfl ?_
    refine yb_put (z := ((d7 118 (3 : Int)) + ((d7 119 (8 : Int)) % (1000 : Int)))) (k := 3) rfl rfl (by decide) (by decide) (rfl) (Nat.le_of_ble_eq_true rfl) rfl (rfl) ?_
    refine yb_aload rfl rfl ?_
    refine yb_dup rfl rfl ?_
    refine yb_get (v := .int (xJ (d7 11 (5 : Int)))) rfl (by decide) (by decide) (rfl) rfl ?_
    refine yb_push (v := 1) rfl ?_
    refine yb_iadd (x := (d7 11 (5 : Int))) (y := (1 : Int)) rfl ?_
    refine yb_put (z := ((d7 11 (5 : Int)) + (1 : Int))) (k := 5) rfl rfl (by decide) (by decide) (rfl) (Nat.le_of_ble_eq_true rfl) rfl (rfl) ?_
    refine yb_iinc (x := l5) (n := 1) rfl rfl rfl rfl ?_
    refine yb_goto rfl rfl ?_
    exact h
theorem yk_86_17_0 {D L : Nat} {P : xh_D → xd_E → Prop} {d : xh_D} {e : xd_E} {a4 : Int}   (h : yB D xm_c86 (yQv L P) L 2 [.ref 118, .ref 6, .ref 111, .ref 17, .int (xJ a4), .int (xJ (0 : Int))] [] d e) : yB D xm_c86 (yQv L P) L 0 [.ref 118, .ref 6, .ref 111, .ref 17, .int (xJ a4), .double 0] [] d e := by
  refine yb_push (v := 0) rfl ?_
  refine yb_istore rfl rfl rfl ?_
  exact h
theorem yk_86_17_2 {D L : Nat} {P : xh_D → xd_E → Prop} {d : xh_D} {e : xd_E}  {l4 : Int} {l5 : Int}  (hD : 1 ≤ D) (h : ((-2147483648 ≤ l5 ∧ l5 < 2147483648) ∧ ((-2147483648 ≤ l4 ∧ l4 < 2147483648) ∧ (((l4 ≤ l5) → P d e) ∧ ((¬ l4 ≤ l5) → yV D 8 L [.ref 119, .ref 6, .ref 111, .ref 17, .int (xJ (d 17 (5 : Int)))] d e (fun d3 e4 => yV D 59 L [.ref 17, .int (xJ (d3 6 (4 : Int)))] d3 e4 (fun d5 e6 => yV D 87 L [.ref 118, .ref 17] d5 e6 (fun d7 e8 => ((0 ≤ (d7 119 (8 : Int)) ∧ (d7 119 (8 : Int)) < 2147483648) ∧ yB D xm_c86 (yQv L P) L 2 [.ref 118, .ref 6, .ref 111, .ref 17, .int (xJ l4), .int (xJ (l5 + 1))] [] (xs (xs d7 118 (3 : Int) ((d7 118 (3 : Int)) + ((d7 119 (8 : Int)) % (1000 : Int)))) 17 (5 : Int) ((d7 17 (5 : Int)) + (1 : Int))) e8))))))))) : yB D xm_c86 (yQv L P) L 2 [.ref 118, .ref 6, .ref 111, .ref 17, .int (xJ l4), .int (xJ l5)] [] d e := by
  refine yb_iload (x := l5) rfl rfl ?_
  refine yb_iload (x := l4) rfl rfl ?_
  have r1 := h.1
  replace h := h.2
  have r2 := h.1
  replace h := h.2
  refine yb_icmp_ge (x := l5) (y := l4) rfl rfl r1 r2 (fun c => ?_) (fun c => ?_)
  · replace h := h.1 c
    exact yb_retv rfl h
  · replace h := h.2 c
    refine yb_aload rfl rfl ?_
    refine yb_get (v := .ref 119) rfl (by decide) (by decide) (rfl) rfl ?_
    refine yb_aload rfl rfl ?_
    refine yb_aload rfl rfl ?_
    refine yb_aload rfl rfl ?_
    refine yb_aload rfl rfl ?_
    refine yb_get (v := .int (xJ (d 17 (5 : Int)))) rfl (by decide) (by decide) (rfl) rfl ?_
    refine yb_callVv (As := [.ref 6, .ref 111, .ref 17, .int (xJ (d 17 (5 : Int)))]) (a := 119) rfl rfl rfl rfl rfl rfl rfl rfl (by decide) (by decide) (rfl) (by decide) (yV_mono h (fun d3 e4 h => ?_))
    refine yb_aload rfl rfl ?_
    refine yb_aload rfl rfl ?_
    refine yb_get (v := .int (xJ (d3 6 (4 : Int)))) rfl (by decide) (by decide) (rfl) rfl ?_
    refine yb_callVv (As := [.int (xJ (d3 6 (4 : Int)))]) (a := 17) rfl rfl rfl rfl rfl rfl rfl rfl (by decide) (by decide) (rfl) (by decide) (yV_mono h (fun d5 e6 h => ?_))
    refine yb_aload rfl rfl ?_
    refine yb_aload rfl rfl ?_
    refine yb_callVv (As := [.ref 17]) (a := 118) rfl rfl rfl rfl rfl rfl rfl rfl (by decide) (by decide) (rfl) (by decide) (yV_mono h (fun d7 e8 h => ?_))
    refine yb_aload rfl rfl ?_
    refine yb_dup rfl rfl ?_
    refine yb_get (v := .int (xJ (d7 118 (3 : Int)))) rfl (by decide) (by decide) (rfl) rfl ?_
    refine yb_aload rfl rfl ?_
    refine yb_get (v := .ref 119) rfl (by decide) (by decide) (rfl) rfl ?_
    have r9 := h.1
    replace h := h.2
    refine yb_callVi (As := []) (a := 119) rfl rfl rfl rfl rfl rfl rfl rfl (by decide) (by decide) (rfl) (by show (2 : Nat) ≤ 8; decide) (sp_13 (by omega) r9 ?_)
    show yB D xm_c86 _ L 26 [.ref 118, .ref 6, .ref 111, .ref 17, .int (xJ l4), .int (xJ l5)] [.int (xJ ((d7 119 (8 : Int)) % (1000 : Int))), .int (xJ (d7 118 (3 : Int))), .ref 118] d7 e8
    refine yb_iadd (x := (d7 118 (3 : Int))) (y := ((d7 119 (8 : Int)) % (1000 : Int))) rfl ?_
    refine yb_put (z := ((d7 118 (3 : Int)) + ((d7 119 (8 : Int)) % (1000 : Int)))) (k := 3) rfl rfl (by decide) (by decide) (rfl) (Nat.le_of_ble_eq_true rfl) rfl (rfl) ?_
    refine yb_aload rfl rfl ?_
    refine yb_dup rfl rfl ?_
    refine yb_get (v := .int (xJ (d7 17 (5 : Int)))) rfl (by decide) (by decide) (rfl) rfl ?_
    refine yb_push (v := 1) rfl ?_
    refine yb_iadd (x := (d7 17 (5 : Int))) (y := (1 : Int)) rfl ?_
    refine yb_put (z := ((d7 17 (5 : Int)) + (1 : Int))) (k := 5) rfl rfl (by decide) (by decide) (rfl) (Nat.le_of_ble_eq_true rfl) rfl (rfl) ?_
    refine yb_iinc (x := l5) (n := 1) rfl rfl rfl rfl ?_
    refine yb_goto rfl rfl ?_
    exact h
theorem yk_87_11_0 {D L : Nat} {P : xh_D → xd_E → Prop} {d : xh_D} {e : xd_E}    (h : yB D xm_c87 (yQv L P) L 2 [.ref 118, .ref 11, .int (xJ (0 : Int)), .double 0, .double 0] [] d e) : yB D xm_c87 (yQv L P) L 0 [.ref 118, .ref 11, .double 0, .double 0, .double 0] [] d e := by
  refine yb_push (v := 0) rfl ?_
  refine yb_istore rfl rfl rfl ?_
  exact h
theorem yk_87_11_2 {D L : Nat} {P : xh_D → xd_E → Prop} {d : xh_D} {e : xd_E}  {l2 : Int}  (h : ((-2147483648 ≤ l2 ∧ l2 < 2147483648) ∧ ((-2147483648 ≤ (d 119 (6 : Int)) ∧ (d 119 (6 : Int)) < 2147483648) ∧ ((((d 119 (6 : Int)) ≤ l2) → P d e) ∧ ((¬ (d 119 (6 : Int)) ≤ l2) → ((0 ≤ l2 ∧ l2 < 9) ∧ ((-2147483648 ≤ (d 121 l2) ∧ (d 121 l2) < 2147483648) ∧ (((¬ (d 121 l2) = (-1 : Int)) → yV D 60 L [.ref 11, .int (xJ (d 120 l2)), .int (xJ (d 121 l2))] d e (fun d5 e6 => yC D 56 L [.ref 11, .int (xJ (d 120 l2)), .int (xJ (d 121 l2))] d5 e6 (fun x7 d8 e9 => ((0 ≤ (d 121 l2) ∧ (d 121 l2) < 9) ∧ yB D xm_c87 (yQv L P) L 2 [.ref 118, .ref 11, .int (xJ (l2 + 1)), .double 0, .double 0] [] (xs (xs (xs d8 118 (4 : Int) ((d5 118 (4 : Int)) + x7)) 126 (d 121 l2) ((d8 126 (d 121 l2)) + (1 : Int))) 118 (2 : Int) ((d8 118 (2 : Int)) + (1 : Int))) e9)))) ∧ (((d 121 l2) = (-1 : Int)) → yV D 60 L [.ref 11, .int (xJ (d 120 l2)), .int (xJ (9 : Int))] d e (fun d11 e12 => yB D xm_c87 (yQv L P) L 2 [.ref 118, .ref 11, .int (xJ (l2 + 1)), .double 0, .double 0] [] d11 e12)))))))))) : yB D xm_c87 (yQv L P) L 2 [.ref 118, .ref 11, .int (xJ l2), .double 0, .double 0] [] d e := by
  refine yb_iload (x := l2) rfl rfl ?_
  refine yb_aload rfl rfl ?_
  refine yb_get (v := .ref 119) rfl (by decide) (by decide) (rfl) rfl ?_
  refine yb_get (v := .int (xJ (d 119 (6 : Int)))) rfl (by decide) (by decide) (rfl) rfl ?_
  have r1 := h.1
  replace h := h.2
  have r2 := h.1
  replace h := h.2
  refine yb_icmp_ge (x := l2) (y := (d 119 (6 : Int))) rfl rfl r1 r2 (fun c => ?_) (fun c => ?_)
  · replace h := h.1 c
    exact yb_retv rfl h
  · replace h := h.2 c
    refine yb_aload rfl rfl ?_
    refine yb_get (v := .ref 119) rfl (by decide) (by decide) (rfl) rfl ?_
    refine yb_get (v := .ref 120) rfl (by decide) (by decide) (rfl) rfl ?_
    refine yb_iload (x := l2) rfl rfl ?_
    have r3 := h.1
    replace h := h.2
    refine yb_iald (j := l2) rfl xd_A120 (by decide) r3 (v := (d 120 l2)) rfl ?_
    refine yb_istore rfl rfl rfl ?_
    refine yb_aload rfl rfl ?_
    refine yb_get (v := .ref 119) rfl (by decide) (by decide) (rfl) rfl ?_
    refine yb_get (v := .ref 121) rfl (by decide) (by decide) (rfl) rfl ?_
    refine yb_iload (x := l2) rfl rfl ?_
    refine yb_iald (j := l2) rfl xd_A121 (by decide) r3 (v := (d 121 l2)) rfl ?_
    refine yb_istore rfl rfl rfl ?_
    refine yb_iload (x := (d 121 l2)) rfl rfl ?_
    refine yb_push (v := (-1)) rfl ?_
    have r4 := h.1
    replace h := h.2
    refine yb_icmp_ne (x := (d 121 l2)) (y := (-1 : Int)) rfl rfl r4 (by decide) (fun c => ?_) (fun c => ?_)
    · replace h := h.1 c
      refine yb_aload rfl rfl ?_
      refine yb_iload (x := (d 120 l2)) rfl rfl ?_
      refine yb_iload (x := (d 121 l2)) rfl rfl ?_
      refine yb_callVv (As := [.int (xJ (d 120 l2)), .int (xJ (d 121 l2))]) (a := 11) rfl rfl rfl rfl rfl rfl rfl rfl (by decide) (by decide) (rfl) (by decide) (yV_mono h (fun d5 e6 h => ?_))
      refine yb_aload rfl rfl ?_
      refine yb_dup rfl rfl ?_
      refine yb_get (v := .int (xJ (d5 118 (4 : Int)))) rfl (by decide) (by decide) (rfl) rfl ?_
      refine yb_aload rfl rfl ?_
      refine yb_iload (x := (d 120 l2)) rfl rfl ?_
      refine yb_iload (x := (d 121 l2)) rfl rfl ?_
      refine yb_callVi (As := [.int (xJ (d 120 l2)), .int (xJ (d 121 l2))]) (a := 11) rfl rfl rfl rfl rfl rfl rfl rfl (by decide) (by decide) (rfl) (by show (2 : Nat) ≤ 8; decide) (yC_mono h (fun x7 d8 e9 h => ?_))
      refine yb_iadd (x := (d5 118 (4 : Int))) (y := x7) rfl ?_
      refine yb_put (z := ((d5 118 (4 : Int)) + x7)) (k := 4) rfl rfl (by decide) (by decide) (rfl) (Nat.le_of_ble_eq_true rfl) rfl (rfl) ?_
      refine yb_aload rfl rfl ?_
      refine yb_get (v := .ref 126) rfl (by decide) (by decide) (rfl) rfl ?_
      refine yb_iload (x := (d 121 l2)) rfl rfl ?_
      refine yb_dup2 rfl rfl rfl ?_
      have r10 := h.1
      replace h := h.2
      refine yb_iald (j := (d 121 l2)) rfl xd_A126 (by decide) r10 (v := (d8 126 (d 121 l2))) (xs_np (by decide)) ?_
      refine yb_push (v := 1) rfl ?_
      refine yb_iadd (x := (d8 126 (d 121 l2))) (y := (1 : Int)) rfl ?_
      refine yb_iast (j := (d 121 l2)) (x := ((d8 126 (d 121 l2)) + (1 : Int))) rfl xd_A126 (by decide) r10 ?_
      refine yb_aload rfl rfl ?_
      refine yb_dup rfl rfl ?_
      refine yb_get (v := .int (xJ (d8 118 (2 : Int)))) rfl (by decide) (by decide) (rfl) rfl ?_
      refine yb_push (v := 1) rfl ?_
      refine yb_iadd (x := (d8 118 (2 : Int))) (y := (1 : Int)) rfl ?_
      refine yb_put (z := ((d8 118 (2 : Int)) + (1 : Int))) (k := 2) rfl rfl (by decide) (by decide) (rfl) (Nat.le_of_ble_eq_true rfl) rfl (rfl) ?_
      refine yb_iinc (x := l2) (n := 1) rfl rfl rfl rfl ?_
      refine yb_goto rfl rfl ?_
      refine yb_forget (dl := [.ref 118, .ref 11, .int (xJ (l2 + 1)), .double 0, .double 0]) ⟨Or.inl rfl, ⟨Or.inl rfl, ⟨Or.inl rfl, ⟨Or.inr ⟨rfl, rfl⟩, ⟨Or.inr ⟨rfl, rfl⟩, trivial⟩⟩⟩⟩⟩ ?_
      exact h
    · replace h := h.2 c
      refine yb_aload rfl rfl ?_
      refine yb_iload (x := (d 120 l2)) rfl rfl ?_
      refine yb_push (v := 9) rfl ?_
      refine yb_callVv (As := [.int (xJ (d 120 l2)), .int (xJ (9 : Int))]) (a := 11) rfl rfl rfl rfl rfl rfl rfl rfl (by decide) (by decide) (rfl) (by decide) (yV_mono h (fun d11 e12 h => ?_))
      refine yb_goto rfl rfl ?_
      refine yb_iinc (x := l2) (n := 1) rfl rfl rfl rfl ?_
      refine yb_goto rfl rfl ?_
      refine yb_forget (dl := [.ref 118, .ref 11, .int (xJ (l2 + 1)), .double 0, .double 0]) ⟨Or.inl rfl, ⟨Or.inl rfl, ⟨Or.inl rfl, ⟨Or.inr ⟨rfl, rfl⟩, ⟨Or.inr ⟨rfl, rfl⟩, trivial⟩⟩⟩⟩⟩ ?_
      exact h
theorem yk_87_17_0 {D L : Nat} {P : xh_D → xd_E → Prop} {d : xh_D} {e : xd_E}    (h : yB D xm_c87 (yQv L P) L 2 [.ref 118, .ref 17, .int (xJ (0 : Int)), .double 0, .double 0] [] d e) : yB D xm_c87 (yQv L P) L 0 [.ref 118, .ref 17, .double 0, .double 0, .double 0] [] d e := by
  refine yb_push (v := 0) rfl ?_
  refine yb_istore rfl rfl rfl ?_
  exact h
theorem yk_87_17_2 {D L : Nat} {P : xh_D → xd_E → Prop} {d : xh_D} {e : xd_E}  {l2 : Int}  (h : ((-2147483648 ≤ l2 ∧ l2 < 2147483648) ∧ ((-2147483648 ≤ (d 119 (6 : Int)) ∧ (d 119 (6 : Int)) < 2147483648) ∧ ((((d 119 (6 : Int)) ≤ l2) → P d e) ∧ ((¬ (d 119 (6 : Int)) ≤ l2) → ((0 ≤ l2 ∧ l2 < 9) ∧ ((-2147483648 ≤ (d 121 l2) ∧ (d 121 l2) < 2147483648) ∧ (((¬ (d 121 l2) = (-1 : Int)) → yV D 60 L [.ref 17, .int (xJ (d 120 l2)), .int (xJ (d 121 l2))] d e (fun d5 e6 => yC D 56 L [.ref 17, .int (xJ (d 120 l2)), .int (xJ (d 121 l2))] d5 e6 (fun x7 d8 e9 => ((0 ≤ (d 121 l2) ∧ (d 121 l2) < 9) ∧ yB D xm_c87 (yQv L P) L 2 [.ref 118, .ref 17, .int (xJ (l2 + 1)), .double 0, .double 0] [] (xs (xs (xs d8 118 (4 : Int) ((d5 118 (4 : Int)) + x7)) 126 (d 121 l2) ((d8 126 (d 121 l2)) + (1 : Int))) 118 (2 : Int) ((d8 118 (2 : Int)) + (1 : Int))) e9)))) ∧ (((d 121 l2) = (-1 : Int)) → yV D 60 L [.ref 17, .int (xJ (d 120 l2)), .int (xJ (9 : Int))] d e (fun d11 e12 => yB D xm_c87 (yQv L P) L 2 [.ref 118, .ref 17, .int (xJ (l2 + 1)), .double 0, .double 0] [] d11 e12)))))))))) : yB D xm_c87 (yQv L P) L 2 [.ref 118, .ref 17, .int (xJ l2), .double 0, .double 0] [] d e := by
  refine yb_iload (x := l2) rfl rfl ?_
  refine yb_aload rfl rfl ?_
  refine yb_get (v := .ref 119) rfl (by decide) (by decide) (rfl) rfl ?_
  refine yb_get (v := .int (xJ (d 119 (6 : Int)))) rfl (by decide) (by decide) (rfl) rfl ?_
  have r1 := h.1
  replace h := h.2
  have r2 := h.1
  replace h := h.2
  refine yb_icmp_ge (x := l2) (y := (d 119 (6 : Int))) rfl rfl r1 r2 (fun c => ?_) (fun c => ?_)
  · replace h := h.1 c
    exact yb_retv rfl h
  · replace h := h.2 c
    refine yb_aload rfl rfl ?_
    refine yb_get (v := .ref 119) rfl (by decide) (by decide) (rfl) rfl ?_
    refine yb_get (v := .ref 120) rfl (by decide) (by decide) (rfl) rfl ?_
    refine yb_iload (x := l2) rfl rfl ?_
    have r3 := h.1
    replace h := h.2
    refine yb_iald (j := l2) rfl xd_A120 (by decide) r3 (v := (d 120 l2)) rfl ?_
    refine yb_istore rfl rfl rfl ?_
    refine yb_aload rfl rfl ?_
    refine yb_get (v := .ref 119) rfl (by decide) (by decide) (rfl) rfl ?_
    refine yb_get (v := .ref 121) rfl (by decide) (by decide) (rfl) rfl ?_
    refine yb_iload (x := l2) rfl rfl ?_
    refine yb_iald (j := l2) rfl xd_A121 (by decide) r3 (v := (d 121 l2)) rfl ?_
    refine yb_istore rfl rfl rfl ?_
    refine yb_iload (x := (d 121 l2)) rfl rfl ?_
    refine yb_push (v := (-1)) rfl ?_
    have r4 := h.1
    replace h := h.2
    refine yb_icmp_ne (x := (d 121 l2)) (y := (-1 : Int)) rfl rfl r4 (by decide) (fun c => ?_) (fun c => ?_)
    · replace h := h.1 c
      refine yb_aload rfl rfl ?_
      refine yb_iload (x := (d 120 l2)) rfl rfl ?_
      refine yb_iload (x := (d 121 l2)) rfl rfl ?_
      refine yb_callVv (As := [.int (xJ (d 120 l2)), .int (xJ (d 121 l2))]) (a := 17) rfl rfl rfl rfl rfl rfl rfl rfl (by decide) (by decide) (rfl) (by decide) (yV_mono h (fun d5 e6 h => ?_))
      refine yb_aload rfl rfl ?_
      refine yb_dup rfl rfl ?_
      refine yb_get (v := .int (xJ (d5 118 (4 : Int)))) rfl (by decide) (by decide) (rfl) rfl ?_
      refine yb_aload rfl rfl ?_
      refine yb_iload (x := (d 120 l2)) rfl rfl ?_
      refine yb_iload (x := (d 121 l2)) rfl rfl ?_
      refine yb_callVi (As := [.int (xJ (d 120 l2)), .int (xJ (d 121 l2))]) (a := 17) rfl rfl rfl rfl rfl rfl rfl rfl (by decide) (by decide) (rfl) (by show (2 : Nat) ≤ 8; decide) (yC_mono h (fun x7 d8 e9 h => ?_))
      refine yb_iadd (x := (d5 118 (4 : Int))) (y := x7) rfl ?_
      refine yb_put (z := ((d5 118 (4 : Int)) + x7)) (k := 4) rfl rfl (by decide) (by decide) (rfl) (Nat.le_of_ble_eq_true rfl) rfl (rfl) ?_
      refine yb_aload rfl rfl ?_
      refine yb_get (v := .ref 126) rfl (by decide) (by decide) (rfl) rfl ?_
      refine yb_iload (x := (d 121 l2)) rfl rfl ?_
      refine yb_dup2 rfl rfl rfl ?_
      have r10 := h.1
      replace h := h.2
      refine yb_iald (j := (d 121 l2)) rfl xd_A126 (by decide) r10 (v := (d8 126 (d 121 l2))) (xs_np (by decide)) ?_
      refine yb_push (v := 1) rfl ?_
      refine yb_iadd (x := (d8 126 (d 121 l2))) (y := (1 : Int)) rfl ?_
      refine yb_iast (j := (d 121 l2)) (x := ((d8 126 (d 121 l2)) + (1 : Int))) rfl xd_A126 (by decide) r10 ?_
      refine yb_aload rfl rfl ?_
      refine yb_dup rfl rfl ?_
      refine yb_get (v := .int (xJ (d8 118 (2 : Int)))) rfl (by decide) (by decide) (rfl) rfl ?_
      refine yb_push (v := 1) rfl ?_
      refine yb_iadd (x := (d8 118 (2 : Int))) (y := (1 : Int)) rfl ?_
      refine yb_put (z := ((d8 118 (2 : Int)) + (1 : Int))) (k := 2) rfl rfl (by decide) (by decide) (rfl) (Nat.le_of_ble_eq_true rfl) rfl (rfl) ?_
      refine yb_iinc (x := l2) (n := 1) rfl rfl rfl rfl ?_
      refine yb_goto rfl rfl ?_
      refine yb_forget (dl := [.ref 118, .ref 17, .int (xJ (l2 + 1)), .double 0, .double 0]) ⟨Or.inl rfl, ⟨Or.inl rfl, ⟨Or.inl rfl, ⟨Or.inr ⟨rfl, rfl⟩, ⟨Or.inr ⟨rfl, rfl⟩, trivial⟩⟩⟩⟩⟩ ?_
      exact h
    · replace h := h.2 c
      refine yb_aload rfl rfl ?_
      refine yb_iload (x := (d 120 l2)) rfl rfl ?_
      refine yb_push (v := 9) rfl ?_
      refine yb_callVv (As := [.int (xJ (d 120 l2)), .int (xJ (9 : Int))]) (a := 17) rfl rfl rfl rfl rfl rfl rfl rfl (by decide) (by decide) (rfl) (by decide) (yV_mono h (fun d11 e12 h => ?_))
      refine yb_goto rfl rfl ?_
      refine yb_iinc (x := l2) (n := 1) rfl rfl rfl rfl ?_
      refine yb_goto rfl rfl ?_
      refine yb_forget (dl := [.ref 118, .ref 17, .int (xJ (l2 + 1)), .double 0, .double 0]) ⟨Or.inl rfl, ⟨Or.inl rfl, ⟨Or.inl rfl, ⟨Or.inr ⟨rfl, rfl⟩, ⟨Or.inr ⟨rfl, rfl⟩, trivial⟩⟩⟩⟩⟩ ?_
      exact h
theorem yk_90_12_0 {D L : Nat} {P : Int → xh_D → xd_E → Prop} {d : xh_D} {e : xd_E}    (h : yB D xm_c90 (yQi L P) L 4 [.ref 136, .ref 12, .int (xJ (0 : Int)), .int (xJ (0 : Int))] [] d e) : yB D xm_c90 (yQi L P) L 0 [.ref 136, .ref 12, .double 0, .double 0] [] d e := by
  refine yb_push (v := 0) rfl ?_
  refine yb_istore rfl rfl rfl ?_
  refine yb_push (v := 0) rfl ?_
  refine yb_istore rfl rfl rfl ?_
  exact h
theorem yk_90_12_4 {D L : Nat} {P : Int → xh_D → xd_E → Prop} {d : xh_D} {e : xd_E}  {l2 : Int} {l3 : Int}  (hD : 1 ≤ D) (h : ((-2147483648 ≤ l3 ∧ l3 < 2147483648) ∧ ((-2147483648 ≤ (d 136 (5 : Int)) ∧ (d 136 (5 : Int)) < 2147483648) ∧ ((((d 136 (5 : Int)) ≤ l3) → P l2 d e) ∧ ((¬ (d 136 (5 : Int)) ≤ l3) → ((0 ≤ l3 ∧ l3 < 12) ∧ ((0 ≤ (d 137 l3) ∧ (d 137 l3) < 9) ∧ ((0 ≤ (d 138 l3) ∧ (d 138 l3) < 9) ∧ ((-2147483648 ≤ (d 12 (d 137 l3)) ∧ (d 12 (d 137 l3)) < 2147483648) ∧ ((-2147483648 ≤ (d 12 (d 138 l3)) ∧ (d 12 (d 138 l3)) < 2147483648) ∧ ((-2147483648 ≤ (d 139 l3) ∧ (d 139 l3) < 2147483648) ∧ (((((d 12 (d 137 l3)) = (d 12 (d 138 l3)) ↔ (d 139 l3) = 1)) → yB D xm_c90 (yQi L P) L 4 [.ref 136, .ref 12, .int (xJ (xi_or l2 (xi_shl (1 : Int) l3))), .int (xJ (l3 + 1))] [] d e) ∧ (¬ (((d 12 (d 137 l3)) = (d 12 (d 138 l3)) ↔ (d 139 l3) = 1)) → yB D xm_c90 (yQi L P) L 4 [.ref 136, .ref 12, .int (xJ (xi_or l2 (0 : Int))), .int (xJ (l3 + 1))] [] d e))))))))))))) : yB D xm_c90 (yQi L P) L 4 [.ref 136, .ref 12, .int (xJ l2), .int (xJ l3)] [] d e := by
  refine yb_iload (x := l3) rfl rfl ?_
  refine yb_aload rfl rfl ?_
  refine yb_get (v := .int (xJ (d 136 (5 : Int)))) rfl (by decide) (by decide) (rfl) rfl ?_
  have r1 := h.1
  replace h := h.2
  have r2 := h.1
  replace h := h.2
  refine yb_icmp_ge (x := l3) (y := (d 136 (5 : Int))) rfl rfl r1 r2 (fun c => ?_) (fun c => ?_)
  · replace h := h.1 c
    refine yb_iload (x := l2) rfl rfl ?_
    exact yb_ret rfl h
  · replace h := h.2 c
    refine yb_iload (x := l2) rfl rfl ?_
    refine yb_aload rfl rfl ?_
    refine yb_aload rfl rfl ?_
    refine yb_iload (x := l3) rfl rfl ?_
    have r3 := h.1
    replace h := h.2
    have r4 := h.1
    replace h := h.2
    have r5 := h.1
    replace h := h.2
    have r6 := h.1
    replace h := h.2
    have r7 := h.1
    replace h := h.2
    have r8 := h.1
    replace h := h.2
    refine yb_callVz (As := [.ref 12, .int (xJ l3)]) (a := 136) rfl rfl rfl rfl rfl rfl rfl rfl (by decide) (by decide) (rfl) (by show (1 : Nat) ≤ 8; decide) (sp_91_12 (by omega) ⟨r3, r4, r5, r6, r7, r8⟩ (fun c => ?_) (fun c => ?_))
    · replace h := h.1 c
      show yB D xm_c90 _ L 13 [.ref 136, .ref 12, .int (xJ l2), .int (xJ l3)] [.int (xJ (1 : Int)), .int (xJ l2)] d e
      refine yb_if_eq (x := (1 : Int)) rfl rfl (by decide) (fun c => absurd c (by decide)) (fun _ => ?_)
      refine yb_push (v := 1) rfl ?_
      refine yb_iload (x := l3) rfl rfl ?_
      refine yb_ishl (x := (1 : Int)) (y := l3) rfl ?_
      refine yb_goto rfl rfl ?_
      refine yb_ior (x := l2) (y := (xi_shl (1 : Int) l3)) rfl ?_
      refine yb_istore rfl rfl rfl ?_
      refine yb_iinc (x := l3) (n := 1) rfl rfl rfl rfl ?_
      refine yb_goto rfl rfl ?_
      exact h
    · replace h := h.2 c
      show yB D xm_c90 _ L 13 [.ref 136, .ref 12, .int (xJ l2), .int (xJ l3)] [.int (xJ (0 : Int)), .int (xJ l2)] d e
      refine yb_if_eq (x := (0 : Int)) rfl rfl (by decide) (fun _ => ?_) (fun c => absurd (by decide) c)
      refine yb_push (v := 0) rfl ?_
      refine yb_ior (x := l2) (y := (0 : Int)) rfl ?_
      refine yb_istore rfl rfl rfl ?_
      refine yb_iinc (x := l3) (n := 1) rfl rfl rfl rfl ?_
      refine yb_goto rfl rfl ?_
      exact h
theorem yk_90_18_0 {D L : Nat} {P : Int → xh_D → xd_E → Prop} {d : xh_D} {e : xd_E}    (h : yB D xm_c90 (yQi L P) L 4 [.ref 136, .ref 18, .int (xJ (0 : Int)), .int (xJ (0 : Int))] [] d e) : yB D xm_c90 (yQi L P) L 0 [.ref 136, .ref 18, .double 0, .double 0] [] d e := by
  refine yb_push (v := 0) rfl ?_
  refine yb_istore rfl rfl rfl ?_
  refine yb_push (v := 0) rfl ?_
  refine yb_istore rfl rfl rfl ?_
  exact h
theorem yk_90_18_4 {D L : Nat} {P : Int → xh_D → xd_E → Prop} {d : xh_D} {e : xd_E}  {l2 : Int} {l3 : Int}  (hD : 1 ≤ D) (h : ((-2147483648 ≤ l3 ∧ l3 < 2147483648) ∧ ((-2147483648 ≤ (d 136 (5 : Int)) ∧ (d 136 (5 : Int)) < 2147483648) ∧ ((((d 136 (5 : Int)) ≤ l3) → P l2 d e) ∧ ((¬ (d 136 (5 : Int)) ≤ l3) → ((0 ≤ l3 ∧ l3 < 12) ∧ ((0 ≤ (d 137 l3) ∧ (d 137 l3) < 9) ∧ ((0 ≤ (d 138 l3) ∧ (d 138 l3) < 9) ∧ ((-2147483648 ≤ (d 18 (d 137 l3)) ∧ (d 18 (d 137 l3)) < 2147483648) ∧ ((-2147483648 ≤ (d 18 (d 138 l3)) ∧ (d 18 (d 138 l3)) < 2147483648) ∧ ((-2147483648 ≤ (d 139 l3) ∧ (d 139 l3) < 2147483648) ∧ (((((d 18 (d 137 l3)) = (d 18 (d 138 l3)) ↔ (d 139 l3) = 1)) → yB D xm_c90 (yQi L P) L 4 [.ref 136, .ref 18, .int (xJ (xi_or l2 (xi_shl (1 : Int) l3))), .int (xJ (l3 + 1))] [] d e) ∧ (¬ (((d 18 (d 137 l3)) = (d 18 (d 138 l3)) ↔ (d 139 l3) = 1)) → yB D xm_c90 (yQi L P) L 4 [.ref 136, .ref 18, .int (xJ (xi_or l2 (0 : Int))), .int (xJ (l3 + 1))] [] d e))))))))))))) : yB D xm_c90 (yQi L P) L 4 [.ref 136, .ref 18, .int (xJ l2), .int (xJ l3)] [] d e := by
  refine yb_iload (x := l3) rfl rfl ?_
  refine yb_aload rfl rfl ?_
  refine yb_get (v := .int (xJ (d 136 (5 : Int)))) rfl (by decide) (by decide) (rfl) rfl ?_
  have r1 := h.1
  replace h := h.2
  have r2 := h.1
  replace h := h.2
  refine yb_icmp_ge (x := l3) (y := (d 136 (5 : Int))) rfl rfl r1 r2 (fun c => ?_) (fun c => ?_)
  · replace h := h.1 c
    refine yb_iload (x := l2) rfl rfl ?_
    exact yb_ret rfl h
  · replace h := h.2 c
    refine yb_iload (x := l2) rfl rfl ?_
    refine yb_aload rfl rfl ?_
    refine yb_aload rfl rfl ?_
    refine yb_iload (x := l3) rfl rfl ?_
    have r3 := h.1
    replace h := h.2
    have r4 := h.1
    replace h := h.2
    have r5 := h.1
    replace h := h.2
    have r6 := h.1
    replace h := h.2
    have r7 := h.1
    replace h := h.2
    have r8 := h.1
    replace h := h.2
    refine yb_callVz (As := [.ref 18, .int (xJ l3)]) (a := 136) rfl rfl rfl rfl rfl rfl rfl rfl (by decide) (by decide) (rfl) (by show (1 : Nat) ≤ 8; decide) (sp_91_18 (by omega) ⟨r3, r4, r5, r6, r7, r8⟩ (fun c => ?_) (fun c => ?_))
    · replace h := h.1 c
      show yB D xm_c90 _ L 13 [.ref 136, .ref 18, .int (xJ l2), .int (xJ l3)] [.int (xJ (1 : Int)), .int (xJ l2)] d e
      refine yb_if_eq (x := (1 : Int)) rfl rfl (by decide) (fun c => absurd c (by decide)) (fun _ => ?_)
      refine yb_push (v := 1) rfl ?_
      refine yb_iload (x := l3) rfl rfl ?_
      refine yb_ishl (x := (1 : Int)) (y := l3) rfl ?_
      refine yb_goto rfl rfl ?_
      refine yb_ior (x := l2) (y := (xi_shl (1 : Int) l3)) rfl ?_
      refine yb_istore rfl rfl rfl ?_
      refine yb_iinc (x := l3) (n := 1) rfl rfl rfl rfl ?_
      refine yb_goto rfl rfl ?_
      exact h
    · replace h := h.2 c
      show yB D xm_c90 _ L 13 [.ref 136, .ref 18, .int (xJ l2), .int (xJ l3)] [.int (xJ (0 : Int)), .int (xJ l2)] d e
      refine yb_if_eq (x := (0 : Int)) rfl rfl (by decide) (fun _ => ?_) (fun c => absurd (by decide) c)
      refine yb_push (v := 0) rfl ?_
      refine yb_ior (x := l2) (y := (0 : Int)) rfl ?_
      refine yb_istore rfl rfl rfl ?_
      refine yb_iinc (x := l3) (n := 1) rfl rfl rfl rfl ?_
      refine yb_goto rfl rfl ?_
      exact h
theorem yk_92_0 {D L : Nat} {P1 P0 : xh_D → xd_E → Prop} {d : xh_D} {e : xd_E} {a1 : Int}   (h : yB D xm_c92 (yQz L P1 P0) L 2 [.ref 136, .int (xJ a1), .int (xJ (0 : Int))] [] d e) : yB D xm_c92 (yQz L P1 P0) L 0 [.ref 136, .int (xJ a1), .double 0] [] d e := by
  refine yb_push (v := 0) rfl ?_
  refine yb_istore rfl rfl rfl ?_
  exact h
theorem yk_92_2 {D L : Nat} {P1 P0 : xh_D → xd_E → Prop} {d : xh_D} {e : xd_E}  {l1 : Int} {l2 : Int}  (h : ((-2147483648 ≤ l2 ∧ l2 < 2147483648) ∧ ((-2147483648 ≤ l1 ∧ l1 < 2147483648) ∧ (((l1 ≤ l2) → yB D xm_c92 (yQz L P1 P0) L 14 [.ref 136, .int (xJ l1), .int (xJ (0 : Int))] [] d e) ∧ ((¬ l1 ≤ l2) → ((0 ≤ l2 ∧ l2 < 9) ∧ yB D xm_c92 (yQz L P1 P0) L 2 [.ref 136, .int (xJ l1), .int (xJ (l2 + 1))] [] (xs d 141 l2 l2) e)))))) : yB D xm_c92 (yQz L P1 P0) L 2 [.ref 136, .int (xJ l1), .int (xJ l2)] [] d e := by
  refine yb_iload (x := l2) rfl rfl ?_
  refine yb_iload (x := l1) rfl rfl ?_
  have r1 := h.1
  replace h := h.2
  have r2 := h.1
  replace h := h.2
  refine yb_icmp_ge (x := l2) (y := l1) rfl rfl r1 r2 (fun c => ?_) (fun c => ?_)
  · replace h := h.1 c
    refine yb_push (v := 0) rfl ?_
    refine yb_istore rfl rfl rfl ?_
    exact h
  · replace h := h.2 c
    refine yb_aload rfl rfl ?_
    refine yb_get (v := .ref 141) rfl (by decide) (by decide) (rfl) rfl ?_
    refine yb_iload (x := l2) rfl rfl ?_
    refine yb_iload (x := l2) rfl rfl ?_
    have r3 := h.1
    replace h := h.2
    refine yb_iast (j := l2) (x := l2) rfl xd_A141 (by decide) r3 ?_
    refine yb_iinc (x := l2) (n := 1) rfl rfl rfl rfl ?_
    refine yb_goto rfl rfl ?_
    exact h
theorem yk_92_14 {D L : Nat} {P1 P0 : xh_D → xd_E → Prop} {d : xh_D} {e : xd_E}  {l1 : Int} {l2 : Int}  (h : ((-2147483648 ≤ l2 ∧ l2 < 2147483648) ∧ ((-2147483648 ≤ (d 136 (5 : Int)) ∧ (d 136 (5 : Int)) < 2147483648) ∧ ((((d 136 (5 : Int)) ≤ l2) → yB D xm_c92 (yQz L P1 P0) L 45 [.ref 136, .double 0, .int (xJ (0 : Int))] [] d e) ∧ ((¬ (d 136 (5 : Int)) ≤ l2) → ((0 ≤ l2 ∧ l2 < 12) ∧ ((-2147483648 ≤ (d 139 l2) ∧ (d 139 l2) < 2147483648) ∧ (((¬ (d 139 l2) = (1 : Int)) → yB D xm_c92 (yQz L P1 P0) L 14 [.ref 136, .int (xJ l1), .int (xJ (l2 + 1))] [] d e) ∧ (((d 139 l2) = (1 : Int)) → ((0 ≤ (d 137 l2) ∧ (d 137 l2) < 9) ∧ ((0 ≤ (d 138 l2) ∧ (d 138 l2) < 9) ∧ yV D 93 L [.ref 136, .int (xJ (d 141 (d 137 l2))), .int (xJ (d 141 (d 138 l2))), .int (xJ l1)] d e (fun d7 e8 => yB D xm_c92 (yQz L P1 P0) L 14 [.ref 136, .int (xJ l1), .int (xJ (l2 + 1))] [] d7 e8)))))))))))) : yB D xm_c92 (yQz L P1 P0) L 14 [.ref 136, .int (xJ l1), .int (xJ l2)] [] d e := by
  refine yb_iload (x := l2) rfl rfl ?_
  refine yb_aload rfl rfl ?_
  refine yb_get (v := .int (xJ (d 136 (5 : Int)))) rfl (by decide) (by decide) (rfl) rfl ?_
  have r1 := h.1
  replace h := h.2
  have r2 := h.1
  replace h := h.2
  refine yb_icmp_ge (x := l2) (y := (d 136 (5 : Int))) rfl rfl r1 r2 (fun c => ?_) (fun c => ?_)
  · replace h := h.1 c
    refine yb_push (v := 0) rfl ?_
    refine yb_istore rfl rfl rfl ?_
    refine yb_forget (dl := [.ref 136, .double 0, .int (xJ (0 : Int))]) ⟨Or.inl rfl, ⟨Or.inr ⟨rfl, rfl⟩, ⟨Or.inl rfl, trivial⟩⟩⟩ ?_
    exact h
  · replace h := h.2 c
    refine yb_aload rfl rfl ?_
    refine yb_get (v := .ref 139) rfl (by decide) (by decide) (rfl) rfl ?_
    refine yb_iload (x := l2) rfl rfl ?_
    have r3 := h.1
    replace h := h.2
    refine yb_iald (j := l2) rfl xd_A139 (by decide) r3 (v := (d 139 l2)) rfl ?_
    refine yb_push (v := 1) rfl ?_
    have r4 := h.1
    replace h := h.2
    refine yb_icmp_ne (x := (d 139 l2)) (y := (1 : Int)) rfl rfl r4 (by decide) (fun c => ?_) (fun c => ?_)
    · replace h := h.1 c
      refine yb_iinc (x := l2) (n := 1) rfl rfl rfl rfl ?_
      refine yb_goto rfl rfl ?_
      exact h
    · replace h := h.2 c
      refine yb_aload rfl rfl ?_
      refine yb_aload rfl rfl ?_
      refine yb_get (v := .ref 141) rfl (by decide) (by decide) (rfl) rfl ?_
      refine yb_aload rfl rfl ?_
      refine yb_get (v := .ref 137) rfl (by decide) (by decide) (rfl) rfl ?_
      refine yb_iload (x := l2) rfl rfl ?_
      refine yb_iald (j := l2) rfl xd_A137 (by decide) r3 (v := (d 137 l2)) rfl ?_
      have r5 := h.1
      replace h := h.2
      refine yb_iald (j := (d 137 l2)) rfl xd_A141 (by decide) r5 (v := (d 141 (d 137 l2))) rfl ?_
      refine yb_aload rfl rfl ?_
      refine yb_get (v := .ref 141) rfl (by decide) (by decide) (rfl) rfl ?_
      refine yb_aload rfl rfl ?_
      refine yb_get (v := .ref 138) rfl (by decide) (by decide) (rfl) rfl ?_
      refine yb_iload (x := l2) rfl rfl ?_
      refine yb_iald (j := l2) rfl xd_A138 (by decide) r3 (v := (d 138 l2)) rfl ?_
      have r6 := h.1
      replace h := h.2
      refine yb_iald (j := (d 138 l2)) rfl xd_A141 (by decide) r6 (v := (d 141 (d 138 l2))) rfl ?_
      refine yb_iload (x := l1) rfl rfl ?_
      refine yb_callVv (As := [.int (xJ (d 141 (d 137 l2))), .int (xJ (d 141 (d 138 l2))), .int (xJ l1)]) (a := 136) rfl rfl rfl rfl rfl rfl rfl rfl (by decide) (by decide) (rfl) (by decide) (yV_mono h (fun d7 e8 h => ?_))
      refine yb_iinc (x := l2) (n := 1) rfl rfl rfl rfl ?_
      refine yb_goto rfl rfl ?_
      exact h
theorem yk_92_45 {D L : Nat} {P1 P0 : xh_D → xd_E → Prop} {d : xh_D} {e : xd_E}  {l2 : Int}  (hD : 1 ≤ D) (h : ((-2147483648 ≤ l2 ∧ l2 < 2147483648) ∧ ((-2147483648 ≤ (d 136 (5 : Int)) ∧ (d 136 (5 : Int)) < 2147483648) ∧ ((((d 136 (5 : Int)) ≤ l2) → P1 d e) ∧ ((¬ (d 136 (5 : Int)) ≤ l2) → ((0 ≤ l2 ∧ l2 < 12) ∧ ((0 ≤ (d 137 l2) ∧ (d 137 l2) < 9) ∧ ((0 ≤ (d 138 l2) ∧ (d 138 l2) < 9) ∧ ((-2147483648 ≤ (d 141 (d 137 l2)) ∧ (d 141 (d 137 l2)) < 2147483648) ∧ ((-2147483648 ≤ (d 141 (d 138 l2)) ∧ (d 141 (d 138 l2)) < 2147483648) ∧ ((-2147483648 ≤ (d 139 l2) ∧ (d 139 l2) < 2147483648) ∧ (((((d 141 (d 137 l2)) = (d 141 (d 138 l2)) ↔ (d 139 l2) = 1)) → yB D xm_c92 (yQz L P1 P0) L 45 [.ref 136, .double 0, .int (xJ (l2 + 1))] [] d e) ∧ (¬ (((d 141 (d 137 l2)) = (d 141 (d 138 l2)) ↔ (d 139 l2) = 1)) → P0 d e))))))))))))) : yB D xm_c92 (yQz L P1 P0) L 45 [.ref 136, .double 0, .int (xJ l2)] [] d e := by
  refine yb_iload (x := l2) rfl rfl ?_
  refine yb_aload rfl rfl ?_
  refine yb_get (v := .int (xJ (d 136 (5 : Int)))) rfl (by decide) (by decide) (rfl) rfl ?_
  have r1 := h.1
  replace h := h.2
  have r2 := h.1
  replace h := h.2
  refine yb_icmp_ge (x := l2) (y := (d 136 (5 : Int))) rfl rfl r1 r2 (fun c => ?_) (fun c => ?_)
  · replace h := h.1 c
    refine yb_push (v := 1) rfl ?_
    exact yb_ret1 rfl h
  · replace h := h.2 c
    refine yb_aload rfl rfl ?_
    refine yb_aload rfl rfl ?_
    refine yb_get (v := .ref 141) rfl (by decide) (by decide) (rfl) rfl ?_
    refine yb_iload (x := l2) rfl rfl ?_
    have r3 := h.1
    replace h := h.2
    have r4 := h.1
    replace h := h.2
    have r5 := h.1
    replace h := h.2
    have r6 := h.1
    replace h := h.2
    have r7 := h.1
    replace h := h.2
    have r8 := h.1
    replace h := h.2
    refine yb_callVz (As := [.ref 141, .int (xJ l2)]) (a := 136) rfl rfl rfl rfl rfl rfl rfl rfl (by decide) (by decide) (rfl) (by decide) (sp_91_141 (by omega) ⟨r3, r4, r5, r6, r7, r8⟩ (fun c => ?_) (fun c => ?_))
    · replace h := h.1 c
      show yB D xm_c92 _ L 54 [.ref 136, .double 0, .int (xJ l2)] [.int (xJ (1 : Int))] d e
      refine yb_if_ne (x := (1 : Int)) rfl rfl (by decide) (fun _ => ?_) (fun c => absurd c (by decide))
      refine yb_iinc (x := l2) (n := 1) rfl rfl rfl rfl ?_
      refine yb_goto rfl rfl ?_
      exact h
    · replace h := h.2 c
      show yB D xm_c92 _ L 54 [.ref 136, .double 0, .int (xJ l2)] [.int (xJ (0 : Int))] d e
      refine yb_if_ne (x := (0 : Int)) rfl rfl (by decide) (fun c => absurd (by decide) c) (fun _ => ?_)
      refine yb_push (v := 0) rfl ?_
      exact yb_ret0 rfl h
theorem yk_93_0 {D L : Nat} {P : xh_D → xd_E → Prop} {d : xh_D} {e : xd_E} {a1 : Int} {a2 : Int} {a3 : Int}   (h : yB D xm_c93 (yQv L P) L 2 [.ref 136, .int (xJ a1), .int (xJ a2), .int (xJ a3), .int (xJ (0 : Int))] [] d e) : yB D xm_c93 (yQv L P) L 0 [.ref 136, .int (xJ a1), .int (xJ a2), .int (xJ a3), .double 0] [] d e := by
  refine yb_push (v := 0) rfl ?_
  refine yb_istore rfl rfl rfl ?_
  exact h
theorem yk_93_2 {D L : Nat} {P : xh_D → xd_E → Prop} {d : xh_D} {e : xd_E}  {l1 : Int} {l2 : Int} {l3 : Int} {l4 : Int}  (h : ((-2147483648 ≤ l4 ∧ l4 < 2147483648) ∧ ((-2147483648 ≤ l3 ∧ l3 < 2147483648) ∧ (((l3 ≤ l4) → P d e) ∧ ((¬ l3 ≤ l4) → ((0 ≤ l4 ∧ l4 < 9) ∧ ((-2147483648 ≤ (d 141 l4) ∧ (d 141 l4) < 2147483648) ∧ ((-2147483648 ≤ l2 ∧ l2 < 2147483648) ∧ (((¬ (d 141 l4) = l2) → yB D xm_c93 (yQv L P) L 2 [.ref 136, .int (xJ l1), .int (xJ l2), .int (xJ l3), .int (xJ (l4 + 1))] [] d e) ∧ (((d 141 l4) = l2) → yB D xm_c93 (yQv L P) L 2 [.ref 136, .int (xJ l1), .int (xJ l2), .int (xJ l3), .int (xJ (l4 + 1))] [] (xs d 141 l4 l1) e)))))))))) : yB D xm_c93 (yQv L P) L 2 [.ref 136, .int (xJ l1), .int (xJ l2), .int (xJ l3), .int (xJ l4)] [] d e := by
  refine yb_iload (x := l4) rfl rfl ?_
  refine yb_iload (x := l3) rfl rfl ?_
  have r1 := h.1
  replace h := h.2
  have r2 := h.1
  replace h := h.2
  refine yb_icmp_ge (x := l4) (y := l3) rfl rfl r1 r2 (fun c => ?_) (fun c => ?_)
  · replace h := h.1 c
    exact yb_retv rfl h
  · replace h := h.2 c
    refine yb_aload rfl rfl ?_
    refine yb_get (v := .ref 141) rfl (by decide) (by decide) (rfl) rfl ?_
    refine yb_iload (x := l4) rfl rfl ?_
    have r3 := h.1
    replace h := h.2
    refine yb_iald (j := l4) rfl xd_A141 (by decide) r3 (v := (d 141 l4)) rfl ?_
    refine yb_iload (x := l2) rfl rfl ?_
    have r4 := h.1
    replace h := h.2
    have r5 := h.1
    replace h := h.2
    refine yb_icmp_ne (x := (d 141 l4)) (y := l2) rfl rfl r4 r5 (fun c => ?_) (fun c => ?_)
    · replace h := h.1 c
      refine yb_iinc (x := l4) (n := 1) rfl rfl rfl rfl ?_
      refine yb_goto rfl rfl ?_
      exact h
    · replace h := h.2 c
      refine yb_aload rfl rfl ?_
      refine yb_get (v := .ref 141) rfl (by decide) (by decide) (rfl) rfl ?_
      refine yb_iload (x := l4) rfl rfl ?_
      refine yb_iload (x := l1) rfl rfl ?_
      refine yb_iast (j := l4) (x := l1) rfl xd_A141 (by decide) r3 ?_
      refine yb_iinc (x := l4) (n := 1) rfl rfl rfl rfl ?_
      refine yb_goto rfl rfl ?_
      exact h
theorem yk_94_0 {D L : Nat} {P : Int → xh_D → xd_E → Prop} {d : xh_D} {e : xd_E} {a1 : Int}   (h : yB D xm_c94 (yQi L P) L 2 [.ref 136, .int (xJ a1), .int (xJ (0 : Int))] [] d e) : yB D xm_c94 (yQi L P) L 0 [.ref 136, .int (xJ a1), .double 0] [] d e := by
  refine yb_push (v := 0) rfl ?_
  refine yb_istore rfl rfl rfl ?_
  exact h
theorem yk_94_2 {D L : Nat} {P : Int → xh_D → xd_E → Prop} {d : xh_D} {e : xd_E}  {l1 : Int} {l2 : Int}  (h : ((-2147483648 ≤ l2 ∧ l2 < 2147483648) ∧ ((((9 : Int) < l2) → P (-2 : Int) d e) ∧ ((¬ (9 : Int) < l2) → yZ D 95 L [.ref 136, .int (xJ (0 : Int)), .int (xJ (0 : Int)), .int (xJ l2), .int (xJ l1)] d e (fun d2 e3 => P l2 d2 e3) (fun d2 e3 => yB D xm_c94 (yQi L P) L 2 [.ref 136, .int (xJ l1), .int (xJ (l2 + 1))] [] d2 e3))))) : yB D xm_c94 (yQi L P) L 2 [.ref 136, .int (xJ l1), .int (xJ l2)] [] d e := by
  refine yb_iload (x := l2) rfl rfl ?_
  refine yb_push (v := 9) rfl ?_
  have r1 := h.1
  replace h := h.2
  refine yb_icmp_gt (x := l2) (y := (9 : Int)) rfl rfl r1 (by decide) (fun c => ?_) (fun c => ?_)
  · replace h := h.1 c
    refine yb_push (v := (-2)) rfl ?_
    exact yb_ret rfl h
  · replace h := h.2 c
    refine yb_aload rfl rfl ?_
    refine yb_push (v := 0) rfl ?_
    refine yb_push (v := 0) rfl ?_
    refine yb_iload (x := l2) rfl rfl ?_
    refine yb_iload (x := l1) rfl rfl ?_
    refine yb_callVz (As := [.int (xJ (0 : Int)), .int (xJ (0 : Int)), .int (xJ l2), .int (xJ l1)]) (a := 136) rfl rfl rfl rfl rfl rfl rfl rfl (by decide) (by decide) (rfl) (by decide) (yZ_mono h (fun d2 e3 h => ?_) (fun d2 e3 h => ?_))
    · refine yb_if_eq (x := (1 : Int)) rfl rfl (by decide) (fun c => absurd c (by decide)) (fun _ => ?_)
      refine yb_iload (x := l2) rfl rfl ?_
      exact yb_ret rfl h
    · refine yb_if_eq (x := (0 : Int)) rfl rfl (by decide) (fun _ => ?_) (fun c => absurd (by decide) c)
      refine yb_iinc (x := l2) (n := 1) rfl rfl rfl rfl ?_
      refine yb_goto rfl rfl ?_
      exact h
theorem yk_95_0 {D L : Nat} {P1 P0 : xh_D → xd_E → Prop} {d : xh_D} {e : xd_E} {a1 : Int} {a2 : Int} {a3 : Int} {a4 : Int}   (hD : 1 ≤ D) (h : ((-2147483648 ≤ a1 ∧ a1 < 2147483648) ∧ ((-2147483648 ≤ a4 ∧ a4 < 2147483648) ∧ (((a1 < a4) → ((-2147483648 ≤ a2 ∧ a2 < 2147483648) ∧ ((-2147483648 ≤ (a3 - (1 : Int)) ∧ (a3 - (1 : Int)) < 2147483648) ∧ yB D xm_c95 (yQz L P1 P0) L 13 [.ref 136, .int (xJ a1), .int (xJ a2), .int (xJ a3), .int (xJ a4), .int (xJ (min a2 (a3 - (1 : Int)))), .int (xJ (0 : Int))] [] d e))) ∧ ((¬ a1 < a4) → P1 d e))))) : yB D xm_c95 (yQz L P1 P0) L 0 [.ref 136, .int (xJ a1), .int (xJ a2), .int (xJ a3), .int (xJ a4), .double 0, .double 0] [] d e := by
  refine yb_iload (x := a1) rfl rfl ?_
  refine yb_iload (x := a4) rfl rfl ?_
  have r1 := h.1
  replace h := h.2
  have r2 := h.1
  replace h := h.2
  refine yb_icmp_lt (x := a1) (y := a4) rfl rfl r1 r2 (fun c => ?_) (fun c => ?_)
  · replace h := h.1 c
    refine yb_iload (x := a2) rfl rfl ?_
    refine yb_iload (x := a3) rfl rfl ?_
    refine yb_push (v := 1) rfl ?_
    refine yb_isub (x := a3) (y := (1 : Int)) rfl ?_
    have r3 := h.1
    replace h := h.2
    have r4 := h.1
    replace h := h.2
    refine yb_callSi (As := [.int (xJ a2), .int (xJ (a3 - (1 : Int)))]) rfl rfl rfl rfl rfl rfl rfl rfl (by decide) (sp_5 (by omega) ⟨r3, r4⟩ ?_)
    show yB D xm_c95 _ L 10 [.ref 136, .int (xJ a1), .int (xJ a2), .int (xJ a3), .int (xJ a4), .double 0, .double 0] [.int (xJ (min a2 (a3 - (1 : Int))))] d e
    refine yb_istore rfl rfl rfl ?_
    refine yb_push (v := 0) rfl ?_
    refine yb_istore rfl rfl rfl ?_
    exact h
  · replace h := h.2 c
    refine yb_push (v := 1) rfl ?_
    exact yb_ret1 rfl h
theorem yk_95_13 {D L : Nat} {P1 P0 : xh_D → xd_E → Prop} {d : xh_D} {e : xd_E}  {l1 : Int} {l2 : Int} {l3 : Int} {l4 : Int} {l5 : Int} {l6 : Int}  (hD : 1 ≤ D) (h : ((-2147483648 ≤ l6 ∧ l6 < 2147483648) ∧ ((-2147483648 ≤ l5 ∧ l5 < 2147483648) ∧ (((l5 < l6) → P0 d e) ∧ ((¬ l5 < l6) → ((0 ≤ l1 ∧ l1 < 9) ∧ yZ D 96 L [.ref 136, .int (xJ l1)] (xs d 140 l1 l6) e (fun d4 e5 => ((-2147483648 ≤ l2 ∧ l2 < 2147483648) ∧ ((-2147483648 ≤ (l6 + (1 : Int)) ∧ (l6 + (1 : Int)) < 2147483648) ∧ yZ D 95 L [.ref 136, .int (xJ (l1 + (1 : Int))), .int (xJ (max l2 (l6 + (1 : Int)))), .int (xJ l3), .int (xJ l4)] d4 e5 (fun d8 e9 => P1 d8 e9) (fun d8 e9 => yB D xm_c95 (yQz L P1 P0) L 13 [.ref 136, .int (xJ l1), .int (xJ l2), .int (xJ l3), .int (xJ l4), .int (xJ l5), .int (xJ (l6 + 1))] [] d8 e9)))) (fun d4 e5 => yB D xm_c95 (yQz L P1 P0) L 13 [.ref 136, .int (xJ l1), .int (xJ l2), .int (xJ l3), .int (xJ l4), .int (xJ l5), .int (xJ (l6 + 1))] [] d4 e5))))))) : yB D xm_c95 (yQz L P1 P0) L 13 [.ref 136, .int (xJ l1), .int (xJ l2), .int (xJ l3), .int (xJ l4), .int (xJ l5), .int (xJ l6)] [] d e := by
  refine yb_iload (x := l6) rfl rfl ?_
  refine yb_iload (x := l5) rfl rfl ?_
  have r1 := h.1
  replace h := h.2
  have r2 := h.1
  replace h := h.2
  refine yb_icmp_gt (x := l6) (y := l5) rfl rfl r1 r2 (fun c => ?_) (fun c => ?_)
  · replace h := h.1 c
    refine yb_push (v := 0) rfl ?_
    exact yb_ret0 rfl h
  · replace h := h.2 c
    refine yb_aload rfl rfl ?_
    refine yb_get (v := .ref 140) rfl (by decide) (by decide) (rfl) rfl ?_
    refine yb_iload (x := l1) rfl rfl ?_
    refine yb_iload (x := l6) rfl rfl ?_
    have r3 := h.1
    replace h := h.2
    refine yb_iast (j := l1) (x := l6) rfl xd_A140 (by decide) r3 ?_
    refine yb_aload rfl rfl ?_
    refine yb_iload (x := l1) rfl rfl ?_
    refine yb_callVz (As := [.int (xJ l1)]) (a := 136) rfl rfl rfl rfl rfl rfl rfl rfl (by decide) (by decide) (rfl) (by decide) (yZ_mono h (fun d4 e5 h => ?_) (fun d4 e5 h => ?_))
    · refine yb_if_eq (x := (1 : Int)) rfl rfl (by decide) (fun c => absurd c (by decide)) (fun _ => ?_)
      refine yb_aload rfl rfl ?_
      refine yb_iload (x := l1) rfl rfl ?_
      refine yb_push (v := 1) rfl ?_
      refine yb_iadd (x := l1) (y := (1 : Int)) rfl ?_
      refine yb_iload (x := l2) rfl rfl ?_
      refine yb_iload (x := l6) rfl rfl ?_
      refine yb_push (v := 1) rfl ?_
      refine yb_iadd (x := l6) (y := (1 : Int)) rfl ?_
      have r6 := h.1
      replace h := h.2
      have r7 := h.1
      replace h := h.2
      refine yb_callSi (As := [.int (xJ l2), .int (xJ (l6 + (1 : Int)))]) rfl rfl rfl rfl rfl rfl rfl rfl (by show (2 : Nat) ≤ 8; decide) (sp_4 (by omega) ⟨r6, r7⟩ ?_)
      show yB D xm_c95 _ L 34 [.ref 136, .int (xJ l1), .int (xJ l2), .int (xJ l3), .int (xJ l4), .int (xJ l5), .int (xJ l6)] [.int (xJ (max l2 (l6 + (1 : Int)))), .int (xJ (l1 + (1 : Int))), .ref 136] d4 e5
      refine yb_iload (x := l3) rfl rfl ?_
      refine yb_iload (x := l4) rfl rfl ?_
      refine yb_callVz (As := [.int (xJ (l1 + (1 : Int))), .int (xJ (max l2 (l6 + (1 : Int)))), .int (xJ l3), .int (xJ l4)]) (a := 136) rfl rfl rfl rfl rfl rfl rfl rfl (by decide) (by decide) (rfl) (by decide) (yZ_mono h (fun d8 e9 h => ?_) (fun d8 e9 h => ?_))
      · refine yb_if_eq (x := (1 : Int)) rfl rfl (by decide) (fun c => absurd c (by decide)) (fun _ => ?_)
        refine yb_push (v := 1) rfl ?_
        exact yb_ret1 rfl h
      · refine yb_if_eq (x := (0 : Int)) rfl rfl (by decide) (fun _ => ?_) (fun c => absurd (by decide) c)
        refine yb_iinc (x := l6) (n := 1) rfl rfl rfl rfl ?_
        refine yb_goto rfl rfl ?_
        exact h
    · refine yb_if_eq (x := (0 : Int)) rfl rfl (by decide) (fun _ => ?_) (fun c => absurd (by decide) c)
      refine yb_iinc (x := l6) (n := 1) rfl rfl rfl rfl ?_
      refine yb_goto rfl rfl ?_
      exact h
theorem yk_96_0 {D L : Nat} {P1 P0 : xh_D → xd_E → Prop} {d : xh_D} {e : xd_E} {a1 : Int}   (h : yB D xm_c96 (yQz L P1 P0) L 2 [.ref 136, .int (xJ a1), .int (xJ (0 : Int))] [] d e) : yB D xm_c96 (yQz L P1 P0) L 0 [.ref 136, .int (xJ a1), .double 0] [] d e := by
  refine yb_push (v := 0) rfl ?_
  refine yb_istore rfl rfl rfl ?_
  exact h
theorem yk_96_2 {D L : Nat} {P1 P0 : xh_D → xd_E → Prop} {d : xh_D} {e : xd_E}  {l1 : Int} {l2 : Int}  (hD : 1 ≤ D) (h : ((-2147483648 ≤ l2 ∧ l2 < 2147483648) ∧ ((-2147483648 ≤ (d 136 (5 : Int)) ∧ (d 136 (5 : Int)) < 2147483648) ∧ ((((d 136 (5 : Int)) ≤ l2) → P1 d e) ∧ ((¬ (d 136 (5 : Int)) ≤ l2) → ((0 ≤ l2 ∧ l2 < 12) ∧ ((-2147483648 ≤ (d 137 l2) ∧ (d 137 l2) < 2147483648) ∧ ((-2147483648 ≤ (d 138 l2) ∧ (d 138 l2) < 2147483648) ∧ ((-2147483648 ≤ l1 ∧ l1 < 2147483648) ∧ (((¬ (max (d 137 l2) (d 138 l2)) = l1) → yB D xm_c96 (yQz L P1 P0) L 2 [.ref 136, .int (xJ l1), .int (xJ (l2 + 1))] [] d e) ∧ (((max (d 137 l2) (d 138 l2)) = l1) → ((0 ≤ (d 137 l2) ∧ (d 137 l2) < 9) ∧ ((0 ≤ (d 138 l2) ∧ (d 138 l2) < 9) ∧ ((-2147483648 ≤ (d 140 (d 137 l2)) ∧ (d 140 (d 137 l2)) < 2147483648) ∧ ((-2147483648 ≤ (d 140 (d 138 l2)) ∧ (d 140 (d 138 l2)) < 2147483648) ∧ ((-2147483648 ≤ (d 139 l2) ∧ (d 139 l2) < 2147483648) ∧ (((((d 140 (d 137 l2)) = (d 140 (d 138 l2)) ↔ (d 139 l2) = 1)) → yB D xm_c96 (yQz L P1 P0) L 2 [.ref 136, .int (xJ l1), .int (xJ (l2 + 1))] [] d e) ∧ (¬ (((d 140 (d 137 l2)) = (d 140 (d 138 l2)) ↔ (d 139 l2) = 1)) → P0 d e)))))))))))))))))) : yB D xm_c96 (yQz L P1 P0) L 2 [.ref 136, .int (xJ l1), .int (xJ l2)] [] d e := by
  refine yb_iload (x := l2) rfl rfl ?_
  refine yb_aload rfl rfl ?_
  refine yb_get (v := .int (xJ (d 136 (5 : Int)))) rfl (by decide) (by decide) (rfl) rfl ?_
  have r1 := h.1
  replace h := h.2
  have r2 := h.1
  replace h := h.2
  refine yb_icmp_ge (x := l2) (y := (d 136 (5 : Int))) rfl rfl r1 r2 (fun c => ?_) (fun c => ?_)
  · replace h := h.1 c
    refine yb_push (v := 1) rfl ?_
    exact yb_ret1 rfl h
  · replace h := h.2 c
    refine yb_aload rfl rfl ?_
    refine yb_get (v := .ref 137) rfl (by decide) (by decide) (rfl) rfl ?_
    refine yb_iload (x := l2) rfl rfl ?_
    have r3 := h.1
    replace h := h.2
    refine yb_iald (j := l2) rfl xd_A137 (by decide) r3 (v := (d 137 l2)) rfl ?_
    refine yb_aload rfl rfl ?_
    refine yb_get (v := .ref 138) rfl (by decide) (by decide) (rfl) rfl ?_
    refine yb_iload (x := l2) rfl rfl ?_
    refine yb_iald (j := l2) rfl xd_A138 (by decide) r3 (v := (d 138 l2)) rfl ?_
    have r4 := h.1
    replace h := h.2
    have r5 := h.1
    replace h := h.2
    refine yb_callSi (As := [.int (xJ (d 137 l2)), .int (xJ (d 138 l2))]) rfl rfl rfl rfl rfl rfl rfl rfl (by decide) (sp_4 (by omega) ⟨r4, r5⟩ ?_)
    show yB D xm_c96 _ L 15 [.ref 136, .int (xJ l1), .int (xJ l2)] [.int (xJ (max (d 137 l2) (d 138 l2)))] d e
    refine yb_iload (x := l1) rfl rfl ?_
    have r6 := h.1
    replace h := h.2
    refine yb_icmp_ne (x := (max (d 137 l2) (d 138 l2))) (y := l1) rfl rfl (by omega) r6 (fun c => ?_) (fun c => ?_)
    · replace h := h.1 c
      refine yb_iinc (x := l2) (n := 1) rfl rfl rfl rfl ?_
      refine yb_goto rfl rfl ?_
      exact h
    · replace h := h.2 c
      refine yb_aload rfl rfl ?_
      refine yb_aload rfl rfl ?_
      refine yb_get (v := .ref 140) rfl (by decide) (by decide) (rfl) rfl ?_
      refine yb_iload (x := l2) rfl rfl ?_
      have r7 := h.1
      replace h := h.2
      have r8 := h.1
      replace h := h.2
      have r9 := h.1
      replace h := h.2
      have r10 := h.1
      replace h := h.2
      have r11 := h.1
      replace h := h.2
      refine yb_callVz (As := [.ref 140, .int (xJ l2)]) (a := 136) rfl rfl rfl rfl rfl rfl rfl rfl (by decide) (by decide) (rfl) (by decide) (sp_91_140 (by omega) ⟨r3, r7, r8, r9, r10, r11⟩ (fun c => ?_) (fun c => ?_))
      · replace h := h.1 c
        show yB D xm_c96 _ L 22 [.ref 136, .int (xJ l1), .int (xJ l2)] [.int (xJ (1 : Int))] d e
        refine yb_if_ne (x := (1 : Int)) rfl rfl (by decide) (fun _ => ?_) (fun c => absurd c (by decide))
        refine yb_iinc (x := l2) (n := 1) rfl rfl rfl rfl ?_
        refine yb_goto rfl rfl ?_
        exact h
      · replace h := h.2 c
        show yB D xm_c96 _ L 22 [.ref 136, .int (xJ l1), .int (xJ l2)] [.int (xJ (0 : Int))] d e
        refine yb_if_ne (x := (0 : Int)) rfl rfl (by decide) (fun c => absurd (by decide) c) (fun _ => ?_)
        refine yb_push (v := 0) rfl ?_
        exact yb_ret0 rfl h
