/-! BLOCKS of methods, out of blk2.py. -/
theorem yk_225_147_158_0 {D L : Nat} {P : xh_D → xd_E → Prop} {d : xh_D} {e : xd_E} {a2 : Int}   (h : yB D xm_c225 (yQv L P) L 2 [.ref 147, .ref 158, .int (xJ a2), .int (xJ (0 : Int))] [] d e) : yB D xm_c225 (yQv L P) L 0 [.ref 147, .ref 158, .int (xJ a2), .double 0] [] d e := by
  refine yb_push (v := 0) rfl ?_
  refine yb_istore rfl rfl rfl ?_
  exact h
theorem yk_225_147_158_2 {D L : Nat} {P : xh_D → xd_E → Prop} {d : xh_D} {e : xd_E}  {l2 : Int} {l3 : Int}  (h : ((-2147483648 ≤ l3 ∧ l3 < 2147483648) ∧ ((((353 : Int) ≤ l3) → P d e) ∧ ((¬ (353 : Int) ≤ l3) → ((0 ≤ l3 ∧ l3 < 353) ∧ ((0 ≤ (l2 + l3) ∧ (l2 + l3) < 4236) ∧ yB D xm_c225 (yQv L P) L 2 [.ref 147, .ref 158, .int (xJ l2), .int (xJ (l3 + 1))] [] (xs d 158 (l2 + l3) (d 147 l3)) e)))))) : yB D xm_c225 (yQv L P) L 2 [.ref 147, .ref 158, .int (xJ l2), .int (xJ l3)] [] d e := by
  refine yb_iload (x := l3) rfl rfl ?_
  refine yb_push (v := 353) rfl ?_
  have r1 := h.1
  replace h := h.2
  refine yb_icmp_ge (x := l3) (y := (353 : Int)) rfl rfl r1 (by decide) (fun c => ?_) (fun c => ?_)
  · replace h := h.1 c
    exact yb_retv rfl h
  · replace h := h.2 c
    refine yb_aload rfl rfl ?_
    refine yb_iload (x := l2) rfl rfl ?_
    refine yb_iload (x := l3) rfl rfl ?_
    refine yb_iadd (x := l2) (y := l3) rfl ?_
    refine yb_aload rfl rfl ?_
    refine yb_iload (x := l3) rfl rfl ?_
    have r2 := h.1
    replace h := h.2
    refine yb_iald (j := l3) rfl xd_A147 (by decide) r2 (v := (d 147 l3)) rfl ?_
    have r3 := h.1
    replace h := h.2
    refine yb_iast (j := (l2 + l3)) (x := (d 147 l3)) rfl xd_A158 (by decide) r3 ?_
    refine yb_iinc (x := l3) (n := 1) rfl rfl rfl rfl ?_
    refine yb_goto rfl rfl ?_
    exact h
theorem yk_225_147_159_0 {D L : Nat} {P : xh_D → xd_E → Prop} {d : xh_D} {e : xd_E} {a2 : Int}   (h : yB D xm_c225 (yQv L P) L 2 [.ref 147, .ref 159, .int (xJ a2), .int (xJ (0 : Int))] [] d e) : yB D xm_c225 (yQv L P) L 0 [.ref 147, .ref 159, .int (xJ a2), .double 0] [] d e := by
  refine yb_push (v := 0) rfl ?_
  refine yb_istore rfl rfl rfl ?_
  exact h
theorem yk_225_147_159_2 {D L : Nat} {P : xh_D → xd_E → Prop} {d : xh_D} {e : xd_E}  {l2 : Int} {l3 : Int}  (h : ((-2147483648 ≤ l3 ∧ l3 < 2147483648) ∧ ((((353 : Int) ≤ l3) → P d e) ∧ ((¬ (353 : Int) ≤ l3) → ((0 ≤ l3 ∧ l3 < 353) ∧ ((0 ≤ (l2 + l3) ∧ (l2 + l3) < 353) ∧ yB D xm_c225 (yQv L P) L 2 [.ref 147, .ref 159, .int (xJ l2), .int (xJ (l3 + 1))] [] (xs d 159 (l2 + l3) (d 147 l3)) e)))))) : yB D xm_c225 (yQv L P) L 2 [.ref 147, .ref 159, .int (xJ l2), .int (xJ l3)] [] d e := by
  refine yb_iload (x := l3) rfl rfl ?_
  refine yb_push (v := 353) rfl ?_
  have r1 := h.1
  replace h := h.2
  refine yb_icmp_ge (x := l3) (y := (353 : Int)) rfl rfl r1 (by decide) (fun c => ?_) (fun c => ?_)
  · replace h := h.1 c
    exact yb_retv rfl h
  · replace h := h.2 c
    refine yb_aload rfl rfl ?_
    refine yb_iload (x := l2) rfl rfl ?_
    refine yb_iload (x := l3) rfl rfl ?_
    refine yb_iadd (x := l2) (y := l3) rfl ?_
    refine yb_aload rfl rfl ?_
    refine yb_iload (x := l3) rfl rfl ?_
    have r2 := h.1
    replace h := h.2
    refine yb_iald (j := l3) rfl xd_A147 (by decide) r2 (v := (d 147 l3)) rfl ?_
    have r3 := h.1
    replace h := h.2
    refine yb_iast (j := (l2 + l3)) (x := (d 147 l3)) rfl xd_A159 (by decide) r3 ?_
    refine yb_iinc (x := l3) (n := 1) rfl rfl rfl rfl ?_
    refine yb_goto rfl rfl ?_
    exact h
theorem yk_225_147_162_0 {D L : Nat} {P : xh_D → xd_E → Prop} {d : xh_D} {e : xd_E} {a2 : Int}   (h : yB D xm_c225 (yQv L P) L 2 [.ref 147, .ref 162, .int (xJ a2), .int (xJ (0 : Int))] [] d e) : yB D xm_c225 (yQv L P) L 0 [.ref 147, .ref 162, .int (xJ a2), .double 0] [] d e := by
  refine yb_push (v := 0) rfl ?_
  refine yb_istore rfl rfl rfl ?_
  exact h
theorem yk_225_147_162_2 {D L : Nat} {P : xh_D → xd_E → Prop} {d : xh_D} {e : xd_E}  {l2 : Int} {l3 : Int}  (h : ((-2147483648 ≤ l3 ∧ l3 < 2147483648) ∧ ((((353 : Int) ≤ l3) → P d e) ∧ ((¬ (353 : Int) ≤ l3) → ((0 ≤ l3 ∧ l3 < 353) ∧ ((0 ≤ (l2 + l3) ∧ (l2 + l3) < 353) ∧ yB D xm_c225 (yQv L P) L 2 [.ref 147, .ref 162, .int (xJ l2), .int (xJ (l3 + 1))] [] (xs d 162 (l2 + l3) (d 147 l3)) e)))))) : yB D xm_c225 (yQv L P) L 2 [.ref 147, .ref 162, .int (xJ l2), .int (xJ l3)] [] d e := by
  refine yb_iload (x := l3) rfl rfl ?_
  refine yb_push (v := 353) rfl ?_
  have r1 := h.1
  replace h := h.2
  refine yb_icmp_ge (x := l3) (y := (353 : Int)) rfl rfl r1 (by decide) (fun c => ?_) (fun c => ?_)
  · replace h := h.1 c
    exact yb_retv rfl h
  · replace h := h.2 c
    refine yb_aload rfl rfl ?_
    refine yb_iload (x := l2) rfl rfl ?_
    refine yb_iload (x := l3) rfl rfl ?_
    refine yb_iadd (x := l2) (y := l3) rfl ?_
    refine yb_aload rfl rfl ?_
    refine yb_iload (x := l3) rfl rfl ?_
    have r2 := h.1
    replace h := h.2
    refine yb_iald (j := l3) rfl xd_A147 (by decide) r2 (v := (d 147 l3)) rfl ?_
    have r3 := h.1
    replace h := h.2
    refine yb_iast (j := (l2 + l3)) (x := (d 147 l3)) rfl xd_A162 (by decide) r3 ?_
    refine yb_iinc (x := l3) (n := 1) rfl rfl rfl rfl ?_
    refine yb_goto rfl rfl ?_
    exact h
theorem yk_225_147_174_0 {D L : Nat} {P : xh_D → xd_E → Prop} {d : xh_D} {e : xd_E} {a2 : Int}   (h : yB D xm_c225 (yQv L P) L 2 [.ref 147, .ref 174, .int (xJ a2), .int (xJ (0 : Int))] [] d e) : yB D xm_c225 (yQv L P) L 0 [.ref 147, .ref 174, .int (xJ a2), .double 0] [] d e := by
  refine yb_push (v := 0) rfl ?_
  refine yb_istore rfl rfl rfl ?_
  exact h
theorem yk_225_147_174_2 {D L : Nat} {P : xh_D → xd_E → Prop} {d : xh_D} {e : xd_E}  {l2 : Int} {l3 : Int}  (h : ((-2147483648 ≤ l3 ∧ l3 < 2147483648) ∧ ((((353 : Int) ≤ l3) → P d e) ∧ ((¬ (353 : Int) ≤ l3) → ((0 ≤ l3 ∧ l3 < 353) ∧ ((0 ≤ (l2 + l3) ∧ (l2 + l3) < 706) ∧ yB D xm_c225 (yQv L P) L 2 [.ref 147, .ref 174, .int (xJ l2), .int (xJ (l3 + 1))] [] (xs d 174 (l2 + l3) (d 147 l3)) e)))))) : yB D xm_c225 (yQv L P) L 2 [.ref 147, .ref 174, .int (xJ l2), .int (xJ l3)] [] d e := by
  refine yb_iload (x := l3) rfl rfl ?_
  refine yb_push (v := 353) rfl ?_
  have r1 := h.1
  replace h := h.2
  refine yb_icmp_ge (x := l3) (y := (353 : Int)) rfl rfl r1 (by decide) (fun c => ?_) (fun c => ?_)
  · replace h := h.1 c
    exact yb_retv rfl h
  · replace h := h.2 c
    refine yb_aload rfl rfl ?_
    refine yb_iload (x := l2) rfl rfl ?_
    refine yb_iload (x := l3) rfl rfl ?_
    refine yb_iadd (x := l2) (y := l3) rfl ?_
    refine yb_aload rfl rfl ?_
    refine yb_iload (x := l3) rfl rfl ?_
    have r2 := h.1
    replace h := h.2
    refine yb_iald (j := l3) rfl xd_A147 (by decide) r2 (v := (d 147 l3)) rfl ?_
    have r3 := h.1
    replace h := h.2
    refine yb_iast (j := (l2 + l3)) (x := (d 147 l3)) rfl xd_A174 (by decide) r3 ?_
    refine yb_iinc (x := l3) (n := 1) rfl rfl rfl rfl ?_
    refine yb_goto rfl rfl ?_
    exact h
theorem yk_225_159_158_0 {D L : Nat} {P : xh_D → xd_E → Prop} {d : xh_D} {e : xd_E} {a2 : Int}   (h : yB D xm_c225 (yQv L P) L 2 [.ref 159, .ref 158, .int (xJ a2), .int (xJ (0 : Int))] [] d e) : yB D xm_c225 (yQv L P) L 0 [.ref 159, .ref 158, .int (xJ a2), .double 0] [] d e := by
  refine yb_push (v := 0) rfl ?_
  refine yb_istore rfl rfl rfl ?_
  exact h
theorem yk_225_159_158_2 {D L : Nat} {P : xh_D → xd_E → Prop} {d : xh_D} {e : xd_E}  {l2 : Int} {l3 : Int}  (h : ((-2147483648 ≤ l3 ∧ l3 < 2147483648) ∧ ((((353 : Int) ≤ l3) → P d e) ∧ ((¬ (353 : Int) ≤ l3) → ((0 ≤ l3 ∧ l3 < 353) ∧ ((0 ≤ (l2 + l3) ∧ (l2 + l3) < 4236) ∧ yB D xm_c225 (yQv L P) L 2 [.ref 159, .ref 158, .int (xJ l2), .int (xJ (l3 + 1))] [] (xs d 158 (l2 + l3) (d 159 l3)) e)))))) : yB D xm_c225 (yQv L P) L 2 [.ref 159, .ref 158, .int (xJ l2), .int (xJ l3)] [] d e := by
  refine yb_iload (x := l3) rfl rfl ?_
  refine yb_push (v := 353) rfl ?_
  have r1 := h.1
  replace h := h.2
  refine yb_icmp_ge (x := l3) (y := (353 : Int)) rfl rfl r1 (by decide) (fun c => ?_) (fun c => ?_)
  · replace h := h.1 c
    exact yb_retv rfl h
  · replace h := h.2 c
    refine yb_aload rfl rfl ?_
    refine yb_iload (x := l2) rfl rfl ?_
    refine yb_iload (x := l3) rfl rfl ?_
    refine yb_iadd (x := l2) (y := l3) rfl ?_
    refine yb_aload rfl rfl ?_
    refine yb_iload (x := l3) rfl rfl ?_
    have r2 := h.1
    replace h := h.2
    refine yb_iald (j := l3) rfl xd_A159 (by decide) r2 (v := (d 159 l3)) rfl ?_
    have r3 := h.1
    replace h := h.2
    refine yb_iast (j := (l2 + l3)) (x := (d 159 l3)) rfl xd_A158 (by decide) r3 ?_
    refine yb_iinc (x := l3) (n := 1) rfl rfl rfl rfl ?_
    refine yb_goto rfl rfl ?_
    exact h
theorem yk_226_147_0 {D L : Nat} {P : xh_D → xd_E → Prop} {d : xh_D} {e : xd_E}    (h : ((-2147483648 ≤ (d 146 (31 : Int)) ∧ (d 146 (31 : Int)) < 2147483648) ∧ (((¬ (d 146 (31 : Int)) = (12 : Int)) → yB D xm_c226 (yQv L P) L 27 [.ref 146, .ref 147, .double 0] [] d e) ∧ (((d 146 (31 : Int)) = (12 : Int)) → yB D xm_c226 (yQv L P) L 6 [.ref 146, .ref 147, .int (xJ (0 : Int))] [] d e)))) : yB D xm_c226 (yQv L P) L 0 [.ref 146, .ref 147, .double 0] [] d e := by
  refine yb_aload rfl rfl ?_
  refine yb_get (v := .int (xJ (d 146 (31 : Int)))) rfl (by decide) (by decide) (rfl) rfl ?_
  refine yb_push (v := 12) rfl ?_
  have r1 := h.1
  replace h := h.2
  refine yb_icmp_ne (x := (d 146 (31 : Int))) (y := (12 : Int)) rfl rfl r1 (by decide) (fun c => ?_) (fun c => ?_)
  · replace h := h.1 c
    exact h
  · replace h := h.2 c
    refine yb_push (v := 0) rfl ?_
    refine yb_istore rfl rfl rfl ?_
    exact h
theorem yk_226_147_6 {D L : Nat} {P : xh_D → xd_E → Prop} {d : xh_D} {e : xd_E}  {l2 : Int}  (h : ((-2147483648 ≤ l2 ∧ l2 < 2147483648) ∧ ((((3883 : Int) ≤ l2) → yB D xm_c226 (yQv L P) L 27 [.ref 146, .ref 147, .double 0] [] (xs d 146 (31 : Int) ((d 146 (31 : Int)) - (1 : Int))) e) ∧ ((¬ (3883 : Int) ≤ l2) → ((0 ≤ (l2 + (353 : Int)) ∧ (l2 + (353 : Int)) < 4236) ∧ ((0 ≤ l2 ∧ l2 < 4236) ∧ yB D xm_c226 (yQv L P) L 6 [.ref 146, .ref 147, .int (xJ (l2 + 1))] [] (xs d 158 l2 (d 158 (l2 + (353 : Int)))) e)))))) : yB D xm_c226 (yQv L P) L 6 [.ref 146, .ref 147, .int (xJ l2)] [] d e := by
  refine yb_iload (x := l2) rfl rfl ?_
  refine yb_push (v := 3883) rfl ?_
  have r1 := h.1
  replace h := h.2
  refine yb_icmp_ge (x := l2) (y := (3883 : Int)) rfl rfl r1 (by decide) (fun c => ?_) (fun c => ?_)
  · replace h := h.1 c
    refine yb_aload rfl rfl ?_
    refine yb_dup rfl rfl ?_
    refine yb_get (v := .int (xJ (d 146 (31 : Int)))) rfl (by decide) (by decide) (rfl) rfl ?_
    refine yb_push (v := 1) rfl ?_
    refine yb_isub (x := (d 146 (31 : Int))) (y := (1 : Int)) rfl ?_
    refine yb_put (z := ((d 146 (31 : Int)) - (1 : Int))) (k := 31) rfl rfl (by decide) (by decide) (rfl) (Nat.le_of_ble_eq_true rfl) rfl (rfl) ?_
    refine yb_forget (dl := [.ref 146, .ref 147, .double 0]) ⟨Or.inl rfl, ⟨Or.inl rfl, ⟨Or.inr ⟨rfl, rfl⟩, trivial⟩⟩⟩ ?_
    exact h
  · replace h := h.2 c
    refine yb_aload rfl rfl ?_
    refine yb_get (v := .ref 158) rfl (by decide) (by decide) (rfl) rfl ?_
    refine yb_iload (x := l2) rfl rfl ?_
    refine yb_aload rfl rfl ?_
    refine yb_get (v := .ref 158) rfl (by decide) (by decide) (rfl) rfl ?_
    refine yb_iload (x := l2) rfl rfl ?_
    refine yb_push (v := 353) rfl ?_
    refine yb_iadd (x := l2) (y := (353 : Int)) rfl ?_
    have r2 := h.1
    replace h := h.2
    refine yb_iald (j := (l2 + (353 : Int))) rfl xd_A158 (by decide) r2 (v := (d 158 (l2 + (353 : Int)))) rfl ?_
    have r3 := h.1
    replace h := h.2
    refine yb_iast (j := l2) (x := (d 158 (l2 + (353 : Int)))) rfl xd_A158 (by decide) r3 ?_
    refine yb_iinc (x := l2) (n := 1) rfl rfl rfl rfl ?_
    refine yb_goto rfl rfl ?_
    exact h
theorem yk_226_147_27 {D L : Nat} {P : xh_D → xd_E → Prop} {d : xh_D} {e : xd_E}    (h : yV D 225 L [.ref 147, .ref 158, .int (xJ ((353 : Int) * (d 146 (31 : Int))))] d e (fun d1 e2 => P (xs d1 146 (31 : Int) ((d1 146 (31 : Int)) + (1 : Int))) e2)) : yB D xm_c226 (yQv L P) L 27 [.ref 146, .ref 147, .double 0] [] d e := by
  refine yb_aload rfl rfl ?_
  refine yb_aload rfl rfl ?_
  refine yb_get (v := .ref 158) rfl (by decide) (by decide) (rfl) rfl ?_
  refine yb_push (v := 353) rfl ?_
  refine yb_aload rfl rfl ?_
  refine yb_get (v := .int (xJ (d 146 (31 : Int)))) rfl (by decide) (by decide) (rfl) rfl ?_
  refine yb_imul (x := (353 : Int)) (y := (d 146 (31 : Int))) rfl ?_
  refine yb_callSv (As := [.ref 147, .ref 158, .int (xJ ((353 : Int) * (d 146 (31 : Int))))]) rfl rfl rfl rfl rfl rfl rfl rfl (by decide) (yV_mono h (fun d1 e2 h => ?_))
  refine yb_aload rfl rfl ?_
  refine yb_dup rfl rfl ?_
  refine yb_get (v := .int (xJ (d1 146 (31 : Int)))) rfl (by decide) (by decide) (rfl) rfl ?_
  refine yb_push (v := 1) rfl ?_
  refine yb_iadd (x := (d1 146 (31 : Int))) (y := (1 : Int)) rfl ?_
  refine yb_put (z := ((d1 146 (31 : Int)) + (1 : Int))) (k := 31) rfl rfl (by decide) (by decide) (rfl) (Nat.le_of_ble_eq_true rfl) rfl (rfl) ?_
  exact yb_retv rfl h
theorem yk_226_159_0 {D L : Nat} {P : xh_D → xd_E → Prop} {d : xh_D} {e : xd_E}    (h : ((-2147483648 ≤ (d 146 (31 : Int)) ∧ (d 146 (31 : Int)) < 2147483648) ∧ (((¬ (d 146 (31 : Int)) = (12 : Int)) → yB D xm_c226 (yQv L P) L 27 [.ref 146, .ref 159, .double 0] [] d e) ∧ (((d 146 (31 : Int)) = (12 : Int)) → yB D xm_c226 (yQv L P) L 6 [.ref 146, .ref 159, .int (xJ (0 : Int))] [] d e)))) : yB D xm_c226 (yQv L P) L 0 [.ref 146, .ref 159, .double 0] [] d e := by
  refine yb_aload rfl rfl ?_
  refine yb_get (v := .int (xJ (d 146 (31 : Int)))) rfl (by decide) (by decide) (rfl) rfl ?_
  refine yb_push (v := 12) rfl ?_
  have r1 := h.1
  replace h := h.2
  refine yb_icmp_ne (x := (d 146 (31 : Int))) (y := (12 : Int)) rfl rfl r1 (by decide) (fun c => ?_) (fun c => ?_)
  · replace h := h.1 c
    exact h
  · replace h := h.2 c
    refine yb_push (v := 0) rfl ?_
    refine yb_istore rfl rfl rfl ?_
    exact h
theorem yk_226_159_6 {D L : Nat} {P : xh_D → xd_E → Prop} {d : xh_D} {e : xd_E}  {l2 : Int}  (h : ((-2147483648 ≤ l2 ∧ l2 < 2147483648) ∧ ((((3883 : Int) ≤ l2) → yB D xm_c226 (yQv L P) L 27 [.ref 146, .ref 159, .double 0] [] (xs d 146 (31 : Int) ((d 146 (31 : Int)) - (1 : Int))) e) ∧ ((¬ (3883 : Int) ≤ l2) → ((0 ≤ (l2 + (353 : Int)) ∧ (l2 + (353 : Int)) < 4236) ∧ ((0 ≤ l2 ∧ l2 < 4236) ∧ yB D xm_c226 (yQv L P) L 6 [.ref 146, .ref 159, .int (xJ (l2 + 1))] [] (xs d 158 l2 (d 158 (l2 + (353 : Int)))) e)))))) : yB D xm_c226 (yQv L P) L 6 [.ref 146, .ref 159, .int (xJ l2)] [] d e := by
  refine yb_iload (x := l2) rfl rfl ?_
  refine yb_push (v := 3883) rfl ?_
  have r1 := h.1
  replace h := h.2
  refine yb_icmp_ge (x := l2) (y := (3883 : Int)) rfl rfl r1 (by decide) (fun c => ?_) (fun c => ?_)
  · replace h := h.1 c
    refine yb_aload rfl rfl ?_
    refine yb_dup rfl rfl ?_
    refine yb_get (v := .int (xJ (d 146 (31 : Int)))) rfl (by decide) (by decide) (rfl) rfl ?_
    refine yb_push (v := 1) rfl ?_
    refine yb_isub (x := (d 146 (31 : Int))) (y := (1 : Int)) rfl ?_
    refine yb_put (z := ((d 146 (31 : Int)) - (1 : Int))) (k := 31) rfl rfl (by decide) (by decide) (rfl) (Nat.le_of_ble_eq_true rfl) rfl (rfl) ?_
    refine yb_forget (dl := [.ref 146, .ref 159, .double 0]) ⟨Or.inl rfl, ⟨Or.inl rfl, ⟨Or.inr ⟨rfl, rfl⟩, trivial⟩⟩⟩ ?_
    exact h
  · replace h := h.2 c
    refine yb_aload rfl rfl ?_
    refine yb_get (v := .ref 158) rfl (by decide) (by decide) (rfl) rfl ?_
    refine yb_iload (x := l2) rfl rfl ?_
    refine yb_aload rfl rfl ?_
    refine yb_get (v := .ref 158) rfl (by decide) (by decide) (rfl) rfl ?_
    refine yb_iload (x := l2) rfl rfl ?_
    refine yb_push (v := 353) rfl ?_
    refine yb_iadd (x := l2) (y := (353 : Int)) rfl ?_
    have r2 := h.1
    replace h := h.2
    refine yb_iald (j := (l2 + (353 : Int))) rfl xd_A158 (by decide) r2 (v := (d 158 (l2 + (353 : Int)))) rfl ?_
    have r3 := h.1
    replace h := h.2
    refine yb_iast (j := l2) (x := (d 158 (l2 + (353 : Int)))) rfl xd_A158 (by decide) r3 ?_
    refine yb_iinc (x := l2) (n := 1) rfl rfl rfl rfl ?_
    refine yb_goto rfl rfl ?_
    exact h
theorem yk_226_159_27 {D L : Nat} {P : xh_D → xd_E → Prop} {d : xh_D} {e : xd_E}    (h : yV D 225 L [.ref 159, .ref 158, .int (xJ ((353 : Int) * (d 146 (31 : Int))))] d e (fun d1 e2 => P (xs d1 146 (31 : Int) ((d1 146 (31 : Int)) + (1 : Int))) e2)) : yB D xm_c226 (yQv L P) L 27 [.ref 146, .ref 159, .double 0] [] d e := by
  refine yb_aload rfl rfl ?_
  refine yb_aload rfl rfl ?_
  refine yb_get (v := .ref 158) rfl (by decide) (by decide) (rfl) rfl ?_
  refine yb_push (v := 353) rfl ?_
  refine yb_aload rfl rfl ?_
  refine yb_get (v := .int (xJ (d 146 (31 : Int)))) rfl (by decide) (by decide) (rfl) rfl ?_
  refine yb_imul (x := (353 : Int)) (y := (d 146 (31 : Int))) rfl ?_
  refine yb_callSv (As := [.ref 159, .ref 158, .int (xJ ((353 : Int) * (d 146 (31 : Int))))]) rfl rfl rfl rfl rfl rfl rfl rfl (by decide) (yV_mono h (fun d1 e2 h => ?_))
  refine yb_aload rfl rfl ?_
  refine yb_dup rfl rfl ?_
  refine yb_get (v := .int (xJ (d1 146 (31 : Int)))) rfl (by decide) (by decide) (rfl) rfl ?_
  refine yb_push (v := 1) rfl ?_
  refine yb_iadd (x := (d1 146 (31 : Int))) (y := (1 : Int)) rfl ?_
  refine yb_put (z := ((d1 146 (31 : Int)) + (1 : Int))) (k := 31) rfl rfl (by decide) (by decide) (rfl) (Nat.le_of_ble_eq_true rfl) rfl (rfl) ?_
  exact yb_retv rfl h
theorem yk_227_0 {D L : Nat} {P : Int → xh_D → xd_E → Prop} {d : xh_D} {e : xd_E}    (hD : 1 ≤ D) (h : yV D 226 L [.ref 146, .ref 147] (xs d 146 (8 : Int) (0 : Int)) e (fun d1 e2 => yV D 223 L [.ref 146, .ref 147] d1 e2 (fun d3 e4 => P (d3 146 (28 : Int)) (xs (xs (xs (xs (xs d3 146 (7 : Int) (0 : Int)) 151 (0 : Int) (d3 146 (27 : Int))) 146 (7 : Int) ((0 : Int) + 1)) 151 ((0 : Int) + 1) (d3 146 (29 : Int))) 146 (7 : Int) (((0 : Int) + 1) + 1)) e4))) : yB D xm_c227 (yQi L P) L 0 [.ref 146] [] d e := by
  refine yb_aload rfl rfl ?_
  refine yb_push (v := 0) rfl ?_
  refine yb_put (z := (0 : Int)) (k := 8) rfl rfl (by decide) (by decide) (rfl) (Nat.le_of_ble_eq_true rfl) rfl (rfl) ?_
  refine yb_aload rfl rfl ?_
  refine yb_aload rfl rfl ?_
  refine yb_get (v := .ref 147) rfl (by decide) (by decide) (rfl) rfl ?_
  refine yb_callVv (As := [.ref 147]) (a := 146) rfl rfl rfl rfl rfl rfl rfl rfl (by decide) (by decide) (rfl) (by decide) (yV_mono h (fun d1 e2 h => ?_))
  refine yb_aload rfl rfl ?_
  refine yb_aload rfl rfl ?_
  refine yb_get (v := .ref 147) rfl (by decide) (by decide) (rfl) rfl ?_
  refine yb_callVv (As := [.ref 147]) (a := 146) rfl rfl rfl rfl rfl rfl rfl rfl (by decide) (by decide) (rfl) (by decide) (yV_mono h (fun d3 e4 h => ?_))
  refine yb_aload rfl rfl ?_
  refine yb_push (v := 0) rfl ?_
  refine yb_put (z := (0 : Int)) (k := 7) rfl rfl (by decide) (by decide) (rfl) (Nat.le_of_ble_eq_true rfl) rfl (rfl) ?_
  refine yb_aload rfl rfl ?_
  refine yb_aload rfl rfl ?_
  refine yb_get (v := .int (xJ (d3 146 (27 : Int)))) rfl (by decide) (by decide) (rfl) rfl ?_
  refine yb_callVv (As := [.int (xJ (d3 146 (27 : Int)))]) (a := 146) rfl rfl rfl rfl rfl rfl rfl rfl (by decide) (by decide) (rfl) (by decide) (sp_183 (by omega) (by show (0 ≤ (0 : Int) ∧ (0 : Int) < 20); decide) ?_)
  show yB D xm_c227 _ L 18 [.ref 146] [] (xs (xs (xs d3 146 (7 : Int) (0 : Int)) 151 (0 : Int) (d3 146 (27 : Int))) 146 (7 : Int) ((0 : Int) + 1)) e4
  refine yb_aload rfl rfl ?_
  refine yb_aload rfl rfl ?_
  refine yb_get (v := .int (xJ (d3 146 (29 : Int)))) rfl (by decide) (by decide) (rfl) rfl ?_
  refine yb_callVv (As := [.int (xJ (d3 146 (29 : Int)))]) (a := 146) rfl rfl rfl rfl rfl rfl rfl rfl (by decide) (by decide) (rfl) (by decide) (sp_183 (by omega) (by show (0 ≤ ((0 : Int) + 1) ∧ ((0 : Int) + 1) < 20); decide) ?_)
  show yB D xm_c227 _ L 22 [.ref 146] [] (xs (xs (xs (xs (xs d3 146 (7 : Int) (0 : Int)) 151 (0 : Int) (d3 146 (27 : Int))) 146 (7 : Int) ((0 : Int) + 1)) 151 ((0 : Int) + 1) (d3 146 (29 : Int))) 146 (7 : Int) (((0 : Int) + 1) + 1)) e4
  refine yb_aload rfl rfl ?_
  refine yb_get (v := .int (xJ (d3 146 (28 : Int)))) rfl (by decide) (by decide) (rfl) rfl ?_
  exact yb_ret rfl h
theorem yk_228_0 {D L : Nat} {P : Int → xh_D → xd_E → Prop} {d : xh_D} {e : xd_E} {a1 : Int}   (hD : 1 ≤ D) (h : ((-2147483648 ≤ a1 ∧ a1 < 2147483648) ∧ ((((0 : Int) ≤ a1 ∧ a1 ≤ (40 : Int)) → (((a1 ≤ 0) → yB D xm_c228 (yQi L P) L 24 [.ref 146, .int (xJ a1), .int (xJ (0 : Int)), .int (xJ (0 : Int)), .int (xJ (0 : Int)), .int (xJ (0 : Int))] [] (xs d 146 (8 : Int) (0 : Int)) e) ∧ ((¬ a1 ≤ 0) → yV D 226 L [.ref 146, .ref 147] (xs d 146 (8 : Int) (0 : Int)) e (fun d2 e3 => yB D xm_c228 (yQi L P) L 24 [.ref 146, .int (xJ a1), .int (xJ (0 : Int)), .int (xJ (0 : Int)), .int (xJ (0 : Int)), .int (xJ (0 : Int))] [] d2 e3)))) ∧ (¬ ((0 : Int) ≤ a1 ∧ a1 ≤ (40 : Int)) → P (-1 : Int) (xs d 146 (8 : Int) (0 : Int)) e)))) : yB D xm_c228 (yQi L P) L 0 [.ref 146, .int (xJ a1), .double 0, .double 0, .double 0, .double 0] [] d e := by
  refine yb_aload rfl rfl ?_
  refine yb_push (v := 0) rfl ?_
  refine yb_put (z := (0 : Int)) (k := 8) rfl rfl (by decide) (by decide) (rfl) (Nat.le_of_ble_eq_true rfl) rfl (rfl) ?_
  refine yb_iload (x := a1) rfl rfl ?_
  refine yb_push (v := 0) rfl ?_
  refine yb_push (v := 40) rfl ?_
  have r1 := h.1
  replace h := h.2
  refine yb_callSz (As := [.int (xJ a1), .int (xJ (0 : Int)), .int (xJ (40 : Int))]) rfl rfl rfl rfl rfl rfl rfl rfl (by decide) (sp_180 (by omega) ⟨r1, (by show (-2147483648 ≤ (0 : Int) ∧ (0 : Int) < 2147483648); decide), (by show (-2147483648 ≤ (40 : Int) ∧ (40 : Int) < 2147483648); decide)⟩ (fun c => ?_) (fun c => ?_))
  · replace h := h.1 c
    show yB D xm_c228 _ L 7 [.ref 146, .int (xJ a1), .double 0, .double 0, .double 0, .double 0] [.int (xJ (1 : Int))] (xs d 146 (8 : Int) (0 : Int)) e
    refine yb_if_ne (x := (1 : Int)) rfl rfl (by decide) (fun _ => ?_) (fun c => absurd c (by decide))
    refine yb_iload (x := a1) rfl rfl ?_
    refine yb_if_le (x := a1) rfl rfl r1 (fun c => ?_) (fun c => ?_)
    · replace h := h.1 c
      refine yb_push (v := 0) rfl ?_
      refine yb_istore rfl rfl rfl ?_
      refine yb_push (v := 0) rfl ?_
      refine yb_istore rfl rfl rfl ?_
      refine yb_push (v := 0) rfl ?_
      refine yb_istore rfl rfl rfl ?_
      refine yb_push (v := 0) rfl ?_
      refine yb_istore rfl rfl rfl ?_
      exact h
    · replace h := h.2 c
      refine yb_aload rfl rfl ?_
      refine yb_aload rfl rfl ?_
      refine yb_get (v := .ref 147) rfl (by decide) (by decide) (rfl) rfl ?_
      refine yb_callVv (As := [.ref 147]) (a := 146) rfl rfl rfl rfl rfl rfl rfl rfl (by decide) (by decide) (rfl) (by decide) (yV_mono h (fun d2 e3 h => ?_))
      refine yb_push (v := 0) rfl ?_
      refine yb_istore rfl rfl rfl ?_
      refine yb_push (v := 0) rfl ?_
      refine yb_istore rfl rfl rfl ?_
      refine yb_push (v := 0) rfl ?_
      refine yb_istore rfl rfl rfl ?_
      refine yb_push (v := 0) rfl ?_
      refine yb_istore rfl rfl rfl ?_
      exact h
  · replace h := h.2 c
    show yB D xm_c228 _ L 7 [.ref 146, .int (xJ a1), .double 0, .double 0, .double 0, .double 0] [.int (xJ (0 : Int))] (xs d 146 (8 : Int) (0 : Int)) e
    refine yb_if_ne (x := (0 : Int)) rfl rfl (by decide) (fun c => absurd (by decide) c) (fun _ => ?_)
    refine yb_push (v := (-1)) rfl ?_
    exact yb_ret rfl h
theorem yk_228_24 {D L : Nat} {P : Int → xh_D → xd_E → Prop} {d : xh_D} {e : xd_E}  {l1 : Int} {l2 : Int} {l3 : Int} {l4 : Int} {l5 : Int}  (hD : 1 ≤ D) (h : ((-2147483648 ≤ l5 ∧ l5 < 2147483648) ∧ ((-2147483648 ≤ l1 ∧ l1 < 2147483648) ∧ (((l1 ≤ l5) → P l2 (xs (xs (xs (xs (xs d 146 (7 : Int) (0 : Int)) 151 (0 : Int) l3) 146 (7 : Int) ((0 : Int) + 1)) 151 ((0 : Int) + 1) l4) 146 (7 : Int) (((0 : Int) + 1) + 1)) e) ∧ ((¬ l1 ≤ l5) → yV D 223 L [.ref 146, .ref 147] d e (fun d3 e4 => yB D xm_c228 (yQi L P) L 24 [.ref 146, .int (xJ l1), .int (xJ (l2 + (d3 146 (28 : Int)))), .int (xJ (l3 + (d3 146 (27 : Int)))), .int (xJ (l4 + (d3 146 (29 : Int)))), .int (xJ (l5 + 1))] [] d3 e4)))))) : yB D xm_c228 (yQi L P) L 24 [.ref 146, .int (xJ l1), .int (xJ l2), .int (xJ l3), .int (xJ l4), .int (xJ l5)] [] d e := by
  refine yb_iload (x := l5) rfl rfl ?_
  refine yb_iload (x := l1) rfl rfl ?_
  have r1 := h.1
  replace h := h.2
  have r2 := h.1
  replace h := h.2
  refine yb_icmp_ge (x := l5) (y := l1) rfl rfl r1 r2 (fun c => ?_) (fun c => ?_)
  · replace h := h.1 c
    refine yb_aload rfl rfl ?_
    refine yb_push (v := 0) rfl ?_
    refine yb_put (z := (0 : Int)) (k := 7) rfl rfl (by decide) (by decide) (rfl) (Nat.le_of_ble_eq_true rfl) rfl (rfl) ?_
    refine yb_aload rfl rfl ?_
    refine yb_iload (x := l3) rfl rfl ?_
    refine yb_callVv (As := [.int (xJ l3)]) (a := 146) rfl rfl rfl rfl rfl rfl rfl rfl (by decide) (by decide) (rfl) (by decide) (sp_183 (by omega) (by show (0 ≤ (0 : Int) ∧ (0 : Int) < 20); decide) ?_)
    show yB D xm_c228 _ L 54 [.ref 146, .int (xJ l1), .int (xJ l2), .int (xJ l3), .int (xJ l4), .int (xJ l5)] [] (xs (xs (xs d 146 (7 : Int) (0 : Int)) 151 (0 : Int) l3) 146 (7 : Int) ((0 : Int) + 1)) e
    refine yb_aload rfl rfl ?_
    refine yb_iload (x := l4) rfl rfl ?_
    refine yb_callVv (As := [.int (xJ l4)]) (a := 146) rfl rfl rfl rfl rfl rfl rfl rfl (by decide) (by decide) (rfl) (by decide) (sp_183 (by omega) (by show (0 ≤ ((0 : Int) + 1) ∧ ((0 : Int) + 1) < 20); decide) ?_)
    show yB D xm_c228 _ L 57 [.ref 146, .int (xJ l1), .int (xJ l2), .int (xJ l3), .int (xJ l4), .int (xJ l5)] [] (xs (xs (xs (xs (xs d 146 (7 : Int) (0 : Int)) 151 (0 : Int) l3) 146 (7 : Int) ((0 : Int) + 1)) 151 ((0 : Int) + 1) l4) 146 (7 : Int) (((0 : Int) + 1) + 1)) e
    refine yb_iload (x := l2) rfl rfl ?_
    exact yb_ret rfl h
  · replace h := h.2 c
    refine yb_aload rfl rfl ?_
    refine yb_aload rfl rfl ?_
    refine yb_get (v := .ref 147) rfl (by decide) (by decide) (rfl) rfl ?_
    refine yb_callVv (As := [.ref 147]) (a := 146) rfl rfl rfl rfl rfl rfl rfl rfl (by decide) (by decide) (rfl) (by decide) (yV_mono h (fun d3 e4 h => ?_))
    refine yb_iload (x := l2) rfl rfl ?_
    refine yb_aload rfl rfl ?_
    refine yb_get (v := .int (xJ (d3 146 (28 : Int)))) rfl (by decide) (by decide) (rfl) rfl ?_
    refine yb_iadd (x := l2) (y := (d3 146 (28 : Int))) rfl ?_
    refine yb_istore rfl rfl rfl ?_
    refine yb_iload (x := l3) rfl rfl ?_
    refine yb_aload rfl rfl ?_
    refine yb_get (v := .int (xJ (d3 146 (27 : Int)))) rfl (by decide) (by decide) (rfl) rfl ?_
    refine yb_iadd (x := l3) (y := (d3 146 (27 : Int))) rfl ?_
    refine yb_istore rfl rfl rfl ?_
    refine yb_iload (x := l4) rfl rfl ?_
    refine yb_aload rfl rfl ?_
    refine yb_get (v := .int (xJ (d3 146 (29 : Int)))) rfl (by decide) (by decide) (rfl) rfl ?_
    refine yb_iadd (x := l4) (y := (d3 146 (29 : Int))) rfl ?_
    refine yb_istore rfl rfl rfl ?_
    refine yb_iinc (x := l5) (n := 1) rfl rfl rfl rfl ?_
    refine yb_goto rfl rfl ?_
    exact h
theorem yk_229_0 {D L : Nat} {P : Int → xh_D → xd_E → Prop} {d : xh_D} {e : xd_E}    (hD : 1 ≤ D) (h : ((-2147483648 ≤ (d 146 (5 : Int)) ∧ (d 146 (5 : Int)) < 2147483648) ∧ ((((d 146 (5 : Int)) ≤ 0) → yB D xm_c229 (yQi L P) L 22 [.ref 146, .int (xJ (0 : Int)), .int (xJ (0 : Int)), .double 0] [] (xs (xs (xs (xs (xs (xs (xs d 146 (8 : Int) (0 : Int)) 146 (9 : Int) (150 : Int)) 146 (10 : Int) (d 146 (5 : Int))) 146 (11 : Int) (60 : Int)) 146 (12 : Int) (0 : Int)) 146 (13 : Int) (-1 : Int)) 146 (5 : Int) (0 : Int)) e) ∧ ((¬ (d 146 (5 : Int)) ≤ 0) → yB D xm_c229 (yQi L P) L 22 [.ref 146, .int (xJ (0 : Int)), .int (xJ (1 : Int)), .double 0] [] (xs (xs (xs (xs (xs (xs (xs d 146 (8 : Int) (0 : Int)) 146 (9 : Int) (150 : Int)) 146 (10 : Int) (d 146 (5 : Int))) 146 (11 : Int) (60 : Int)) 146 (12 : Int) (0 : Int)) 146 (13 : Int) (-1 : Int)) 146 (5 : Int) (0 : Int)) e)))) : yB D xm_c229 (yQi L P) L 0 [.ref 146, .double 0, .double 0, .double 0] [] d e := by
  refine yb_aload rfl rfl ?_
  refine yb_push (v := 0) rfl ?_
  refine yb_put (z := (0 : Int)) (k := 8) rfl rfl (by decide) (by decide) (rfl) (Nat.le_of_ble_eq_true rfl) rfl (rfl) ?_
  refine yb_aload rfl rfl ?_
  refine yb_aload rfl rfl ?_
  refine yb_get (v := .ref 150) rfl (by decide) (by decide) (rfl) rfl ?_
  refine yb_aload rfl rfl ?_
  refine yb_get (v := .int (xJ (d 146 (5 : Int)))) rfl (by decide) (by decide) (rfl) rfl ?_
  refine yb_push (v := 60) rfl ?_
  refine yb_callVv (As := [.ref 150, .int (xJ (d 146 (5 : Int))), .int (xJ (60 : Int))]) (a := 146) rfl rfl rfl rfl rfl rfl rfl rfl (by decide) (by decide) (rfl) (by decide) (sp_189_150 (by omega) ?_)
  show yB D xm_c229 _ L 10 [.ref 146, .double 0, .double 0, .double 0] [] (xs (xs (xs (xs (xs (xs d 146 (8 : Int) (0 : Int)) 146 (9 : Int) (150 : Int)) 146 (10 : Int) (d 146 (5 : Int))) 146 (11 : Int) (60 : Int)) 146 (12 : Int) (0 : Int)) 146 (13 : Int) (-1 : Int)) e
  refine yb_aload rfl rfl ?_
  refine yb_push (v := 0) rfl ?_
  refine yb_put (z := (0 : Int)) (k := 5) rfl rfl (by decide) (by decide) (rfl) (Nat.le_of_ble_eq_true rfl) rfl (rfl) ?_
  refine yb_push (v := 0) rfl ?_
  refine yb_istore rfl rfl rfl ?_
  refine yb_aload rfl rfl ?_
  refine yb_get (v := .int (xJ (d 146 (5 : Int)))) rfl (by decide) (by decide) (rfl) rfl ?_
  have r1 := h.1
  replace h := h.2
  refine yb_if_le (x := (d 146 (5 : Int))) rfl rfl r1 (fun c => ?_) (fun c => ?_)
  · replace h := h.1 c
    refine yb_push (v := 0) rfl ?_
    refine yb_istore rfl rfl rfl ?_
    exact h
  · replace h := h.2 c
    refine yb_push (v := 1) rfl ?_
    refine yb_goto rfl rfl ?_
    refine yb_istore rfl rfl rfl ?_
    exact h
theorem yk_229_22 {D L : Nat} {P : Int → xh_D → xd_E → Prop} {d : xh_D} {e : xd_E}  {l1 : Int} {l2 : Int}  (hD : 1 ≤ D) (h : ((-2147483648 ≤ l2 ∧ l2 < 2147483648) ∧ (((l2 = 0) → yB D xm_c229 (yQi L P) L 38 [.ref 146, .int (xJ l1), .double 0, .double 0] [] d e) ∧ ((¬ l2 = 0) → ((-2147483648 ≤ (d 146 (13 : Int)) ∧ (d 146 (13 : Int)) < 2147483648) ∧ ((((d 146 (13 : Int)) = -1) → yV D 230 L [.ref 146, .int (xJ ((3 : Int) * l1))] d e (fun d3 e4 => yZ D 193 L [.ref 146, .int (xJ (59 : Int))] d3 e4 (fun d5 e6 => yB D xm_c229 (yQi L P) L 22 [.ref 146, .int (xJ (l1 + 1)), .int (xJ (1 : Int)), .double 0] [] d5 e6) (fun d5 e6 => yB D xm_c229 (yQi L P) L 22 [.ref 146, .int (xJ (l1 + 1)), .int (xJ (0 : Int)), .double 0] [] d5 e6))) ∧ (¬ ((d 146 (13 : Int)) = -1) → yB D xm_c229 (yQi L P) L 38 [.ref 146, .int (xJ l1), .double 0, .double 0] [] d e))))))) : yB D xm_c229 (yQi L P) L 22 [.ref 146, .int (xJ l1), .int (xJ l2), .double 0] [] d e := by
  refine yb_iload (x := l2) rfl rfl ?_
  have r1 := h.1
  replace h := h.2
  refine yb_if_eq (x := l2) rfl rfl r1 (fun c => ?_) (fun c => ?_)
  · replace h := h.1 c
    refine yb_forget (dl := [.ref 146, .int (xJ l1), .double 0, .double 0]) ⟨Or.inl rfl, ⟨Or.inl rfl, ⟨Or.inr ⟨rfl, rfl⟩, ⟨Or.inl rfl, trivial⟩⟩⟩⟩ ?_
    exact h
  · replace h := h.2 c
    refine yb_aload rfl rfl ?_
    have r2 := h.1
    replace h := h.2
    refine yb_callVz (As := []) (a := 146) rfl rfl rfl rfl rfl rfl rfl rfl (by decide) (by decide) (rfl) (by decide) (sp_191 (by omega) r2 (fun c => ?_) (fun c => ?_))
    · replace h := h.1 c
      show yB D xm_c229 _ L 26 [.ref 146, .int (xJ l1), .int (xJ l2), .double 0] [.int (xJ (1 : Int))] d e
      refine yb_if_eq (x := (1 : Int)) rfl rfl (by decide) (fun c => absurd c (by decide)) (fun _ => ?_)
      refine yb_aload rfl rfl ?_
      refine yb_push (v := 3) rfl ?_
      refine yb_iload (x := l1) rfl rfl ?_
      refine yb_imul (x := (3 : Int)) (y := l1) rfl ?_
      refine yb_callVv (As := [.int (xJ ((3 : Int) * l1))]) (a := 146) rfl rfl rfl rfl rfl rfl rfl rfl (by decide) (by decide) (rfl) (by decide) (yV_mono h (fun d3 e4 h => ?_))
      refine yb_iinc (x := l1) (n := 1) rfl rfl rfl rfl ?_
      refine yb_aload rfl rfl ?_
      refine yb_push (v := 59) rfl ?_
      refine yb_callVz (As := [.int (xJ (59 : Int))]) (a := 146) rfl rfl rfl rfl rfl rfl rfl rfl (by decide) (by decide) (rfl) (by decide) (yZ_mono h (fun d5 e6 h => ?_) (fun d5 e6 h => ?_))
      · refine yb_istore rfl rfl rfl ?_
        refine yb_goto rfl rfl ?_
        exact h
      · refine yb_istore rfl rfl rfl ?_
        refine yb_goto rfl rfl ?_
        exact h
    · replace h := h.2 c
      show yB D xm_c229 _ L 26 [.ref 146, .int (xJ l1), .int (xJ l2), .double 0] [.int (xJ (0 : Int))] d e
      refine yb_if_eq (x := (0 : Int)) rfl rfl (by decide) (fun _ => ?_) (fun c => absurd (by decide) c)
      refine yb_forget (dl := [.ref 146, .int (xJ l1), .double 0, .double 0]) ⟨Or.inl rfl, ⟨Or.inl rfl, ⟨Or.inr ⟨rfl, rfl⟩, ⟨Or.inl rfl, trivial⟩⟩⟩⟩ ?_
      exact h
theorem yk_229_38 {D L : Nat} {P : Int → xh_D → xd_E → Prop} {d : xh_D} {e : xd_E}  {l1 : Int}  (hD : 2 ≤ D) (h : ((-2147483648 ≤ (d 146 (12 : Int)) ∧ (d 146 (12 : Int)) < 2147483648) ∧ ((-2147483648 ≤ (d 146 (10 : Int)) ∧ (d 146 (10 : Int)) < 2147483648) ∧ ((((d 146 (10 : Int)) ≤ (d 146 (12 : Int))) → yB D xm_c229 (yQi L P) L 47 [.ref 146, .int (xJ l1), .double 0, .double 0] [] d e) ∧ ((¬ (d 146 (10 : Int)) ≤ (d 146 (12 : Int))) → ((-2147483648 ≤ (d 146 (13 : Int)) ∧ (d 146 (13 : Int)) < 2147483648) ∧ yB D xm_c229 (yQi L P) L 47 [.ref 146, .int (xJ l1), .double 0, .double 0] [] (xs d 146 (13 : Int) (if (d 146 (13 : Int)) = -1 then (d 146 (12 : Int)) else (d 146 (13 : Int)))) e)))))) : yB D xm_c229 (yQi L P) L 38 [.ref 146, .int (xJ l1), .double 0, .double 0] [] d e := by
  refine yb_aload rfl rfl ?_
  refine yb_get (v := .int (xJ (d 146 (12 : Int)))) rfl (by decide) (by decide) (rfl) rfl ?_
  refine yb_aload rfl rfl ?_
  refine yb_get (v := .int (xJ (d 146 (10 : Int)))) rfl (by decide) (by decide) (rfl) rfl ?_
  have r1 := h.1
  replace h := h.2
  have r2 := h.1
  replace h := h.2
  refine yb_icmp_ge (x := (d 146 (12 : Int))) (y := (d 146 (10 : Int))) rfl rfl r1 r2 (fun c => ?_) (fun c => ?_)
  · replace h := h.1 c
    exact h
  · replace h := h.2 c
    refine yb_aload rfl rfl ?_
    refine yb_aload rfl rfl ?_
    refine yb_get (v := .int (xJ (d 146 (12 : Int)))) rfl (by decide) (by decide) (rfl) rfl ?_
    have r3 := h.1
    replace h := h.2
    refine yb_callVv (As := [.int (xJ (d 146 (12 : Int)))]) (a := 146) rfl rfl rfl rfl rfl rfl rfl rfl (by decide) (by decide) (rfl) (by decide) (sp_192 (by omega) r3 ?_)
    show yB D xm_c229 _ L 47 [.ref 146, .int (xJ l1), .double 0, .double 0] [] (xs d 146 (13 : Int) (if (d 146 (13 : Int)) = -1 then (d 146 (12 : Int)) else (d 146 (13 : Int)))) e
    exact h
theorem yk_229_47 {D L : Nat} {P : Int → xh_D → xd_E → Prop} {d : xh_D} {e : xd_E}  {l1 : Int}  (hD : 1 ≤ D) (h : ((-2147483648 ≤ (d 146 (13 : Int)) ∧ (d 146 (13 : Int)) < 2147483648) ∧ ((((d 146 (13 : Int)) = -1) → yV D 225 L [.ref 147, .ref 159, .int (xJ (0 : Int))] d e (fun d2 e3 => yB D xm_c229 (yQi L P) L 66 [.ref 146, .int (xJ l1), .double 0, .int (xJ (0 : Int))] [] (xs d2 146 (34 : Int) (0 : Int)) e3)) ∧ (¬ ((d 146 (13 : Int)) = -1) → P ((-1 : Int) - (d 146 (13 : Int))) d e)))) : yB D xm_c229 (yQi L P) L 47 [.ref 146, .int (xJ l1), .double 0, .double 0] [] d e := by
  refine yb_aload rfl rfl ?_
  have r1 := h.1
  replace h := h.2
  refine yb_callVz (As := []) (a := 146) rfl rfl rfl rfl rfl rfl rfl rfl (by decide) (by decide) (rfl) (by decide) (sp_191 (by omega) r1 (fun c => ?_) (fun c => ?_))
  · replace h := h.1 c
    show yB D xm_c229 _ L 49 [.ref 146, .int (xJ l1), .double 0, .double 0] [.int (xJ (1 : Int))] d e
    refine yb_if_ne (x := (1 : Int)) rfl rfl (by decide) (fun _ => ?_) (fun c => absurd c (by decide))
    refine yb_aload rfl rfl ?_
    refine yb_get (v := .ref 147) rfl (by decide) (by decide) (rfl) rfl ?_
    refine yb_aload rfl rfl ?_
    refine yb_get (v := .ref 159) rfl (by decide) (by decide) (rfl) rfl ?_
    refine yb_push (v := 0) rfl ?_
    refine yb_callSv (As := [.ref 147, .ref 159, .int (xJ (0 : Int))]) rfl rfl rfl rfl rfl rfl rfl rfl (by decide) (yV_mono h (fun d2 e3 h => ?_))
    refine yb_aload rfl rfl ?_
    refine yb_push (v := 0) rfl ?_
    refine yb_put (z := (0 : Int)) (k := 34) rfl rfl (by decide) (by decide) (rfl) (Nat.le_of_ble_eq_true rfl) rfl (rfl) ?_
    refine yb_push (v := 0) rfl ?_
    refine yb_istore rfl rfl rfl ?_
    exact h
  · replace h := h.2 c
    show yB D xm_c229 _ L 49 [.ref 146, .int (xJ l1), .double 0, .double 0] [.int (xJ (0 : Int))] d e
    refine yb_if_ne (x := (0 : Int)) rfl rfl (by decide) (fun c => absurd (by decide) c) (fun _ => ?_)
    refine yb_push (v := (-1)) rfl ?_
    refine yb_aload rfl rfl ?_
    refine yb_get (v := .int (xJ (d 146 (13 : Int)))) rfl (by decide) (by decide) (rfl) rfl ?_
    refine yb_isub (x := (-1 : Int)) (y := (d 146 (13 : Int))) rfl ?_
    exact yb_ret rfl h
theorem yk_229_66 {D L : Nat} {P : Int → xh_D → xd_E → Prop} {d : xh_D} {e : xd_E}  {l1 : Int} {l3 : Int}  (h : ((-2147483648 ≤ l3 ∧ l3 < 2147483648) ∧ ((-2147483648 ≤ l1 ∧ l1 < 2147483648) ∧ (((l1 ≤ l3) → yB D xm_c229 (yQi L P) L 77 [.ref 146, .int (xJ l1), .double 0, .int (xJ l3)] [] d e) ∧ ((¬ l1 ≤ l3) → yZ D 231 L [.ref 146, .int (xJ ((3 : Int) * l3))] d e (fun d3 e4 => yB D xm_c229 (yQi L P) L 66 [.ref 146, .int (xJ l1), .double 0, .int (xJ (l3 + 1))] [] d3 e4) (fun d3 e4 => yB D xm_c229 (yQi L P) L 77 [.ref 146, .int (xJ l1), .double 0, .int (xJ l3)] [] d3 e4)))))) : yB D xm_c229 (yQi L P) L 66 [.ref 146, .int (xJ l1), .double 0, .int (xJ l3)] [] d e := by
  refine yb_iload (x := l3) rfl rfl ?_
  refine yb_iload (x := l1) rfl rfl ?_
  have r1 := h.1
  replace h := h.2
  have r2 := h.1
  replace h := h.2
  refine yb_icmp_ge (x := l3) (y := l1) rfl rfl r1 r2 (fun c => ?_) (fun c => ?_)
  · replace h := h.1 c
    exact h
  · replace h := h.2 c
    refine yb_aload rfl rfl ?_
    refine yb_push (v := 3) rfl ?_
    refine yb_iload (x := l3) rfl rfl ?_
    refine yb_imul (x := (3 : Int)) (y := l3) rfl ?_
    refine yb_callVz (As := [.int (xJ ((3 : Int) * l3))]) (a := 146) rfl rfl rfl rfl rfl rfl rfl rfl (by decide) (by decide) (rfl) (by decide) (yZ_mono h (fun d3 e4 h => ?_) (fun d3 e4 h => ?_))
    · refine yb_if_eq (x := (1 : Int)) rfl rfl (by decide) (fun c => absurd c (by decide)) (fun _ => ?_)
      refine yb_iinc (x := l3) (n := 1) rfl rfl rfl rfl ?_
      refine yb_goto rfl rfl ?_
      exact h
    · refine yb_if_eq (x := (0 : Int)) rfl rfl (by decide) (fun _ => ?_) (fun c => absurd (by decide) c)
      exact h
theorem yk_229_77 {D L : Nat} {P : Int → xh_D → xd_E → Prop} {d : xh_D} {e : xd_E}  {l1 : Int} {l3 : Int}  (h : ((-2147483648 ≤ l3 ∧ l3 < 2147483648) ∧ (((l3 ≤ 0) → yB D xm_c229 (yQi L P) L 83 [.ref 146, .int (xJ l1), .double 0, .int (xJ l3)] [] d e) ∧ ((¬ l3 ≤ 0) → yV D 226 L [.ref 146, .ref 159] d e (fun d2 e3 => yB D xm_c229 (yQi L P) L 83 [.ref 146, .int (xJ l1), .double 0, .int (xJ l3)] [] d2 e3))))) : yB D xm_c229 (yQi L P) L 77 [.ref 146, .int (xJ l1), .double 0, .int (xJ l3)] [] d e := by
  refine yb_iload (x := l3) rfl rfl ?_
  have r1 := h.1
  replace h := h.2
  refine yb_if_le (x := l3) rfl rfl r1 (fun c => ?_) (fun c => ?_)
  · replace h := h.1 c
    exact h
  · replace h := h.2 c
    refine yb_aload rfl rfl ?_
    refine yb_aload rfl rfl ?_
    refine yb_get (v := .ref 159) rfl (by decide) (by decide) (rfl) rfl ?_
    refine yb_callVv (As := [.ref 159]) (a := 146) rfl rfl rfl rfl rfl rfl rfl rfl (by decide) (by decide) (rfl) (by decide) (yV_mono h (fun d2 e3 h => ?_))
    exact h
theorem yk_229_83 {D L : Nat} {P : Int → xh_D → xd_E → Prop} {d : xh_D} {e : xd_E}  {l1 : Int} {l3 : Int}  (hD : 1 ≤ D) (h : ((-2147483648 ≤ l3 ∧ l3 < 2147483648) ∧ ((-2147483648 ≤ l1 ∧ l1 < 2147483648) ∧ (((l1 ≤ l3) → P l3 (xs (xs (xs (xs (xs d 146 (7 : Int) (0 : Int)) 151 (0 : Int) (0 : Int)) 146 (7 : Int) ((0 : Int) + 1)) 151 ((0 : Int) + 1) (d 146 (34 : Int))) 146 (7 : Int) (((0 : Int) + 1) + 1)) e) ∧ ((¬ l1 ≤ l3) → P l3 (xs (xs (xs (xs (xs d 146 (7 : Int) (0 : Int)) 151 (0 : Int) (1 : Int)) 146 (7 : Int) ((0 : Int) + 1)) 151 ((0 : Int) + 1) (d 146 (34 : Int))) 146 (7 : Int) (((0 : Int) + 1) + 1)) e))))) : yB D xm_c229 (yQi L P) L 83 [.ref 146, .int (xJ l1), .double 0, .int (xJ l3)] [] d e := by
  refine yb_aload rfl rfl ?_
  refine yb_push (v := 0) rfl ?_
  refine yb_put (z := (0 : Int)) (k := 7) rfl rfl (by decide) (by decide) (rfl) (Nat.le_of_ble_eq_true rfl) rfl (rfl) ?_
  refine yb_aload rfl rfl ?_
  refine yb_iload (x := l3) rfl rfl ?_
  refine yb_iload (x := l1) rfl rfl ?_
  have r1 := h.1
  replace h := h.2
  have r2 := h.1
  replace h := h.2
  refine yb_icmp_ge (x := l3) (y := l1) rfl rfl r1 r2 (fun c => ?_) (fun c => ?_)
  · replace h := h.1 c
    refine yb_push (v := 0) rfl ?_
    refine yb_callVv (As := [.int (xJ (0 : Int))]) (a := 146) rfl rfl rfl rfl rfl rfl rfl rfl (by decide) (by decide) (rfl) (by decide) (sp_183 (by omega) (by show (0 ≤ (0 : Int) ∧ (0 : Int) < 20); decide) ?_)
    show yB D xm_c229 _ L 94 [.ref 146, .int (xJ l1), .double 0, .int (xJ l3)] [] (xs (xs (xs d 146 (7 : Int) (0 : Int)) 151 (0 : Int) (0 : Int)) 146 (7 : Int) ((0 : Int) + 1)) e
    refine yb_aload rfl rfl ?_
    refine yb_aload rfl rfl ?_
    refine yb_get (v := .int (xJ (d 146 (34 : Int)))) rfl (by decide) (by decide) (rfl) rfl ?_
    refine yb_callVv (As := [.int (xJ (d 146 (34 : Int)))]) (a := 146) rfl rfl rfl rfl rfl rfl rfl rfl (by decide) (by decide) (rfl) (by decide) (sp_183 (by omega) (by show (0 ≤ ((0 : Int) + 1) ∧ ((0 : Int) + 1) < 20); decide) ?_)
    show yB D xm_c229 _ L 98 [.ref 146, .int (xJ l1), .double 0, .int (xJ l3)] [] (xs (xs (xs (xs (xs d 146 (7 : Int) (0 : Int)) 151 (0 : Int) (0 : Int)) 146 (7 : Int) ((0 : Int) + 1)) 151 ((0 : Int) + 1) (d 146 (34 : Int))) 146 (7 : Int) (((0 : Int) + 1) + 1)) e
    refine yb_iload (x := l3) rfl rfl ?_
    exact yb_ret rfl h
  · replace h := h.2 c
    refine yb_push (v := 1) rfl ?_
    refine yb_goto rfl rfl ?_
    refine yb_callVv (As := [.int (xJ (1 : Int))]) (a := 146) rfl rfl rfl rfl rfl rfl rfl rfl (by decide) (by decide) (rfl) (by decide) (sp_183 (by omega) (by show (0 ≤ (0 : Int) ∧ (0 : Int) < 20); decide) ?_)
    show yB D xm_c229 _ L 94 [.ref 146, .int (xJ l1), .double 0, .int (xJ l3)] [] (xs (xs (xs d 146 (7 : Int) (0 : Int)) 151 (0 : Int) (1 : Int)) 146 (7 : Int) ((0 : Int) + 1)) e
    refine yb_aload rfl rfl ?_
    refine yb_aload rfl rfl ?_
    refine yb_get (v := .int (xJ (d 146 (34 : Int)))) rfl (by decide) (by decide) (rfl) rfl ?_
    refine yb_callVv (As := [.int (xJ (d 146 (34 : Int)))]) (a := 146) rfl rfl rfl rfl rfl rfl rfl rfl (by decide) (by decide) (rfl) (by decide) (sp_183 (by omega) (by show (0 ≤ ((0 : Int) + 1) ∧ ((0 : Int) + 1) < 20); decide) ?_)
    show yB D xm_c229 _ L 98 [.ref 146, .int (xJ l1), .double 0, .int (xJ l3)] [] (xs (xs (xs (xs (xs d 146 (7 : Int) (0 : Int)) 151 (0 : Int) (1 : Int)) 146 (7 : Int) ((0 : Int) + 1)) 151 ((0 : Int) + 1) (d 146 (34 : Int))) 146 (7 : Int) (((0 : Int) + 1) + 1)) e
    refine yb_iload (x := l3) rfl rfl ?_
    exact yb_ret rfl h
theorem yk_230_0 {D L : Nat} {P : xh_D → xd_E → Prop} {d : xh_D} {e : xd_E} {a1 : Int}   (hD : 2 ≤ D) (h : (xm_hok d ∧ ((-2147483648 ≤ (xm_here d) ∧ (xm_here d) < 2147483648) ∧ ((((xm_here d) = (100 : Int)) → yB D xm_c230 (yQv L P) L 19 [.ref 146, .int (xJ a1), .int (xJ (xm_here d))] [] d e) ∧ ((¬ (xm_here d) = (100 : Int)) → ((((xm_here d) = (104 : Int)) → yB D xm_c230 (yQv L P) L 19 [.ref 146, .int (xJ a1), .int (xJ (xm_here d))] [] d e) ∧ ((¬ (xm_here d) = (104 : Int)) → ((((xm_here d) = (115 : Int)) → yB D xm_c230 (yQv L P) L 19 [.ref 146, .int (xJ a1), .int (xJ (xm_here d))] [] d e) ∧ ((¬ (xm_here d) = (115 : Int)) → ((((xm_here d) = (109 : Int)) → yB D xm_c230 (yQv L P) L 19 [.ref 146, .int (xJ a1), .int (xJ (xm_here d))] [] d e) ∧ ((¬ (xm_here d) = (109 : Int)) → ((-2147483648 ≤ (d 146 (13 : Int)) ∧ (d 146 (13 : Int)) < 2147483648) ∧ yB D xm_c230 (yQv L P) L 19 [.ref 146, .int (xJ a1), .int (xJ (xm_here d))] [] (xs d 146 (13 : Int) (if (d 146 (13 : Int)) = -1 then (d 146 (12 : Int)) else (d 146 (13 : Int)))) e)))))))))))) : yB D xm_c230 (yQv L P) L 0 [.ref 146, .int (xJ a1), .double 0] [] d e := by
  refine yb_aload rfl rfl ?_
  have r1 := h.1
  replace h := h.2
  refine yb_callVi (As := []) (a := 146) rfl rfl rfl rfl rfl rfl rfl rfl (by decide) (by decide) (rfl) (by decide) (sp_190 (by omega) r1 ?_)
  show yB D xm_c230 _ L 2 [.ref 146, .int (xJ a1), .double 0] [.int (xJ (xm_here d))] d e
  refine yb_istore rfl rfl rfl ?_
  refine yb_iload (x := (xm_here d)) rfl rfl ?_
  refine yb_push (v := 100) rfl ?_
  have r2 := h.1
  replace h := h.2
  refine yb_icmp_eq (x := (xm_here d)) (y := (100 : Int)) rfl rfl r2 (by decide) (fun c => ?_) (fun c => ?_)
  · replace h := h.1 c
    exact h
  · replace h := h.2 c
    refine yb_iload (x := (xm_here d)) rfl rfl ?_
    refine yb_push (v := 104) rfl ?_
    refine yb_icmp_eq (x := (xm_here d)) (y := (104 : Int)) rfl rfl r2 (by decide) (fun c => ?_) (fun c => ?_)
    · replace h := h.1 c
      exact h
    · replace h := h.2 c
      refine yb_iload (x := (xm_here d)) rfl rfl ?_
      refine yb_push (v := 115) rfl ?_
      refine yb_icmp_eq (x := (xm_here d)) (y := (115 : Int)) rfl rfl r2 (by decide) (fun c => ?_) (fun c => ?_)
      · replace h := h.1 c
        exact h
      · replace h := h.2 c
        refine yb_iload (x := (xm_here d)) rfl rfl ?_
        refine yb_push (v := 109) rfl ?_
        refine yb_icmp_eq (x := (xm_here d)) (y := (109 : Int)) rfl rfl r2 (by decide) (fun c => ?_) (fun c => ?_)
        · replace h := h.1 c
          exact h
        · replace h := h.2 c
          refine yb_aload rfl rfl ?_
          refine yb_aload rfl rfl ?_
          refine yb_get (v := .int (xJ (d 146 (12 : Int)))) rfl (by decide) (by decide) (rfl) rfl ?_
          have r3 := h.1
          replace h := h.2
          refine yb_callVv (As := [.int (xJ (d 146 (12 : Int)))]) (a := 146) rfl rfl rfl rfl rfl rfl rfl rfl (by decide) (by decide) (rfl) (by decide) (sp_192 (by omega) r3 ?_)
          show yB D xm_c230 _ L 19 [.ref 146, .int (xJ a1), .int (xJ (xm_here d))] [] (xs d 146 (13 : Int) (if (d 146 (13 : Int)) = -1 then (d 146 (12 : Int)) else (d 146 (13 : Int)))) e
          exact h
theorem yk_230_19 {D L : Nat} {P : xh_D → xd_E → Prop} {d : xh_D} {e : xd_E}  {l1 : Int} {l2 : Int}  (hD : 1 ≤ D) (h : ((0 ≤ l1 ∧ l1 < 240) ∧ ((-2147483648 ≤ l2 ∧ l2 < 2147483648) ∧ (((¬ l2 = (100 : Int)) → yC D 196 L [.ref 146] (xs (xs d 146 (12 : Int) ((d 146 (12 : Int)) + (1 : Int))) 160 l1 l2) e (fun x3 d4 e5 => ((0 ≤ (l1 + (1 : Int)) ∧ (l1 + (1 : Int)) < 240) ∧ (((¬ l2 = (115 : Int)) → yC D 195 L [.ref 146, .int (xJ (8 : Int))] (xs d4 160 (l1 + (1 : Int)) x3) e5 (fun x7 d8 e9 => ((0 ≤ (l1 + (2 : Int)) ∧ (l1 + (2 : Int)) < 240) ∧ P (xs d8 160 (l1 + (2 : Int)) x7) e9))) ∧ ((l2 = (115 : Int)) → yC D 196 L [.ref 146] (xs d4 160 (l1 + (1 : Int)) x3) e5 (fun x11 d12 e13 => ((0 ≤ (l1 + (2 : Int)) ∧ (l1 + (2 : Int)) < 240) ∧ P (xs d12 160 (l1 + (2 : Int)) x11) e13))))))) ∧ ((l2 = (100 : Int)) → (xm_hok (xs (xs d 146 (12 : Int) ((d 146 (12 : Int)) + (1 : Int))) 160 l1 l2) ∧ ((-2147483648 ≤ (xm_here (xs (xs d 146 (12 : Int) ((d 146 (12 : Int)) + (1 : Int))) 160 l1 l2)) ∧ (xm_here (xs (xs d 146 (12 : Int) ((d 146 (12 : Int)) + (1 : Int))) 160 l1 l2)) < 2147483648) ∧ ((((49 : Int) ≤ (xm_here (xs (xs d 146 (12 : Int) ((d 146 (12 : Int)) + (1 : Int))) 160 l1 l2)) ∧ (xm_here (xs (xs d 146 (12 : Int) ((d 146 (12 : Int)) + (1 : Int))) 160 l1 l2)) ≤ (57 : Int)) → yC D 195 L [.ref 146, .int (xJ (9 : Int))] (xs (xs d 146 (12 : Int) ((d 146 (12 : Int)) + (1 : Int))) 160 l1 l2) e (fun x17 d18 e19 => ((0 ≤ (l1 + (1 : Int)) ∧ (l1 + (1 : Int)) < 240) ∧ P (xs d18 160 (l1 + (1 : Int)) x17) e19))) ∧ (¬ ((49 : Int) ≤ (xm_here (xs (xs d 146 (12 : Int) ((d 146 (12 : Int)) + (1 : Int))) 160 l1 l2)) ∧ (xm_here (xs (xs d 146 (12 : Int) ((d 146 (12 : Int)) + (1 : Int))) 160 l1 l2)) ≤ (57 : Int)) → ((0 ≤ (l1 + (1 : Int)) ∧ (l1 + (1 : Int)) < 240) ∧ P (xs (xs (xs d 146 (12 : Int) ((d 146 (12 : Int)) + (1 : Int))) 160 l1 l2) 160 (l1 + (1 : Int)) (1 : Int)) e)))))))))) : yB D xm_c230 (yQv L P) L 19 [.ref 146, .int (xJ l1), .int (xJ l2)] [] d e := by
  refine yb_aload rfl rfl ?_
  refine yb_dup rfl rfl ?_
  refine yb_get (v := .int (xJ (d 146 (12 : Int)))) rfl (by decide) (by decide) (rfl) rfl ?_
  refine yb_push (v := 1) rfl ?_
  refine yb_iadd (x := (d 146 (12 : Int))) (y := (1 : Int)) rfl ?_
  refine yb_put (z := ((d 146 (12 : Int)) + (1 : Int))) (k := 12) rfl rfl (by decide) (by decide) (rfl) (Nat.le_of_ble_eq_true rfl) rfl (rfl) ?_
  refine yb_aload rfl rfl ?_
  refine yb_get (v := .ref 160) rfl (by decide) (by decide) (rfl) rfl ?_
  refine yb_iload (x := l1) rfl rfl ?_
  refine yb_iload (x := l2) rfl rfl ?_
  have r1 := h.1
  replace h := h.2
  refine yb_iast (j := l1) (x := l2) rfl xd_A160 (by decide) r1 ?_
  refine yb_iload (x := l2) rfl rfl ?_
  refine yb_push (v := 100) rfl ?_
  have r2 := h.1
  replace h := h.2
  refine yb_icmp_ne (x := l2) (y := (100 : Int)) rfl rfl r2 (by decide) (fun c => ?_) (fun c => ?_)
  · replace h := h.1 c
    refine yb_aload rfl rfl ?_
    refine yb_get (v := .ref 160) rfl (by decide) (by decide) (rfl) rfl ?_
    refine yb_iload (x := l1) rfl rfl ?_
    refine yb_push (v := 1) rfl ?_
    refine yb_iadd (x := l1) (y := (1 : Int)) rfl ?_
    refine yb_aload rfl rfl ?_
    refine yb_callVi (As := []) (a := 146) rfl rfl rfl rfl rfl rfl rfl rfl (by decide) (by decide) (rfl) (by show (2 : Nat) ≤ 8; decide) (yC_mono h (fun x3 d4 e5 h => ?_))
    have r6 := h.1
    replace h := h.2
    refine yb_iast (j := (l1 + (1 : Int))) (x := x3) rfl xd_A160 (by decide) r6 ?_
    refine yb_aload rfl rfl ?_
    refine yb_get (v := .ref 160) rfl (by decide) (by decide) (rfl) rfl ?_
    refine yb_iload (x := l1) rfl rfl ?_
    refine yb_push (v := 2) rfl ?_
    refine yb_iadd (x := l1) (y := (2 : Int)) rfl ?_
    refine yb_iload (x := l2) rfl rfl ?_
    refine yb_push (v := 115) rfl ?_
    refine yb_icmp_ne (x := l2) (y := (115 : Int)) rfl rfl r2 (by decide) (fun c => ?_) (fun c => ?_)
    · replace h := h.1 c
      refine yb_aload rfl rfl ?_
      refine yb_push (v := 8) rfl ?_
      refine yb_callVi (As := [.int (xJ (8 : Int))]) (a := 146) rfl rfl rfl rfl rfl rfl rfl rfl (by decide) (by decide) (rfl) (by show (2 : Nat) ≤ 8; decide) (yC_mono h (fun x7 d8 e9 h => ?_))
      have r10 := h.1
      replace h := h.2
      refine yb_iast (j := (l1 + (2 : Int))) (x := x7) rfl xd_A160 (by decide) r10 ?_
      exact yb_retv rfl h
    · replace h := h.2 c
      refine yb_aload rfl rfl ?_
      refine yb_callVi (As := []) (a := 146) rfl rfl rfl rfl rfl rfl rfl rfl (by decide) (by decide) (rfl) (by show (2 : Nat) ≤ 8; decide) (yC_mono h (fun x11 d12 e13 h => ?_))
      refine yb_goto rfl rfl ?_
      have r14 := h.1
      replace h := h.2
      refine yb_iast (j := (l1 + (2 : Int))) (x := x11) rfl xd_A160 (by decide) r14 ?_
      exact yb_retv rfl h
  · replace h := h.2 c
    refine yb_aload rfl rfl ?_
    refine yb_get (v := .ref 160) rfl (by decide) (by decide) (rfl) rfl ?_
    refine yb_iload (x := l1) rfl rfl ?_
    refine yb_push (v := 1) rfl ?_
    refine yb_iadd (x := l1) (y := (1 : Int)) rfl ?_
    refine yb_aload rfl rfl ?_
    have r15 := h.1
    replace h := h.2
    refine yb_callVi (As := []) (a := 146) rfl rfl rfl rfl rfl rfl rfl rfl (by decide) (by decide) (rfl) (by show (2 : Nat) ≤ 8; decide) (sp_190 (by omega) r15 ?_)
    show yB D xm_c230 _ L 40 [.ref 146, .int (xJ l1), .int (xJ l2)] [.int (xJ (xm_here (xs (xs d 146 (12 : Int) ((d 146 (12 : Int)) + (1 : Int))) 160 l1 l2))), .int (xJ (l1 + (1 : Int))), .ref 160] (xs (xs d 146 (12 : Int) ((d 146 (12 : Int)) + (1 : Int))) 160 l1 l2) e
    refine yb_push (v := 49) rfl ?_
    refine yb_push (v := 57) rfl ?_
    have r16 := h.1
    replace h := h.2
    refine yb_callSz (As := [.int (xJ (xm_here (xs (xs d 146 (12 : Int) ((d 146 (12 : Int)) + (1 : Int))) 160 l1 l2))), .int (xJ (49 : Int)), .int (xJ (57 : Int))]) rfl rfl rfl rfl rfl rfl rfl rfl (by show (2 : Nat) ≤ 8; decide) (sp_180 (by omega) ⟨r16, (by show (-2147483648 ≤ (49 : Int) ∧ (49 : Int) < 2147483648); decide), (by show (-2147483648 ≤ (57 : Int) ∧ (57 : Int) < 2147483648); decide)⟩ (fun c => ?_) (fun c => ?_))
    · replace h := h.1 c
      show yB D xm_c230 _ L 43 [.ref 146, .int (xJ l1), .int (xJ l2)] [.int (xJ (1 : Int)), .int (xJ (l1 + (1 : Int))), .ref 160] (xs (xs d 146 (12 : Int) ((d 146 (12 : Int)) + (1 : Int))) 160 l1 l2) e
      refine yb_if_eq (x := (1 : Int)) rfl rfl (by decide) (fun c => absurd c (by decide)) (fun _ => ?_)
      refine yb_aload rfl rfl ?_
      refine yb_push (v := 9) rfl ?_
      refine yb_callVi (As := [.int (xJ (9 : Int))]) (a := 146) rfl rfl rfl rfl rfl rfl rfl rfl (by decide) (by decide) (rfl) (by show (2 : Nat) ≤ 8; decide) (yC_mono h (fun x17 d18 e19 h => ?_))
      refine yb_goto rfl rfl ?_
      have r20 := h.1
      replace h := h.2
      refine yb_iast (j := (l1 + (1 : Int))) (x := x17) rfl xd_A160 (by decide) r20 ?_
      exact yb_retv rfl h
    · replace h := h.2 c
      show yB D xm_c230 _ L 43 [.ref 146, .int (xJ l1), .int (xJ l2)] [.int (xJ (0 : Int)), .int (xJ (l1 + (1 : Int))), .ref 160] (xs (xs d 146 (12 : Int) ((d 146 (12 : Int)) + (1 : Int))) 160 l1 l2) e
      refine yb_if_eq (x := (0 : Int)) rfl rfl (by decide) (fun _ => ?_) (fun c => absurd (by decide) c)
      refine yb_push (v := 1) rfl ?_
      have r21 := h.1
      replace h := h.2
      refine yb_iast (j := (l1 + (1 : Int))) (x := (1 : Int)) rfl xd_A160 (by decide) r21 ?_
      exact yb_retv rfl h
theorem yk_231_0 {D L : Nat} {P1 P0 : xh_D → xd_E → Prop} {d : xh_D} {e : xd_E} {a1 : Int}   (hD : 3 ≤ D) (h : ((0 ≤ (a1 + (1 : Int)) ∧ (a1 + (1 : Int)) < 240) ∧ ((0 ≤ (a1 + (2 : Int)) ∧ (a1 + (2 : Int)) < 240) ∧ ((0 ≤ a1 ∧ a1 < 240) ∧ ((-2147483648 ≤ (d 160 a1) ∧ (d 160 a1) < 2147483648) ∧ (((d 160 a1) = 100 → yB D xm_c231 (yQz L P1 P0) L 21 [.ref 146, .double 0, .int (xJ (d 160 (a1 + (1 : Int)))), .double 0, .int (xJ (0 : Int))] [] d e) ∧ ((d 160 a1) = 115 → ((-2147483648 ≤ (d 160 (a1 + (1 : Int))) ∧ (d 160 (a1 + (1 : Int))) < 2147483648) ∧ ((-2147483648 ≤ (d 160 (a1 + (2 : Int))) ∧ (d 160 (a1 + (2 : Int))) < 2147483648) ∧ ((0 ≤ (d 146 (1 : Int)) ∧ (d 146 (1 : Int)) ≤ 9) ∧ ((((0 ≤ (d 160 (a1 + (1 : Int))) ∧ (d 160 (a1 + (1 : Int))) < (d 146 (1 : Int))) ∧ (0 ≤ (d 160 (a1 + (2 : Int))) ∧ (d 160 (a1 + (2 : Int))) < (d 146 (1 : Int))) ∧ ¬ (d 160 (a1 + (1 : Int))) = (d 160 (a1 + (2 : Int)))) → ((0 ≤ (d 160 (a1 + (1 : Int))) ∧ (d 160 (a1 + (1 : Int))) < 9) ∧ ((0 ≤ (d 160 (a1 + (2 : Int))) ∧ (d 160 (a1 + (2 : Int))) < 9) ∧ P1 (xs (xs d 147 (d 160 (a1 + (1 : Int))) (d 147 (d 160 (a1 + (2 : Int))))) 147 (d 160 (a1 + (2 : Int))) (d 147 (d 160 (a1 + (1 : Int))))) e))) ∧ (¬ ((0 ≤ (d 160 (a1 + (1 : Int))) ∧ (d 160 (a1 + (1 : Int))) < (d 146 (1 : Int))) ∧ (0 ≤ (d 160 (a1 + (2 : Int))) ∧ (d 160 (a1 + (2 : Int))) < (d 146 (1 : Int))) ∧ ¬ (d 160 (a1 + (1 : Int))) = (d 160 (a1 + (2 : Int)))) → P0 d e)))))) ∧ ((¬ (d 160 a1) = 100 ∧ ¬ (d 160 a1) = 115) → ((-2147483648 ≤ (d 160 (a1 + (1 : Int))) ∧ (d 160 (a1 + (1 : Int))) < 2147483648) ∧ ((0 ≤ (d 146 (1 : Int)) ∧ (d 146 (1 : Int)) ≤ 9) ∧ (((0 ≤ (d 160 (a1 + (1 : Int))) ∧ (d 160 (a1 + (1 : Int))) < (d 146 (1 : Int))) → (((¬ (d 160 a1) = (104 : Int)) → ((0 ≤ ((9 : Int) + (d 160 (a1 + (1 : Int)))) ∧ ((9 : Int) + (d 160 (a1 + (1 : Int)))) < 353) ∧ P1 (xs d 147 ((9 : Int) + (d 160 (a1 + (1 : Int)))) (d 160 (a1 + (2 : Int)))) e)) ∧ (((d 160 a1) = (104 : Int)) → ((0 ≤ (d 160 (a1 + (1 : Int))) ∧ (d 160 (a1 + (1 : Int))) < 353) ∧ P1 (xs d 147 (d 160 (a1 + (1 : Int))) (d 160 (a1 + (2 : Int)))) e)))) ∧ (¬ (0 ≤ (d 160 (a1 + (1 : Int))) ∧ (d 160 (a1 + (1 : Int))) < (d 146 (1 : Int))) → P0 d e))))))))))) : yB D xm_c231 (yQz L P1 P0) L 0 [.ref 146, .int (xJ a1), .double 0, .double 0, .double 0] [] d e := by
  refine yb_aload rfl rfl ?_
  refine yb_get (v := .ref 160) rfl (by decide) (by decide) (rfl) rfl ?_
  refine yb_iload (x := a1) rfl rfl ?_
  refine yb_push (v := 1) rfl ?_
  refine yb_iadd (x := a1) (y := (1 : Int)) rfl ?_
  have r1 := h.1
  replace h := h.2
  refine yb_iald (j := (a1 + (1 : Int))) rfl xd_A160 (by decide) r1 (v := (d 160 (a1 + (1 : Int)))) rfl ?_
  refine yb_istore rfl rfl rfl ?_
  refine yb_aload rfl rfl ?_
  refine yb_get (v := .ref 160) rfl (by decide) (by decide) (rfl) rfl ?_
  refine yb_iload (x := a1) rfl rfl ?_
  refine yb_push (v := 2) rfl ?_
  refine yb_iadd (x := a1) (y := (2 : Int)) rfl ?_
  have r2 := h.1
  replace h := h.2
  refine yb_iald (j := (a1 + (2 : Int))) rfl xd_A160 (by decide) r2 (v := (d 160 (a1 + (2 : Int)))) rfl ?_
  refine yb_istore rfl rfl rfl ?_
  refine yb_aload rfl rfl ?_
  refine yb_get (v := .ref 160) rfl (by decide) (by decide) (rfl) rfl ?_
  refine yb_iload (x := a1) rfl rfl ?_
  have r3 := h.1
  replace h := h.2
  refine yb_iald (j := a1) rfl xd_A160 (by decide) r3 (v := (d 160 a1)) rfl ?_
  have r4 := h.1
  replace h := h.2
  by_cases c0 : (d 160 a1) = 100
  · replace h := h.1 c0
    refine yb_lookup (x := (d 160 a1)) rfl r4 ?_
    rw [c0]
    show yB D xm_c231 _ L 19 _ _ _ _
    refine yb_push (v := 0) rfl ?_
    refine yb_istore rfl rfl rfl ?_
    refine yb_forget (dl := [.ref 146, .double 0, .int (xJ (d 160 (a1 + (1 : Int)))), .double 0, .int (xJ (0 : Int))]) ⟨Or.inl rfl, ⟨Or.inr ⟨rfl, rfl⟩, ⟨Or.inl rfl, ⟨Or.inr ⟨rfl, rfl⟩, ⟨Or.inl rfl, trivial⟩⟩⟩⟩⟩ ?_
    exact h
  by_cases c1 : (d 160 a1) = 115
  · replace h := h.2.1 c1
    refine yb_lookup (x := (d 160 a1)) rfl r4 ?_
    rw [c1]
    show yB D xm_c231 _ L 39 _ _ _ _
    refine yb_aload rfl rfl ?_
    refine yb_iload (x := (d 160 (a1 + (1 : Int)))) rfl rfl ?_
    refine yb_iload (x := (d 160 (a1 + (2 : Int)))) rfl rfl ?_
    have r5 := h.1
    replace h := h.2
    have r6 := h.1
    replace h := h.2
    have r7 := h.1
    replace h := h.2
    refine yb_callVz (As := [.int (xJ (d 160 (a1 + (1 : Int)))), .int (xJ (d 160 (a1 + (2 : Int))))]) (a := 146) rfl rfl rfl rfl rfl rfl rfl rfl (by decide) (by decide) (rfl) (by decide) (sp_185 (by omega) ⟨r5, r6, r7⟩ (fun c => ?_) (fun c => ?_))
    · replace h := h.1 c
      show yB D xm_c231 _ L 43 [.ref 146, .int (xJ a1), .int (xJ (d 160 (a1 + (1 : Int)))), .int (xJ (d 160 (a1 + (2 : Int)))), .double 0] [.int (xJ (1 : Int))] d e
      refine yb_if_ne (x := (1 : Int)) rfl rfl (by decide) (fun _ => ?_) (fun c => absurd c (by decide))
      refine yb_aload rfl rfl ?_
      refine yb_get (v := .ref 147) rfl (by decide) (by decide) (rfl) rfl ?_
      refine yb_iload (x := (d 160 (a1 + (1 : Int)))) rfl rfl ?_
      refine yb_iload (x := (d 160 (a1 + (2 : Int)))) rfl rfl ?_
      have r8 := h.1
      replace h := h.2
      have r9 := h.1
      replace h := h.2
      refine yb_callSv (As := [.ref 147, .int (xJ (d 160 (a1 + (1 : Int)))), .int (xJ (d 160 (a1 + (2 : Int))))]) rfl rfl rfl rfl rfl rfl rfl rfl (by decide) (sp_232_147 (by omega) ⟨r8, r9⟩ ?_)
      show yB D xm_c231 _ L 51 [.ref 146, .int (xJ a1), .int (xJ (d 160 (a1 + (1 : Int)))), .int (xJ (d 160 (a1 + (2 : Int)))), .double 0] [] (xs (xs d 147 (d 160 (a1 + (1 : Int))) (d 147 (d 160 (a1 + (2 : Int))))) 147 (d 160 (a1 + (2 : Int))) (d 147 (d 160 (a1 + (1 : Int))))) e
      refine yb_push (v := 1) rfl ?_
      exact yb_ret1 rfl h
    · replace h := h.2 c
      show yB D xm_c231 _ L 43 [.ref 146, .int (xJ a1), .int (xJ (d 160 (a1 + (1 : Int)))), .int (xJ (d 160 (a1 + (2 : Int)))), .double 0] [.int (xJ (0 : Int))] d e
      refine yb_if_ne (x := (0 : Int)) rfl rfl (by decide) (fun c => absurd (by decide) c) (fun _ => ?_)
      refine yb_push (v := 0) rfl ?_
      exact yb_ret0 rfl h
  replace h := h.2.2 ⟨c0, c1⟩
  refine yb_lookup (x := (d 160 a1)) rfl r4 ?_
  rw [show Op.lookupswitch.offset _ _ _ = (53 : Int) from by simp [Op.lookupswitch.offset, c0, Ne.symm c0, c1, Ne.symm c1]]
  show yB D xm_c231 _ L 53 _ _ _ _
  refine yb_aload rfl rfl ?_
  refine yb_iload (x := (d 160 (a1 + (1 : Int)))) rfl rfl ?_
  have r10 := h.1
  replace h := h.2
  have r11 := h.1
  replace h := h.2
  refine yb_callVz (As := [.int (xJ (d 160 (a1 + (1 : Int))))]) (a := 146) rfl rfl rfl rfl rfl rfl rfl rfl (by decide) (by decide) (rfl) (by decide) (sp_184 (by omega) ⟨r10, r11⟩ (fun c => ?_) (fun c => ?_))
  · replace h := h.1 c
    show yB D xm_c231 _ L 56 [.ref 146, .int (xJ a1), .int (xJ (d 160 (a1 + (1 : Int)))), .int (xJ (d 160 (a1 + (2 : Int)))), .double 0] [.int (xJ (1 : Int))] d e
    refine yb_if_ne (x := (1 : Int)) rfl rfl (by decide) (fun _ => ?_) (fun c => absurd c (by decide))
    refine yb_aload rfl rfl ?_
    refine yb_get (v := .ref 147) rfl (by decide) (by decide) (rfl) rfl ?_
    refine yb_aload rfl rfl ?_
    refine yb_get (v := .ref 160) rfl (by decide) (by decide) (rfl) rfl ?_
    refine yb_iload (x := a1) rfl rfl ?_
    refine yb_iald (j := a1) rfl xd_A160 (by decide) r3 (v := (d 160 a1)) rfl ?_
    refine yb_push (v := 104) rfl ?_
    refine yb_icmp_ne (x := (d 160 a1)) (y := (104 : Int)) rfl rfl r4 (by decide) (fun c => ?_) (fun c => ?_)
    · replace h := h.1 c
      refine yb_push (v := 9) rfl ?_
      refine yb_iload (x := (d 160 (a1 + (1 : Int)))) rfl rfl ?_
      refine yb_iadd (x := (9 : Int)) (y := (d 160 (a1 + (1 : Int)))) rfl ?_
      refine yb_iload (x := (d 160 (a1 + (2 : Int)))) rfl rfl ?_
      have r12 := h.1
      replace h := h.2
      refine yb_iast (j := ((9 : Int) + (d 160 (a1 + (1 : Int))))) (x := (d 160 (a1 + (2 : Int)))) rfl xd_A147 (by decide) r12 ?_
      refine yb_push (v := 1) rfl ?_
      exact yb_ret1 rfl h
    · replace h := h.2 c
      refine yb_iload (x := (d 160 (a1 + (1 : Int)))) rfl rfl ?_
      refine yb_goto rfl rfl ?_
      refine yb_iload (x := (d 160 (a1 + (2 : Int)))) rfl rfl ?_
      have r13 := h.1
      replace h := h.2
      refine yb_iast (j := (d 160 (a1 + (1 : Int)))) (x := (d 160 (a1 + (2 : Int)))) rfl xd_A147 (by decide) r13 ?_
      refine yb_push (v := 1) rfl ?_
      exact yb_ret1 rfl h
  · replace h := h.2 c
    show yB D xm_c231 _ L 56 [.ref 146, .int (xJ a1), .int (xJ (d 160 (a1 + (1 : Int)))), .int (xJ (d 160 (a1 + (2 : Int)))), .double 0] [.int (xJ (0 : Int))] d e
    refine yb_if_ne (x := (0 : Int)) rfl rfl (by decide) (fun c => absurd (by decide) c) (fun _ => ?_)
    refine yb_push (v := 0) rfl ?_
    exact yb_ret0 rfl h
theorem yk_231_21 {D L : Nat} {P1 P0 : xh_D → xd_E → Prop} {d : xh_D} {e : xd_E}  {l2 : Int} {l4 : Int}  (h : ((-2147483648 ≤ l4 ∧ l4 < 2147483648) ∧ ((-2147483648 ≤ l2 ∧ l2 < 2147483648) ∧ (((l2 ≤ l4) → P1 d e) ∧ ((¬ l2 ≤ l4) → yV D 223 L [.ref 146, .ref 147] d e (fun d3 e4 => yB D xm_c231 (yQz L P1 P0) L 21 [.ref 146, .double 0, .int (xJ l2), .double 0, .int (xJ (l4 + 1))] [] (xs d3 146 (34 : Int) ((d3 146 (34 : Int)) + (d3 146 (28 : Int)))) e4)))))) : yB D xm_c231 (yQz L P1 P0) L 21 [.ref 146, .double 0, .int (xJ l2), .double 0, .int (xJ l4)] [] d e := by
  refine yb_iload (x := l4) rfl rfl ?_
  refine yb_iload (x := l2) rfl rfl ?_
  have r1 := h.1
  replace h := h.2
  have r2 := h.1
  replace h := h.2
  refine yb_icmp_ge (x := l4) (y := l2) rfl rfl r1 r2 (fun c => ?_) (fun c => ?_)
  · replace h := h.1 c
    refine yb_push (v := 1) rfl ?_
    exact yb_ret1 rfl h
  · replace h := h.2 c
    refine yb_aload rfl rfl ?_
    refine yb_aload rfl rfl ?_
    refine yb_get (v := .ref 147) rfl (by decide) (by decide) (rfl) rfl ?_
    refine yb_callVv (As := [.ref 147]) (a := 146) rfl rfl rfl rfl rfl rfl rfl rfl (by decide) (by decide) (rfl) (by decide) (yV_mono h (fun d3 e4 h => ?_))
    refine yb_aload rfl rfl ?_
    refine yb_dup rfl rfl ?_
    refine yb_get (v := .int (xJ (d3 146 (34 : Int)))) rfl (by decide) (by decide) (rfl) rfl ?_
    refine yb_aload rfl rfl ?_
    refine yb_get (v := .int (xJ (d3 146 (28 : Int)))) rfl (by decide) (by decide) (rfl) rfl ?_
    refine yb_iadd (x := (d3 146 (34 : Int))) (y := (d3 146 (28 : Int))) rfl ?_
    refine yb_put (z := ((d3 146 (34 : Int)) + (d3 146 (28 : Int)))) (k := 34) rfl rfl (by decide) (by decide) (rfl) (Nat.le_of_ble_eq_true rfl) rfl (rfl) ?_
    refine yb_iinc (x := l4) (n := 1) rfl rfl rfl rfl ?_
    refine yb_goto rfl rfl ?_
    exact h
theorem yk_233_0 {D L : Nat} {P : Int → xh_D → xd_E → Prop} {d : xh_D} {e : xd_E}    (h : ((-2147483648 ≤ (d 146 (31 : Int)) ∧ (d 146 (31 : Int)) < 2147483648) ∧ (((¬ (d 146 (31 : Int)) = 0) → yB D xm_c233 (yQi L P) L 16 [.ref 146, .int (xJ (0 : Int))] [] (xs (xs d 146 (8 : Int) (0 : Int)) 146 (31 : Int) ((d 146 (31 : Int)) - (1 : Int))) e) ∧ (((d 146 (31 : Int)) = 0) → P (-1 : Int) (xs d 146 (8 : Int) (0 : Int)) e)))) : yB D xm_c233 (yQi L P) L 0 [.ref 146, .double 0] [] d e := by
  refine yb_aload rfl rfl ?_
  refine yb_push (v := 0) rfl ?_
  refine yb_put (z := (0 : Int)) (k := 8) rfl rfl (by decide) (by decide) (rfl) (Nat.le_of_ble_eq_true rfl) rfl (rfl) ?_
  refine yb_aload rfl rfl ?_
  refine yb_get (v := .int (xJ (d 146 (31 : Int)))) rfl (by decide) (by decide) (rfl) rfl ?_
  have r1 := h.1
  replace h := h.2
  refine yb_if_ne (x := (d 146 (31 : Int))) rfl rfl r1 (fun c => ?_) (fun c => ?_)
  · replace h := h.1 c
    refine yb_aload rfl rfl ?_
    refine yb_dup rfl rfl ?_
    refine yb_get (v := .int (xJ (d 146 (31 : Int)))) rfl (by decide) (by decide) (rfl) rfl ?_
    refine yb_push (v := 1) rfl ?_
    refine yb_isub (x := (d 146 (31 : Int))) (y := (1 : Int)) rfl ?_
    refine yb_put (z := ((d 146 (31 : Int)) - (1 : Int))) (k := 31) rfl rfl (by decide) (by decide) (rfl) (Nat.le_of_ble_eq_true rfl) rfl (rfl) ?_
    refine yb_push (v := 0) rfl ?_
    refine yb_istore rfl rfl rfl ?_
    exact h
  · replace h := h.2 c
    refine yb_push (v := (-1)) rfl ?_
    exact yb_ret rfl h
theorem yk_233_16 {D L : Nat} {P : Int → xh_D → xd_E → Prop} {d : xh_D} {e : xd_E}  {l1 : Int}  (h : ((-2147483648 ≤ l1 ∧ l1 < 2147483648) ∧ ((((353 : Int) ≤ l1) → P (d 146 (31 : Int)) d e) ∧ ((¬ (353 : Int) ≤ l1) → ((0 ≤ (((353 : Int) * (d 146 (31 : Int))) + l1) ∧ (((353 : Int) * (d 146 (31 : Int))) + l1) < 4236) ∧ ((0 ≤ l1 ∧ l1 < 353) ∧ yB D xm_c233 (yQi L P) L 16 [.ref 146, .int (xJ (l1 + 1))] [] (xs d 147 l1 (d 158 (((353 : Int) * (d 146 (31 : Int))) + l1))) e)))))) : yB D xm_c233 (yQi L P) L 16 [.ref 146, .int (xJ l1)] [] d e := by
  refine yb_iload (x := l1) rfl rfl ?_
  refine yb_push (v := 353) rfl ?_
  have r1 := h.1
  replace h := h.2
  refine yb_icmp_ge (x := l1) (y := (353 : Int)) rfl rfl r1 (by decide) (fun c => ?_) (fun c => ?_)
  · replace h := h.1 c
    refine yb_aload rfl rfl ?_
    refine yb_get (v := .int (xJ (d 146 (31 : Int)))) rfl (by decide) (by decide) (rfl) rfl ?_
    exact yb_ret rfl h
  · replace h := h.2 c
    refine yb_aload rfl rfl ?_
    refine yb_get (v := .ref 147) rfl (by decide) (by decide) (rfl) rfl ?_
    refine yb_iload (x := l1) rfl rfl ?_
    refine yb_aload rfl rfl ?_
    refine yb_get (v := .ref 158) rfl (by decide) (by decide) (rfl) rfl ?_
    refine yb_push (v := 353) rfl ?_
    refine yb_aload rfl rfl ?_
    refine yb_get (v := .int (xJ (d 146 (31 : Int)))) rfl (by decide) (by decide) (rfl) rfl ?_
    refine yb_imul (x := (353 : Int)) (y := (d 146 (31 : Int))) rfl ?_
    refine yb_iload (x := l1) rfl rfl ?_
    refine yb_iadd (x := ((353 : Int) * (d 146 (31 : Int)))) (y := l1) rfl ?_
    have r2 := h.1
    replace h := h.2
    refine yb_iald (j := (((353 : Int) * (d 146 (31 : Int))) + l1)) rfl xd_A158 (by decide) r2 (v := (d 158 (((353 : Int) * (d 146 (31 : Int))) + l1))) rfl ?_
    have r3 := h.1
    replace h := h.2
    refine yb_iast (j := l1) (x := (d 158 (((353 : Int) * (d 146 (31 : Int))) + l1))) rfl xd_A147 (by decide) r3 ?_
    refine yb_iinc (x := l1) (n := 1) rfl rfl rfl rfl ?_
    refine yb_goto rfl rfl ?_
    exact h
theorem yk_234_0 {D L : Nat} {P : Int → xh_D → xd_E → Prop} {d : xh_D} {e : xd_E} {a1 : Int} {a2 : Int}   (h : ((0 ≤ ((d 147 (81 : Int)) - a2) ∧ ((d 147 (81 : Int)) - a2) < 2147483648) ∧ ((0 ≤ (((83 : Int) + ((9 : Int) * (((d 147 (81 : Int)) - a2) % (30 : Int)))) + a1) ∧ (((83 : Int) + ((9 : Int) * (((d 147 (81 : Int)) - a2) % (30 : Int)))) + a1) < 353) ∧ P (d 147 (((83 : Int) + ((9 : Int) * (((d 147 (81 : Int)) - a2) % (30 : Int)))) + a1)) d e))) : yB D xm_c234 (yQi L P) L 0 [.ref 146, .int (xJ a1), .int (xJ a2)] [] d e := by
  refine yb_aload rfl rfl ?_
  refine yb_get (v := .ref 147) rfl (by decide) (by decide) (rfl) rfl ?_
  refine yb_push (v := 83) rfl ?_
  refine yb_push (v := 9) rfl ?_
  refine yb_aload rfl rfl ?_
  refine yb_get (v := .ref 147) rfl (by decide) (by decide) (rfl) rfl ?_
  refine yb_push (v := 81) rfl ?_
  refine yb_iald (j := (81 : Int)) rfl xd_A147 (by decide) (by decide) (v := (d 147 (81 : Int))) rfl ?_
  refine yb_iload (x := a2) rfl rfl ?_
  refine yb_isub (x := (d 147 (81 : Int))) (y := a2) rfl ?_
  refine yb_push (v := 30) rfl ?_
  have r1 := h.1
  replace h := h.2
  refine yb_irem (x := ((d 147 (81 : Int)) - a2)) (y := (30 : Int)) rfl r1 (by decide) ?_
  refine yb_imul (x := (9 : Int)) (y := (((d 147 (81 : Int)) - a2) % (30 : Int))) rfl ?_
  refine yb_iadd (x := (83 : Int)) (y := ((9 : Int) * (((d 147 (81 : Int)) - a2) % (30 : Int)))) rfl ?_
  refine yb_iload (x := a1) rfl rfl ?_
  refine yb_iadd (x := ((83 : Int) + ((9 : Int) * (((d 147 (81 : Int)) - a2) % (30 : Int))))) (y := a1) rfl ?_
  have r2 := h.1
  replace h := h.2
  refine yb_iald (j := (((83 : Int) + ((9 : Int) * (((d 147 (81 : Int)) - a2) % (30 : Int)))) + a1)) rfl xd_A147 (by decide) r2 (v := (d 147 (((83 : Int) + ((9 : Int) * (((d 147 (81 : Int)) - a2) % (30 : Int)))) + a1))) rfl ?_
  exact yb_ret rfl h
theorem yk_235_0 {D L : Nat} {P : Int → xh_D → xd_E → Prop} {d : xh_D} {e : xd_E} {a1 : Int} {a2 : Int}   (hD : 2 ≤ D) (h : ((-2147483648 ≤ a1 ∧ a1 < 2147483648) ∧ ((0 ≤ (d 146 (1 : Int)) ∧ (d 146 (1 : Int)) ≤ 9) ∧ (((0 ≤ a1 ∧ a1 < (d 146 (1 : Int))) → ((-2147483648 ≤ a2 ∧ a2 < 2147483648) ∧ ((((1 : Int) ≤ a2 ∧ a2 ≤ (30 : Int)) → ((-2147483648 ≤ (d 147 (82 : Int)) ∧ (d 147 (82 : Int)) < 2147483648) ∧ (((a2 ≤ (d 147 (82 : Int))) → yC D 234 L [.ref 146, .int (xJ a1), .int (xJ a2)] (xs d 146 (8 : Int) (0 : Int)) e (fun x5 d6 e7 => ((-2147483648 ≤ x5 ∧ x5 < 2147483648) ∧ (((¬ x5 = (11 : Int)) → (((¬ x5 = (10 : Int)) → (((¬ x5 = (9 : Int)) → P x5 d6 e7) ∧ ((x5 = (9 : Int)) → P (-3 : Int) d6 e7))) ∧ ((x5 = (10 : Int)) → P (-2 : Int) d6 e7))) ∧ ((x5 = (11 : Int)) → P (-4 : Int) d6 e7))))) ∧ ((¬ a2 ≤ (d 147 (82 : Int))) → P (-4 : Int) (xs d 146 (8 : Int) (0 : Int)) e)))) ∧ (¬ ((1 : Int) ≤ a2 ∧ a2 ≤ (30 : Int)) → P (-1 : Int) (xs d 146 (8 : Int) (0 : Int)) e)))) ∧ (¬ (0 ≤ a1 ∧ a1 < (d 146 (1 : Int))) → P (-1 : Int) (xs d 146 (8 : Int) (0 : Int)) e))))) : yB D xm_c235 (yQi L P) L 0 [.ref 146, .int (xJ a1), .int (xJ a2), .double 0] [] d e := by
  refine yb_aload rfl rfl ?_
  refine yb_push (v := 0) rfl ?_
  refine yb_put (z := (0 : Int)) (k := 8) rfl rfl (by decide) (by decide) (rfl) (Nat.le_of_ble_eq_true rfl) rfl (rfl) ?_
  refine yb_aload rfl rfl ?_
  refine yb_iload (x := a1) rfl rfl ?_
  have r1 := h.1
  replace h := h.2
  have r2 := h.1
  replace h := h.2
  refine yb_callVz (As := [.int (xJ a1)]) (a := 146) rfl rfl rfl rfl rfl rfl rfl rfl (by decide) (by decide) (rfl) (by decide) (sp_184 (by omega) ⟨r1, r2⟩ (fun c => ?_) (fun c => ?_))
  · replace h := h.1 c
    show yB D xm_c235 _ L 6 [.ref 146, .int (xJ a1), .int (xJ a2), .double 0] [.int (xJ (1 : Int))] (xs d 146 (8 : Int) (0 : Int)) e
    refine yb_if_eq (x := (1 : Int)) rfl rfl (by decide) (fun c => absurd c (by decide)) (fun _ => ?_)
    refine yb_iload (x := a2) rfl rfl ?_
    refine yb_push (v := 1) rfl ?_
    refine yb_push (v := 30) rfl ?_
    have r3 := h.1
    replace h := h.2
    refine yb_callSz (As := [.int (xJ a2), .int (xJ (1 : Int)), .int (xJ (30 : Int))]) rfl rfl rfl rfl rfl rfl rfl rfl (by decide) (sp_180 (by omega) ⟨r3, (by show (-2147483648 ≤ (1 : Int) ∧ (1 : Int) < 2147483648); decide), (by show (-2147483648 ≤ (30 : Int) ∧ (30 : Int) < 2147483648); decide)⟩ (fun c => ?_) (fun c => ?_))
    · replace h := h.1 c
      show yB D xm_c235 _ L 11 [.ref 146, .int (xJ a1), .int (xJ a2), .double 0] [.int (xJ (1 : Int))] (xs d 146 (8 : Int) (0 : Int)) e
      refine yb_if_ne (x := (1 : Int)) rfl rfl (by decide) (fun _ => ?_) (fun c => absurd c (by decide))
      refine yb_iload (x := a2) rfl rfl ?_
      refine yb_aload rfl rfl ?_
      refine yb_get (v := .ref 147) rfl (by decide) (by decide) (rfl) rfl ?_
      refine yb_push (v := 82) rfl ?_
      refine yb_iald (j := (82 : Int)) rfl xd_A147 (by decide) (by decide) (v := (d 147 (82 : Int))) (xs_np (by decide)) ?_
      have r4 := h.1
      replace h := h.2
      refine yb_icmp_le (x := a2) (y := (d 147 (82 : Int))) rfl rfl r3 r4 (fun c => ?_) (fun c => ?_)
      · replace h := h.1 c
        refine yb_aload rfl rfl ?_
        refine yb_iload (x := a1) rfl rfl ?_
        refine yb_iload (x := a2) rfl rfl ?_
        refine yb_callVi (As := [.int (xJ a1), .int (xJ a2)]) (a := 146) rfl rfl rfl rfl rfl rfl rfl rfl (by decide) (by decide) (rfl) (by decide) (yC_mono h (fun x5 d6 e7 h => ?_))
        refine yb_istore rfl rfl rfl ?_
        refine yb_iload (x := x5) rfl rfl ?_
        refine yb_push (v := 11) rfl ?_
        have r8 := h.1
        replace h := h.2
        refine yb_icmp_ne (x := x5) (y := (11 : Int)) rfl rfl r8 (by decide) (fun c => ?_) (fun c => ?_)
        · replace h := h.1 c
          refine yb_iload (x := x5) rfl rfl ?_
          refine yb_push (v := 10) rfl ?_
          refine yb_icmp_ne (x := x5) (y := (10 : Int)) rfl rfl r8 (by decide) (fun c => ?_) (fun c => ?_)
          · replace h := h.1 c
            refine yb_iload (x := x5) rfl rfl ?_
            refine yb_push (v := 9) rfl ?_
            refine yb_icmp_ne (x := x5) (y := (9 : Int)) rfl rfl r8 (by decide) (fun c => ?_) (fun c => ?_)
            · replace h := h.1 c
              refine yb_iload (x := x5) rfl rfl ?_
              exact yb_ret rfl h
            · replace h := h.2 c
              refine yb_push (v := (-3)) rfl ?_
              refine yb_goto rfl rfl ?_
              exact yb_ret rfl h
          · replace h := h.2 c
            refine yb_push (v := (-2)) rfl ?_
            refine yb_goto rfl rfl ?_
            exact yb_ret rfl h
        · replace h := h.2 c
          refine yb_push (v := (-4)) rfl ?_
          refine yb_goto rfl rfl ?_
          exact yb_ret rfl h
      · replace h := h.2 c
        refine yb_push (v := (-4)) rfl ?_
        exact yb_ret rfl h
    · replace h := h.2 c
      show yB D xm_c235 _ L 11 [.ref 146, .int (xJ a1), .int (xJ a2), .double 0] [.int (xJ (0 : Int))] (xs d 146 (8 : Int) (0 : Int)) e
      refine yb_if_ne (x := (0 : Int)) rfl rfl (by decide) (fun c => absurd (by decide) c) (fun _ => ?_)
      refine yb_push (v := (-1)) rfl ?_
      exact yb_ret rfl h
  · replace h := h.2 c
    show yB D xm_c235 _ L 6 [.ref 146, .int (xJ a1), .int (xJ a2), .double 0] [.int (xJ (0 : Int))] (xs d 146 (8 : Int) (0 : Int)) e
    refine yb_if_eq (x := (0 : Int)) rfl rfl (by decide) (fun _ => ?_) (fun c => absurd (by decide) c)
    refine yb_push (v := (-1)) rfl ?_
    exact yb_ret rfl h
theorem yk_236_0 {D L : Nat} {P : Int → xh_D → xd_E → Prop} {d : xh_D} {e : xd_E} {a1 : Int}   (hD : 2 ≤ D) (h : ((-2147483648 ≤ a1 ∧ a1 < 2147483648) ∧ ((0 ≤ (d 146 (1 : Int)) ∧ (d 146 (1 : Int)) ≤ 9) ∧ (((0 ≤ a1 ∧ a1 < (d 146 (1 : Int))) → yB D xm_c236 (yQi L P) L 17 [.ref 146, .int (xJ a1), .int (xJ (0 : Int)), .int (xJ (0 : Int)), .int (xJ (-1 : Int)), .int (xJ (0 : Int)), .double 0] [] (xs d 146 (8 : Int) (0 : Int)) e) ∧ (¬ (0 ≤ a1 ∧ a1 < (d 146 (1 : Int))) → P (-1 : Int) (xs d 146 (8 : Int) (0 : Int)) e))))) : yB D xm_c236 (yQi L P) L 0 [.ref 146, .int (xJ a1), .double 0, .double 0, .double 0, .double 0, .double 0] [] d e := by
  refine yb_aload rfl rfl ?_
  refine yb_push (v := 0) rfl ?_
  refine yb_put (z := (0 : Int)) (k := 8) rfl rfl (by decide) (by decide) (rfl) (Nat.le_of_ble_eq_true rfl) rfl (rfl) ?_
  refine yb_aload rfl rfl ?_
  refine yb_iload (x := a1) rfl rfl ?_
  have r1 := h.1
  replace h := h.2
  have r2 := h.1
  replace h := h.2
  refine yb_callVz (As := [.int (xJ a1)]) (a := 146) rfl rfl rfl rfl rfl rfl rfl rfl (by decide) (by decide) (rfl) (by decide) (sp_184 (by omega) ⟨r1, r2⟩ (fun c => ?_) (fun c => ?_))
  · replace h := h.1 c
    show yB D xm_c236 _ L 6 [.ref 146, .int (xJ a1), .double 0, .double 0, .double 0, .double 0, .double 0] [.int (xJ (1 : Int))] (xs d 146 (8 : Int) (0 : Int)) e
    refine yb_if_ne (x := (1 : Int)) rfl rfl (by decide) (fun _ => ?_) (fun c => absurd c (by decide))
    refine yb_push (v := 0) rfl ?_
    refine yb_istore rfl rfl rfl ?_
    refine yb_push (v := 0) rfl ?_
    refine yb_istore rfl rfl rfl ?_
    refine yb_push (v := (-1)) rfl ?_
    refine yb_istore rfl rfl rfl ?_
    refine yb_push (v := 0) rfl ?_
    refine yb_istore rfl rfl rfl ?_
    exact h
  · replace h := h.2 c
    show yB D xm_c236 _ L 6 [.ref 146, .int (xJ a1), .double 0, .double 0, .double 0, .double 0, .double 0] [.int (xJ (0 : Int))] (xs d 146 (8 : Int) (0 : Int)) e
    refine yb_if_ne (x := (0 : Int)) rfl rfl (by decide) (fun c => absurd (by decide) c) (fun _ => ?_)
    refine yb_push (v := (-1)) rfl ?_
    exact yb_ret rfl h
theorem yk_236_17 {D L : Nat} {P : Int → xh_D → xd_E → Prop} {d : xh_D} {e : xd_E}  {l1 : Int} {l2 : Int} {l3 : Int} {l4 : Int} {l5 : Int}  (hD : 1 ≤ D) (h : ((-2147483648 ≤ l5 ∧ l5 < 2147483648) ∧ ((-2147483648 ≤ (d 146 (1 : Int)) ∧ (d 146 (1 : Int)) < 2147483648) ∧ ((((d 146 (1 : Int)) ≤ l5) → P l2 (xs (xs (xs (xs (xs d 146 (7 : Int) (0 : Int)) 151 (0 : Int) l3) 146 (7 : Int) ((0 : Int) + 1)) 151 ((0 : Int) + 1) l4) 146 (7 : Int) (((0 : Int) + 1) + 1)) e) ∧ ((¬ (d 146 (1 : Int)) ≤ l5) → ((0 ≤ l5 ∧ l5 < 9) ∧ yB D xm_c236 (yQi L P) L 28 [.ref 146, .int (xJ l1), .int (xJ l2), .int (xJ l3), .int (xJ l4), .int (xJ l5), .int (xJ (1 : Int))] [] (xs d 161 l5 (0 : Int)) e)))))) : yB D xm_c236 (yQi L P) L 17 [.ref 146, .int (xJ l1), .int (xJ l2), .int (xJ l3), .int (xJ l4), .int (xJ l5), .double 0] [] d e := by
  refine yb_iload (x := l5) rfl rfl ?_
  refine yb_aload rfl rfl ?_
  refine yb_get (v := .int (xJ (d 146 (1 : Int)))) rfl (by decide) (by decide) (rfl) rfl ?_
  have r1 := h.1
  replace h := h.2
  have r2 := h.1
  replace h := h.2
  refine yb_icmp_ge (x := l5) (y := (d 146 (1 : Int))) rfl rfl r1 r2 (fun c => ?_) (fun c => ?_)
  · replace h := h.1 c
    refine yb_aload rfl rfl ?_
    refine yb_push (v := 0) rfl ?_
    refine yb_put (z := (0 : Int)) (k := 7) rfl rfl (by decide) (by decide) (rfl) (Nat.le_of_ble_eq_true rfl) rfl (rfl) ?_
    refine yb_aload rfl rfl ?_
    refine yb_iload (x := l3) rfl rfl ?_
    refine yb_callVv (As := [.int (xJ l3)]) (a := 146) rfl rfl rfl rfl rfl rfl rfl rfl (by decide) (by decide) (rfl) (by decide) (sp_183 (by omega) (by show (0 ≤ (0 : Int) ∧ (0 : Int) < 20); decide) ?_)
    show yB D xm_c236 _ L 93 [.ref 146, .int (xJ l1), .int (xJ l2), .int (xJ l3), .int (xJ l4), .int (xJ l5), .double 0] [] (xs (xs (xs d 146 (7 : Int) (0 : Int)) 151 (0 : Int) l3) 146 (7 : Int) ((0 : Int) + 1)) e
    refine yb_aload rfl rfl ?_
    refine yb_iload (x := l4) rfl rfl ?_
    refine yb_callVv (As := [.int (xJ l4)]) (a := 146) rfl rfl rfl rfl rfl rfl rfl rfl (by decide) (by decide) (rfl) (by decide) (sp_183 (by omega) (by show (0 ≤ ((0 : Int) + 1) ∧ ((0 : Int) + 1) < 20); decide) ?_)
    show yB D xm_c236 _ L 96 [.ref 146, .int (xJ l1), .int (xJ l2), .int (xJ l3), .int (xJ l4), .int (xJ l5), .double 0] [] (xs (xs (xs (xs (xs d 146 (7 : Int) (0 : Int)) 151 (0 : Int) l3) 146 (7 : Int) ((0 : Int) + 1)) 151 ((0 : Int) + 1) l4) 146 (7 : Int) (((0 : Int) + 1) + 1)) e
    refine yb_iload (x := l2) rfl rfl ?_
    exact yb_ret rfl h
  · replace h := h.2 c
    refine yb_aload rfl rfl ?_
    refine yb_get (v := .ref 161) rfl (by decide) (by decide) (rfl) rfl ?_
    refine yb_iload (x := l5) rfl rfl ?_
    refine yb_push (v := 0) rfl ?_
    have r3 := h.1
    replace h := h.2
    refine yb_iast (j := l5) (x := (0 : Int)) rfl xd_A161 (by decide) r3 ?_
    refine yb_push (v := 1) rfl ?_
    refine yb_istore rfl rfl rfl ?_
    exact h
theorem yk_236_28 {D L : Nat} {P : Int → xh_D → xd_E → Prop} {d : xh_D} {e : xd_E}  {l1 : Int} {l2 : Int} {l3 : Int} {l4 : Int} {l5 : Int} {l6 : Int}  (h : ((-2147483648 ≤ l6 ∧ l6 < 2147483648) ∧ ((-2147483648 ≤ (d 147 (82 : Int)) ∧ (d 147 (82 : Int)) < 2147483648) ∧ ((((d 147 (82 : Int)) < l6) → ((0 ≤ l5 ∧ l5 < 9) ∧ ((-2147483648 ≤ (d 161 l5) ∧ (d 161 l5) < 2147483648) ∧ (((¬ (d 161 l5) = 0) → ((-2147483648 ≤ l4 ∧ l4 < 2147483648) ∧ (((l4 = (-1 : Int)) → yB D xm_c236 (yQi L P) L 17 [.ref 146, .int (xJ l1), .int (xJ (l2 + (d 161 l5))), .int (xJ (xi_or l3 (xi_shl (1 : Int) l5))), .int (xJ l5), .int (xJ (l5 + 1)), .double 0] [] d e) ∧ ((¬ l4 = (-1 : Int)) → ((0 ≤ l4 ∧ l4 < 9) ∧ ((-2147483648 ≤ (d 161 l4) ∧ (d 161 l4) < 2147483648) ∧ ((((d 161 l5) ≤ (d 161 l4)) → yB D xm_c236 (yQi L P) L 17 [.ref 146, .int (xJ l1), .int (xJ (l2 + (d 161 l5))), .int (xJ (xi_or l3 (xi_shl (1 : Int) l5))), .int (xJ l4), .int (xJ (l5 + 1)), .double 0] [] d e) ∧ ((¬ (d 161 l5) ≤ (d 161 l4)) → yB D xm_c236 (yQi L P) L 17 [.ref 146, .int (xJ l1), .int (xJ (l2 + (d 161 l5))), .int (xJ (xi_or l3 (xi_shl (1 : Int) l5))), .int (xJ l5), .int (xJ (l5 + 1)), .double 0] [] d e)))))))) ∧ (((d 161 l5) = 0) → yB D xm_c236 (yQi L P) L 17 [.ref 146, .int (xJ l1), .int (xJ l2), .int (xJ l3), .int (xJ l4), .int (xJ (l5 + 1)), .double 0] [] d e))))) ∧ ((¬ (d 147 (82 : Int)) < l6) → ((0 ≤ l5 ∧ l5 < 9) ∧ yC D 234 L [.ref 146, .int (xJ l5), .int (xJ l6)] d e (fun x9 d10 e11 => ((-2147483648 ≤ x9 ∧ x9 < 2147483648) ∧ ((-2147483648 ≤ l1 ∧ l1 < 2147483648) ∧ (((¬ x9 = l1) → yB D xm_c236 (yQi L P) L 28 [.ref 146, .int (xJ l1), .int (xJ l2), .int (xJ l3), .int (xJ l4), .int (xJ l5), .int (xJ (l6 + 1))] [] (xs d10 161 l5 ((d 161 l5) + (0 : Int))) e11) ∧ ((x9 = l1) → yB D xm_c236 (yQi L P) L 28 [.ref 146, .int (xJ l1), .int (xJ l2), .int (xJ l3), .int (xJ l4), .int (xJ l5), .int (xJ (l6 + 1))] [] (xs d10 161 l5 ((d 161 l5) + (1 : Int))) e11))))))))))) : yB D xm_c236 (yQi L P) L 28 [.ref 146, .int (xJ l1), .int (xJ l2), .int (xJ l3), .int (xJ l4), .int (xJ l5), .int (xJ l6)] [] d e := by
  refine yb_iload (x := l6) rfl rfl ?_
  refine yb_aload rfl rfl ?_
  refine yb_get (v := .ref 147) rfl (by decide) (by decide) (rfl) rfl ?_
  refine yb_push (v := 82) rfl ?_
  refine yb_iald (j := (82 : Int)) rfl xd_A147 (by decide) (by decide) (v := (d 147 (82 : Int))) rfl ?_
  have r1 := h.1
  replace h := h.2
  have r2 := h.1
  replace h := h.2
  refine yb_icmp_gt (x := l6) (y := (d 147 (82 : Int))) rfl rfl r1 r2 (fun c => ?_) (fun c => ?_)
  · replace h := h.1 c
    refine yb_aload rfl rfl ?_
    refine yb_get (v := .ref 161) rfl (by decide) (by decide) (rfl) rfl ?_
    refine yb_iload (x := l5) rfl rfl ?_
    have r3 := h.1
    replace h := h.2
    refine yb_iald (j := l5) rfl xd_A161 (by decide) r3 (v := (d 161 l5)) rfl ?_
    have r4 := h.1
    replace h := h.2
    refine yb_if_ne (x := (d 161 l5)) rfl rfl r4 (fun c => ?_) (fun c => ?_)
    · replace h := h.1 c
      refine yb_iload (x := l2) rfl rfl ?_
      refine yb_aload rfl rfl ?_
      refine yb_get (v := .ref 161) rfl (by decide) (by decide) (rfl) rfl ?_
      refine yb_iload (x := l5) rfl rfl ?_
      refine yb_iald (j := l5) rfl xd_A161 (by decide) r3 (v := (d 161 l5)) rfl ?_
      refine yb_iadd (x := l2) (y := (d 161 l5)) rfl ?_
      refine yb_istore rfl rfl rfl ?_
      refine yb_iload (x := l3) rfl rfl ?_
      refine yb_push (v := 1) rfl ?_
      refine yb_iload (x := l5) rfl rfl ?_
      refine yb_ishl (x := (1 : Int)) (y := l5) rfl ?_
      refine yb_ior (x := l3) (y := (xi_shl (1 : Int) l5)) rfl ?_
      refine yb_istore rfl rfl rfl ?_
      refine yb_iload (x := l4) rfl rfl ?_
      refine yb_push (v := (-1)) rfl ?_
      have r5 := h.1
      replace h := h.2
      refine yb_icmp_eq (x := l4) (y := (-1 : Int)) rfl rfl r5 (by decide) (fun c => ?_) (fun c => ?_)
      · replace h := h.1 c
        refine yb_iload (x := l5) rfl rfl ?_
        refine yb_istore rfl rfl rfl ?_
        refine yb_iinc (x := l5) (n := 1) rfl rfl rfl rfl ?_
        refine yb_goto rfl rfl ?_
        refine yb_forget (dl := [.ref 146, .int (xJ l1), .int (xJ (l2 + (d 161 l5))), .int (xJ (xi_or l3 (xi_shl (1 : Int) l5))), .int (xJ l5), .int (xJ (l5 + 1)), .double 0]) ⟨Or.inl rfl, ⟨Or.inl rfl, ⟨Or.inl rfl, ⟨Or.inl rfl, ⟨Or.inl rfl, ⟨Or.inl rfl, ⟨Or.inr ⟨rfl, rfl⟩, trivial⟩⟩⟩⟩⟩⟩⟩ ?_
        exact h
      · replace h := h.2 c
        refine yb_aload rfl rfl ?_
        refine yb_get (v := .ref 161) rfl (by decide) (by decide) (rfl) rfl ?_
        refine yb_iload (x := l5) rfl rfl ?_
        refine yb_iald (j := l5) rfl xd_A161 (by decide) r3 (v := (d 161 l5)) rfl ?_
        refine yb_aload rfl rfl ?_
        refine yb_get (v := .ref 161) rfl (by decide) (by decide) (rfl) rfl ?_
        refine yb_iload (x := l4) rfl rfl ?_
        have r6 := h.1
        replace h := h.2
        refine yb_iald (j := l4) rfl xd_A161 (by decide) r6 (v := (d 161 l4)) rfl ?_
        have r7 := h.1
        replace h := h.2
        refine yb_icmp_le (x := (d 161 l5)) (y := (d 161 l4)) rfl rfl r4 r7 (fun c => ?_) (fun c => ?_)
        · replace h := h.1 c
          refine yb_iinc (x := l5) (n := 1) rfl rfl rfl rfl ?_
          refine yb_goto rfl rfl ?_
          refine yb_forget (dl := [.ref 146, .int (xJ l1), .int (xJ (l2 + (d 161 l5))), .int (xJ (xi_or l3 (xi_shl (1 : Int) l5))), .int (xJ l4), .int (xJ (l5 + 1)), .double 0]) ⟨Or.inl rfl, ⟨Or.inl rfl, ⟨Or.inl rfl, ⟨Or.inl rfl, ⟨Or.inl rfl, ⟨Or.inl rfl, ⟨Or.inr ⟨rfl, rfl⟩, trivial⟩⟩⟩⟩⟩⟩⟩ ?_
          exact h
        · replace h := h.2 c
          refine yb_iload (x := l5) rfl rfl ?_
          refine yb_istore rfl rfl rfl ?_
          refine yb_iinc (x := l5) (n := 1) rfl rfl rfl rfl ?_
          refine yb_goto rfl rfl ?_
          refine yb_forget (dl := [.ref 146, .int (xJ l1), .int (xJ (l2 + (d 161 l5))), .int (xJ (xi_or l3 (xi_shl (1 : Int) l5))), .int (xJ l5), .int (xJ (l5 + 1)), .double 0]) ⟨Or.inl rfl, ⟨Or.inl rfl, ⟨Or.inl rfl, ⟨Or.inl rfl, ⟨Or.inl rfl, ⟨Or.inl rfl, ⟨Or.inr ⟨rfl, rfl⟩, trivial⟩⟩⟩⟩⟩⟩⟩ ?_
          exact h
    · replace h := h.2 c
      refine yb_goto rfl rfl ?_
      refine yb_iinc (x := l5) (n := 1) rfl rfl rfl rfl ?_
      refine yb_goto rfl rfl ?_
      refine yb_forget (dl := [.ref 146, .int (xJ l1), .int (xJ l2), .int (xJ l3), .int (xJ l4), .int (xJ (l5 + 1)), .double 0]) ⟨Or.inl rfl, ⟨Or.inl rfl, ⟨Or.inl rfl, ⟨Or.inl rfl, ⟨Or.inl rfl, ⟨Or.inl rfl, ⟨Or.inr ⟨rfl, rfl⟩, trivial⟩⟩⟩⟩⟩⟩⟩ ?_
      exact h
  · replace h := h.2 c
    refine yb_aload rfl rfl ?_
    refine yb_get (v := .ref 161) rfl (by decide) (by decide) (rfl) rfl ?_
    refine yb_iload (x := l5) rfl rfl ?_
    refine yb_dup2 rfl rfl rfl ?_
    have r8 := h.1
    replace h := h.2
    refine yb_iald (j := l5) rfl xd_A161 (by decide) r8 (v := (d 161 l5)) rfl ?_
    refine yb_aload rfl rfl ?_
    refine yb_iload (x := l5) rfl rfl ?_
    refine yb_iload (x := l6) rfl rfl ?_
    refine yb_callVi (As := [.int (xJ l5), .int (xJ l6)]) (a := 146) rfl rfl rfl rfl rfl rfl rfl rfl (by decide) (by decide) (rfl) (by show (3 : Nat) ≤ 8; decide) (yC_mono h (fun x9 d10 e11 h => ?_))
    refine yb_iload (x := l1) rfl rfl ?_
    have r12 := h.1
    replace h := h.2
    have r13 := h.1
    replace h := h.2
    refine yb_icmp_ne (x := x9) (y := l1) rfl rfl r12 r13 (fun c => ?_) (fun c => ?_)
    · replace h := h.1 c
      refine yb_push (v := 0) rfl ?_
      refine yb_iadd (x := (d 161 l5)) (y := (0 : Int)) rfl ?_
      refine yb_iast (j := l5) (x := ((d 161 l5) + (0 : Int))) rfl xd_A161 (by decide) r8 ?_
      refine yb_iinc (x := l6) (n := 1) rfl rfl rfl rfl ?_
      refine yb_goto rfl rfl ?_
      exact h
    · replace h := h.2 c
      refine yb_push (v := 1) rfl ?_
      refine yb_goto rfl rfl ?_
      refine yb_iadd (x := (d 161 l5)) (y := (1 : Int)) rfl ?_
      refine yb_iast (j := l5) (x := ((d 161 l5) + (1 : Int))) rfl xd_A161 (by decide) r8 ?_
      refine yb_iinc (x := l6) (n := 1) rfl rfl rfl rfl ?_
      refine yb_goto rfl rfl ?_
      exact h
theorem yk_237_0 {D L : Nat} {P : Int → xh_D → xd_E → Prop} {d : xh_D} {e : xd_E} {a1 : Int}   (hD : 1 ≤ D) (h : ((-2147483648 ≤ a1 ∧ a1 < 2147483648) ∧ ((((0 : Int) ≤ a1 ∧ a1 ≤ (40 : Int)) → yV D 225 L [.ref 147, .ref 162, .int (xJ (0 : Int))] (xs d 146 (8 : Int) (0 : Int)) e (fun d2 e3 => yB D xm_c237 (yQi L P) L 18 [.ref 146, .int (xJ a1), .int (xJ (0 : Int)), .double 0, .double 0, .double 0, .double 0] [] d2 e3)) ∧ (¬ ((0 : Int) ≤ a1 ∧ a1 ≤ (40 : Int)) → P (-1 : Int) (xs d 146 (8 : Int) (0 : Int)) e)))) : yB D xm_c237 (yQi L P) L 0 [.ref 146, .int (xJ a1), .double 0, .double 0, .double 0, .double 0, .double 0] [] d e := by
  refine yb_aload rfl rfl ?_
  refine yb_push (v := 0) rfl ?_
  refine yb_put (z := (0 : Int)) (k := 8) rfl rfl (by decide) (by decide) (rfl) (Nat.le_of_ble_eq_true rfl) rfl (rfl) ?_
  refine yb_iload (x := a1) rfl rfl ?_
  refine yb_push (v := 0) rfl ?_
  refine yb_push (v := 40) rfl ?_
  have r1 := h.1
  replace h := h.2
  refine yb_callSz (As := [.int (xJ a1), .int (xJ (0 : Int)), .int (xJ (40 : Int))]) rfl rfl rfl rfl rfl rfl rfl rfl (by decide) (sp_180 (by omega) ⟨r1, (by show (-2147483648 ≤ (0 : Int) ∧ (0 : Int) < 2147483648); decide), (by show (-2147483648 ≤ (40 : Int) ∧ (40 : Int) < 2147483648); decide)⟩ (fun c => ?_) (fun c => ?_))
  · replace h := h.1 c
    show yB D xm_c237 _ L 7 [.ref 146, .int (xJ a1), .double 0, .double 0, .double 0, .double 0, .double 0] [.int (xJ (1 : Int))] (xs d 146 (8 : Int) (0 : Int)) e
    refine yb_if_ne (x := (1 : Int)) rfl rfl (by decide) (fun _ => ?_) (fun c => absurd c (by decide))
    refine yb_aload rfl rfl ?_
    refine yb_get (v := .ref 147) rfl (by decide) (by decide) (rfl) rfl ?_
    refine yb_aload rfl rfl ?_
    refine yb_get (v := .ref 162) rfl (by decide) (by decide) (rfl) rfl ?_
    refine yb_push (v := 0) rfl ?_
    refine yb_callSv (As := [.ref 147, .ref 162, .int (xJ (0 : Int))]) rfl rfl rfl rfl rfl rfl rfl rfl (by decide) (yV_mono h (fun d2 e3 h => ?_))
    refine yb_push (v := 0) rfl ?_
    refine yb_istore rfl rfl rfl ?_
    exact h
  · replace h := h.2 c
    show yB D xm_c237 _ L 7 [.ref 146, .int (xJ a1), .double 0, .double 0, .double 0, .double 0, .double 0] [.int (xJ (0 : Int))] (xs d 146 (8 : Int) (0 : Int)) e
    refine yb_if_ne (x := (0 : Int)) rfl rfl (by decide) (fun c => absurd (by decide) c) (fun _ => ?_)
    refine yb_push (v := (-1)) rfl ?_
    exact yb_ret rfl h
theorem yk_237_18 {D L : Nat} {P : Int → xh_D → xd_E → Prop} {d : xh_D} {e : xd_E}  {l1 : Int} {l2 : Int}  (h : ((-2147483648 ≤ l2 ∧ l2 < 2147483648) ∧ ((((9 : Int) ≤ l2) → yB D xm_c237 (yQi L P) L 36 [.ref 146, .int (xJ l1), .int (xJ (0 : Int)), .int (xJ (0 : Int)), .int (xJ (0 : Int)), .int (xJ (0 : Int)), .double 0] [] d e) ∧ ((¬ (9 : Int) ≤ l2) → ((0 ≤ l2 ∧ l2 < 9) ∧ yB D xm_c237 (yQi L P) L 18 [.ref 146, .int (xJ l1), .int (xJ (l2 + 1)), .double 0, .double 0, .double 0, .double 0] [] (xs d 161 l2 (0 : Int)) e))))) : yB D xm_c237 (yQi L P) L 18 [.ref 146, .int (xJ l1), .int (xJ l2), .double 0, .double 0, .double 0, .double 0] [] d e := by
  refine yb_iload (x := l2) rfl rfl ?_
  refine yb_push (v := 9) rfl ?_
  have r1 := h.1
  replace h := h.2
  refine yb_icmp_ge (x := l2) (y := (9 : Int)) rfl rfl r1 (by decide) (fun c => ?_) (fun c => ?_)
  · replace h := h.1 c
    refine yb_push (v := 0) rfl ?_
    refine yb_istore rfl rfl rfl ?_
    refine yb_push (v := 0) rfl ?_
    refine yb_istore rfl rfl rfl ?_
    refine yb_push (v := 0) rfl ?_
    refine yb_istore rfl rfl rfl ?_
    refine yb_push (v := 0) rfl ?_
    refine yb_istore rfl rfl rfl ?_
    exact h
  · replace h := h.2 c
    refine yb_aload rfl rfl ?_
    refine yb_get (v := .ref 161) rfl (by decide) (by decide) (rfl) rfl ?_
    refine yb_iload (x := l2) rfl rfl ?_
    refine yb_push (v := 0) rfl ?_
    have r2 := h.1
    replace h := h.2
    refine yb_iast (j := l2) (x := (0 : Int)) rfl xd_A161 (by decide) r2 ?_
    refine yb_iinc (x := l2) (n := 1) rfl rfl rfl rfl ?_
    refine yb_goto rfl rfl ?_
    exact h
theorem yk_237_36 {D L : Nat} {P : Int → xh_D → xd_E → Prop} {d : xh_D} {e : xd_E}  {l1 : Int} {l2 : Int} {l3 : Int} {l4 : Int} {l5 : Int}  (h : ((-2147483648 ≤ l5 ∧ l5 < 2147483648) ∧ ((-2147483648 ≤ l1 ∧ l1 < 2147483648) ∧ (((l1 ≤ l5) → yB D xm_c237 (yQi L P) L 90 [.ref 146, .double 0, .int (xJ l2), .int (xJ l3), .int (xJ l4), .int (xJ (0 : Int)), .double 0] [] (xs d 146 (7 : Int) (0 : Int)) e) ∧ ((¬ l1 ≤ l5) → yV D 223 L [.ref 146, .ref 162] d e (fun d3 e4 => yB D xm_c237 (yQi L P) L 60 [.ref 146, .int (xJ l1), .int (xJ (l2 + (d3 146 (28 : Int)))), .int (xJ (l3 + (d3 146 (27 : Int)))), .int (xJ (l4 + (d3 146 (29 : Int)))), .int (xJ l5), .int (xJ (0 : Int))] [] d3 e4)))))) : yB D xm_c237 (yQi L P) L 36 [.ref 146, .int (xJ l1), .int (xJ l2), .int (xJ l3), .int (xJ l4), .int (xJ l5), .double 0] [] d e := by
  refine yb_iload (x := l5) rfl rfl ?_
  refine yb_iload (x := l1) rfl rfl ?_
  have r1 := h.1
  replace h := h.2
  have r2 := h.1
  replace h := h.2
  refine yb_icmp_ge (x := l5) (y := l1) rfl rfl r1 r2 (fun c => ?_) (fun c => ?_)
  · replace h := h.1 c
    refine yb_aload rfl rfl ?_
    refine yb_push (v := 0) rfl ?_
    refine yb_put (z := (0 : Int)) (k := 7) rfl rfl (by decide) (by decide) (rfl) (Nat.le_of_ble_eq_true rfl) rfl (rfl) ?_
    refine yb_push (v := 0) rfl ?_
    refine yb_istore rfl rfl rfl ?_
    refine yb_forget (dl := [.ref 146, .double 0, .int (xJ l2), .int (xJ l3), .int (xJ l4), .int (xJ (0 : Int)), .double 0]) ⟨Or.inl rfl, ⟨Or.inr ⟨rfl, rfl⟩, ⟨Or.inl rfl, ⟨Or.inl rfl, ⟨Or.inl rfl, ⟨Or.inl rfl, ⟨Or.inl rfl, trivial⟩⟩⟩⟩⟩⟩⟩ ?_
    exact h
  · replace h := h.2 c
    refine yb_aload rfl rfl ?_
    refine yb_aload rfl rfl ?_
    refine yb_get (v := .ref 162) rfl (by decide) (by decide) (rfl) rfl ?_
    refine yb_callVv (As := [.ref 162]) (a := 146) rfl rfl rfl rfl rfl rfl rfl rfl (by decide) (by decide) (rfl) (by decide) (yV_mono h (fun d3 e4 h => ?_))
    refine yb_iload (x := l2) rfl rfl ?_
    refine yb_aload rfl rfl ?_
    refine yb_get (v := .int (xJ (d3 146 (28 : Int)))) rfl (by decide) (by decide) (rfl) rfl ?_
    refine yb_iadd (x := l2) (y := (d3 146 (28 : Int))) rfl ?_
    refine yb_istore rfl rfl rfl ?_
    refine yb_iload (x := l3) rfl rfl ?_
    refine yb_aload rfl rfl ?_
    refine yb_get (v := .int (xJ (d3 146 (27 : Int)))) rfl (by decide) (by decide) (rfl) rfl ?_
    refine yb_iadd (x := l3) (y := (d3 146 (27 : Int))) rfl ?_
    refine yb_istore rfl rfl rfl ?_
    refine yb_iload (x := l4) rfl rfl ?_
    refine yb_aload rfl rfl ?_
    refine yb_get (v := .int (xJ (d3 146 (29 : Int)))) rfl (by decide) (by decide) (rfl) rfl ?_
    refine yb_iadd (x := l4) (y := (d3 146 (29 : Int))) rfl ?_
    refine yb_istore rfl rfl rfl ?_
    refine yb_push (v := 0) rfl ?_
    refine yb_istore rfl rfl rfl ?_
    exact h
theorem yk_237_60 {D L : Nat} {P : Int → xh_D → xd_E → Prop} {d : xh_D} {e : xd_E}  {l1 : Int} {l2 : Int} {l3 : Int} {l4 : Int} {l5 : Int} {l6 : Int}  (h : ((-2147483648 ≤ l6 ∧ l6 < 2147483648) ∧ ((-2147483648 ≤ (d 146 (1 : Int)) ∧ (d 146 (1 : Int)) < 2147483648) ∧ ((((d 146 (1 : Int)) ≤ l6) → yB D xm_c237 (yQi L P) L 36 [.ref 146, .int (xJ l1), .int (xJ l2), .int (xJ l3), .int (xJ l4), .int (xJ (l5 + 1)), .double 0] [] d e) ∧ ((¬ (d 146 (1 : Int)) ≤ l6) → ((0 ≤ l6 ∧ l6 < 9) ∧ ((-2147483648 ≤ (d 155 l6) ∧ (d 155 l6) < 2147483648) ∧ ((((9 : Int) ≤ (d 155 l6)) → yB D xm_c237 (yQi L P) L 60 [.ref 146, .int (xJ l1), .int (xJ l2), .int (xJ l3), .int (xJ l4), .int (xJ l5), .int (xJ (l6 + 1))] [] d e) ∧ ((¬ (9 : Int) ≤ (d 155 l6)) → ((0 ≤ (d 155 l6) ∧ (d 155 l6) < 9) ∧ yB D xm_c237 (yQi L P) L 60 [.ref 146, .int (xJ l1), .int (xJ l2), .int (xJ l3), .int (xJ l4), .int (xJ l5), .int (xJ (l6 + 1))] [] (xs d 161 (d 155 l6) ((d 161 (d 155 l6)) + (1 : Int))) e)))))))))) : yB D xm_c237 (yQi L P) L 60 [.ref 146, .int (xJ l1), .int (xJ l2), .int (xJ l3), .int (xJ l4), .int (xJ l5), .int (xJ l6)] [] d e := by
  refine yb_iload (x := l6) rfl rfl ?_
  refine yb_aload rfl rfl ?_
  refine yb_get (v := .int (xJ (d 146 (1 : Int)))) rfl (by decide) (by decide) (rfl) rfl ?_
  have r1 := h.1
  replace h := h.2
  have r2 := h.1
  replace h := h.2
  refine yb_icmp_ge (x := l6) (y := (d 146 (1 : Int))) rfl rfl r1 r2 (fun c => ?_) (fun c => ?_)
  · replace h := h.1 c
    refine yb_iinc (x := l5) (n := 1) rfl rfl rfl rfl ?_
    refine yb_goto rfl rfl ?_
    refine yb_forget (dl := [.ref 146, .int (xJ l1), .int (xJ l2), .int (xJ l3), .int (xJ l4), .int (xJ (l5 + 1)), .double 0]) ⟨Or.inl rfl, ⟨Or.inl rfl, ⟨Or.inl rfl, ⟨Or.inl rfl, ⟨Or.inl rfl, ⟨Or.inl rfl, ⟨Or.inr ⟨rfl, rfl⟩, trivial⟩⟩⟩⟩⟩⟩⟩ ?_
    exact h
  · replace h := h.2 c
    refine yb_aload rfl rfl ?_
    refine yb_get (v := .ref 155) rfl (by decide) (by decide) (rfl) rfl ?_
    refine yb_iload (x := l6) rfl rfl ?_
    have r3 := h.1
    replace h := h.2
    refine yb_iald (j := l6) rfl xd_A155 (by decide) r3 (v := (d 155 l6)) rfl ?_
    refine yb_push (v := 9) rfl ?_
    have r4 := h.1
    replace h := h.2
    refine yb_icmp_ge (x := (d 155 l6)) (y := (9 : Int)) rfl rfl r4 (by decide) (fun c => ?_) (fun c => ?_)
    · replace h := h.1 c
      refine yb_iinc (x := l6) (n := 1) rfl rfl rfl rfl ?_
      refine yb_goto rfl rfl ?_
      exact h
    · replace h := h.2 c
      refine yb_aload rfl rfl ?_
      refine yb_get (v := .ref 161) rfl (by decide) (by decide) (rfl) rfl ?_
      refine yb_aload rfl rfl ?_
      refine yb_get (v := .ref 155) rfl (by decide) (by decide) (rfl) rfl ?_
      refine yb_iload (x := l6) rfl rfl ?_
      refine yb_iald (j := l6) rfl xd_A155 (by decide) r3 (v := (d 155 l6)) rfl ?_
      refine yb_dup2 rfl rfl rfl ?_
      have r5 := h.1
      replace h := h.2
      refine yb_iald (j := (d 155 l6)) rfl xd_A161 (by decide) r5 (v := (d 161 (d 155 l6))) rfl ?_
      refine yb_push (v := 1) rfl ?_
      refine yb_iadd (x := (d 161 (d 155 l6))) (y := (1 : Int)) rfl ?_
      refine yb_iast (j := (d 155 l6)) (x := ((d 161 (d 155 l6)) + (1 : Int))) rfl xd_A161 (by decide) r5 ?_
      refine yb_iinc (x := l6) (n := 1) rfl rfl rfl rfl ?_
      refine yb_goto rfl rfl ?_
      exact h
theorem yk_237_90 {D L : Nat} {P : Int → xh_D → xd_E → Prop} {d : xh_D} {e : xd_E}  {l2 : Int} {l3 : Int} {l4 : Int} {l5 : Int}  (hD : 1 ≤ D) (h : ((-2147483648 ≤ l5 ∧ l5 < 2147483648) ∧ ((-2147483648 ≤ (d 146 (1 : Int)) ∧ (d 146 (1 : Int)) < 2147483648) ∧ ((((d 146 (1 : Int)) ≤ l5) → ((0 ≤ (d 146 (7 : Int)) ∧ (d 146 (7 : Int)) < 20) ∧ ((0 ≤ ((d 146 (7 : Int)) + 1) ∧ ((d 146 (7 : Int)) + 1) < 20) ∧ P l2 (xs (xs (xs (xs d 151 (d 146 (7 : Int)) l3) 146 (7 : Int) ((d 146 (7 : Int)) + 1)) 151 ((d 146 (7 : Int)) + 1) l4) 146 (7 : Int) (((d 146 (7 : Int)) + 1) + 1)) e))) ∧ ((¬ (d 146 (1 : Int)) ≤ l5) → ((0 ≤ l5 ∧ l5 < 9) ∧ ((0 ≤ (d 146 (7 : Int)) ∧ (d 146 (7 : Int)) < 20) ∧ yB D xm_c237 (yQi L P) L 90 [.ref 146, .double 0, .int (xJ l2), .int (xJ l3), .int (xJ l4), .int (xJ (l5 + 1)), .double 0] [] (xs (xs d 151 (d 146 (7 : Int)) (d 161 l5)) 146 (7 : Int) ((d 146 (7 : Int)) + 1)) e))))))) : yB D xm_c237 (yQi L P) L 90 [.ref 146, .double 0, .int (xJ l2), .int (xJ l3), .int (xJ l4), .int (xJ l5), .double 0] [] d e := by
  refine yb_iload (x := l5) rfl rfl ?_
  refine yb_aload rfl rfl ?_
  refine yb_get (v := .int (xJ (d 146 (1 : Int)))) rfl (by decide) (by decide) (rfl) rfl ?_
  have r1 := h.1
  replace h := h.2
  have r2 := h.1
  replace h := h.2
  refine yb_icmp_ge (x := l5) (y := (d 146 (1 : Int))) rfl rfl r1 r2 (fun c => ?_) (fun c => ?_)
  · replace h := h.1 c
    refine yb_aload rfl rfl ?_
    refine yb_iload (x := l3) rfl rfl ?_
    have r3 := h.1
    replace h := h.2
    refine yb_callVv (As := [.int (xJ l3)]) (a := 146) rfl rfl rfl rfl rfl rfl rfl rfl (by decide) (by decide) (rfl) (by decide) (sp_183 (by omega) r3 ?_)
    show yB D xm_c237 _ L 105 [.ref 146, .double 0, .int (xJ l2), .int (xJ l3), .int (xJ l4), .int (xJ l5), .double 0] [] (xs (xs d 151 (d 146 (7 : Int)) l3) 146 (7 : Int) ((d 146 (7 : Int)) + 1)) e
    refine yb_aload rfl rfl ?_
    refine yb_iload (x := l4) rfl rfl ?_
    have r4 := h.1
    replace h := h.2
    refine yb_callVv (As := [.int (xJ l4)]) (a := 146) rfl rfl rfl rfl rfl rfl rfl rfl (by decide) (by decide) (rfl) (by decide) (sp_183 (by omega) r4 ?_)
    show yB D xm_c237 _ L 108 [.ref 146, .double 0, .int (xJ l2), .int (xJ l3), .int (xJ l4), .int (xJ l5), .double 0] [] (xs (xs (xs (xs d 151 (d 146 (7 : Int)) l3) 146 (7 : Int) ((d 146 (7 : Int)) + 1)) 151 ((d 146 (7 : Int)) + 1) l4) 146 (7 : Int) (((d 146 (7 : Int)) + 1) + 1)) e
    refine yb_iload (x := l2) rfl rfl ?_
    exact yb_ret rfl h
  · replace h := h.2 c
    refine yb_aload rfl rfl ?_
    refine yb_aload rfl rfl ?_
    refine yb_get (v := .ref 161) rfl (by decide) (by decide) (rfl) rfl ?_
    refine yb_iload (x := l5) rfl rfl ?_
    have r5 := h.1
    replace h := h.2
    refine yb_iald (j := l5) rfl xd_A161 (by decide) r5 (v := (d 161 l5)) rfl ?_
    have r6 := h.1
    replace h := h.2
    refine yb_callVv (As := [.int (xJ (d 161 l5))]) (a := 146) rfl rfl rfl rfl rfl rfl rfl rfl (by decide) (by decide) (rfl) (by decide) (sp_183 (by omega) r6 ?_)
    show yB D xm_c237 _ L 100 [.ref 146, .double 0, .int (xJ l2), .int (xJ l3), .int (xJ l4), .int (xJ l5), .double 0] [] (xs (xs d 151 (d 146 (7 : Int)) (d 161 l5)) 146 (7 : Int) ((d 146 (7 : Int)) + 1)) e
    refine yb_iinc (x := l5) (n := 1) rfl rfl rfl rfl ?_
    refine yb_goto rfl rfl ?_
    exact h
theorem yk_238_0 {D L : Nat} {P : Int → xh_D → xd_E → Prop} {d : xh_D} {e : xd_E} {a1 : Int} {a2 : Int}   (hD : 2 ≤ D) (h : ((-2147483648 ≤ a1 ∧ a1 < 2147483648) ∧ ((0 ≤ (d 146 (1 : Int)) ∧ (d 146 (1 : Int)) ≤ 9) ∧ (((0 ≤ a1 ∧ a1 < (d 146 (1 : Int))) → ((-2147483648 ≤ a2 ∧ a2 < 2147483648) ∧ ((((0 : Int) ≤ a2 ∧ a2 ≤ (5 : Int)) → yV D 225 L [.ref 147, .ref 162, .int (xJ (0 : Int))] (xs d 146 (8 : Int) (0 : Int)) e (fun d4 e5 => ((0 ≤ ((18 : Int) + a1) ∧ ((18 : Int) + a1) < 353) ∧ (((xi_and (xi_shr (d4 162 ((18 : Int) + a1)) a2) (1 : Int) = 1) → yB D xm_c238 (yQi L P) L 35 [.ref 146, .int (xJ a1), .int (xJ a2), .int (xJ (0 : Int)), .int (xJ (1 : Int))] [] d4 e5) ∧ (¬ (xi_and (xi_shr (d4 162 ((18 : Int) + a1)) a2) (1 : Int) = 1) → yB D xm_c238 (yQi L P) L 35 [.ref 146, .int (xJ a1), .int (xJ a2), .int (xJ (-2 : Int)), .int (xJ (1 : Int))] [] d4 e5))))) ∧ (¬ ((0 : Int) ≤ a2 ∧ a2 ≤ (5 : Int)) → P (-1 : Int) (xs d 146 (8 : Int) (0 : Int)) e)))) ∧ (¬ (0 ≤ a1 ∧ a1 < (d 146 (1 : Int))) → P (-1 : Int) (xs d 146 (8 : Int) (0 : Int)) e))))) : yB D xm_c238 (yQi L P) L 0 [.ref 146, .int (xJ a1), .int (xJ a2), .double 0, .double 0] [] d e := by
  refine yb_aload rfl rfl ?_
  refine yb_push (v := 0) rfl ?_
  refine yb_put (z := (0 : Int)) (k := 8) rfl rfl (by decide) (by decide) (rfl) (Nat.le_of_ble_eq_true rfl) rfl (rfl) ?_
  refine yb_aload rfl rfl ?_
  refine yb_iload (x := a1) rfl rfl ?_
  have r1 := h.1
  replace h := h.2
  have r2 := h.1
  replace h := h.2
  refine yb_callVz (As := [.int (xJ a1)]) (a := 146) rfl rfl rfl rfl rfl rfl rfl rfl (by decide) (by decide) (rfl) (by decide) (sp_184 (by omega) ⟨r1, r2⟩ (fun c => ?_) (fun c => ?_))
  · replace h := h.1 c
    show yB D xm_c238 _ L 6 [.ref 146, .int (xJ a1), .int (xJ a2), .double 0, .double 0] [.int (xJ (1 : Int))] (xs d 146 (8 : Int) (0 : Int)) e
    refine yb_if_eq (x := (1 : Int)) rfl rfl (by decide) (fun c => absurd c (by decide)) (fun _ => ?_)
    refine yb_iload (x := a2) rfl rfl ?_
    refine yb_push (v := 0) rfl ?_
    refine yb_push (v := 5) rfl ?_
    have r3 := h.1
    replace h := h.2
    refine yb_callSz (As := [.int (xJ a2), .int (xJ (0 : Int)), .int (xJ (5 : Int))]) rfl rfl rfl rfl rfl rfl rfl rfl (by decide) (sp_180 (by omega) ⟨r3, (by show (-2147483648 ≤ (0 : Int) ∧ (0 : Int) < 2147483648); decide), (by show (-2147483648 ≤ (5 : Int) ∧ (5 : Int) < 2147483648); decide)⟩ (fun c => ?_) (fun c => ?_))
    · replace h := h.1 c
      show yB D xm_c238 _ L 11 [.ref 146, .int (xJ a1), .int (xJ a2), .double 0, .double 0] [.int (xJ (1 : Int))] (xs d 146 (8 : Int) (0 : Int)) e
      refine yb_if_ne (x := (1 : Int)) rfl rfl (by decide) (fun _ => ?_) (fun c => absurd c (by decide))
      refine yb_aload rfl rfl ?_
      refine yb_get (v := .ref 147) rfl (by decide) (by decide) (rfl) rfl ?_
      refine yb_aload rfl rfl ?_
      refine yb_get (v := .ref 162) rfl (by decide) (by decide) (rfl) rfl ?_
      refine yb_push (v := 0) rfl ?_
      refine yb_callSv (As := [.ref 147, .ref 162, .int (xJ (0 : Int))]) rfl rfl rfl rfl rfl rfl rfl rfl (by decide) (yV_mono h (fun d4 e5 h => ?_))
      refine yb_aload rfl rfl ?_
      refine yb_get (v := .ref 162) rfl (by decide) (by decide) (rfl) rfl ?_
      refine yb_push (v := 18) rfl ?_
      refine yb_iload (x := a1) rfl rfl ?_
      refine yb_iadd (x := (18 : Int)) (y := a1) rfl ?_
      have r6 := h.1
      replace h := h.2
      refine yb_iald (j := ((18 : Int) + a1)) rfl xd_A162 (by decide) r6 (v := (d4 162 ((18 : Int) + a1))) rfl ?_
      refine yb_iload (x := a2) rfl rfl ?_
      refine yb_callSz (As := [.int (xJ (d4 162 ((18 : Int) + a1))), .int (xJ a2)]) rfl rfl rfl rfl rfl rfl rfl rfl (by decide) (sp_181 (by omega) (fun c => ?_) (fun c => ?_))
      · replace h := h.1 c
        show yB D xm_c238 _ L 28 [.ref 146, .int (xJ a1), .int (xJ a2), .double 0, .double 0] [.int (xJ (1 : Int))] d4 e5
        refine yb_if_eq (x := (1 : Int)) rfl rfl (by decide) (fun c => absurd c (by decide)) (fun _ => ?_)
        refine yb_push (v := 0) rfl ?_
        refine yb_goto rfl rfl ?_
        refine yb_istore rfl rfl rfl ?_
        refine yb_push (v := 1) rfl ?_
        refine yb_istore rfl rfl rfl ?_
        exact h
      · replace h := h.2 c
        show yB D xm_c238 _ L 28 [.ref 146, .int (xJ a1), .int (xJ a2), .double 0, .double 0] [.int (xJ (0 : Int))] d4 e5
        refine yb_if_eq (x := (0 : Int)) rfl rfl (by decide) (fun _ => ?_) (fun c => absurd (by decide) c)
        refine yb_push (v := (-2)) rfl ?_
        refine yb_istore rfl rfl rfl ?_
        refine yb_push (v := 1) rfl ?_
        refine yb_istore rfl rfl rfl ?_
        exact h
    · replace h := h.2 c
      show yB D xm_c238 _ L 11 [.ref 146, .int (xJ a1), .int (xJ a2), .double 0, .double 0] [.int (xJ (0 : Int))] (xs d 146 (8 : Int) (0 : Int)) e
      refine yb_if_ne (x := (0 : Int)) rfl rfl (by decide) (fun c => absurd (by decide) c) (fun _ => ?_)
      refine yb_push (v := (-1)) rfl ?_
      exact yb_ret rfl h
  · replace h := h.2 c
    show yB D xm_c238 _ L 6 [.ref 146, .int (xJ a1), .int (xJ a2), .double 0, .double 0] [.int (xJ (0 : Int))] (xs d 146 (8 : Int) (0 : Int)) e
    refine yb_if_eq (x := (0 : Int)) rfl rfl (by decide) (fun _ => ?_) (fun c => absurd (by decide) c)
    refine yb_push (v := (-1)) rfl ?_
    exact yb_ret rfl h
theorem yk_238_35 {D L : Nat} {P : Int → xh_D → xd_E → Prop} {d : xh_D} {e : xd_E}  {l1 : Int} {l2 : Int} {l3 : Int} {l4 : Int}  (hD : 1 ≤ D) (h : ((-2147483648 ≤ l4 ∧ l4 < 2147483648) ∧ ((((40 : Int) < l4) → yB D xm_c238 (yQi L P) L 57 [.ref 146, .int (xJ l1), .int (xJ l2), .int (xJ l3), .double 0] [] d e) ∧ ((¬ (40 : Int) < l4) → ((-2147483648 ≤ l3 ∧ l3 < 2147483648) ∧ (((0 ≤ l3) → yB D xm_c238 (yQi L P) L 57 [.ref 146, .int (xJ l1), .int (xJ l2), .int (xJ l3), .double 0] [] d e) ∧ ((¬ 0 ≤ l3) → yV D 223 L [.ref 146, .ref 162] d e (fun d3 e4 => ((0 ≤ ((18 : Int) + l1) ∧ ((18 : Int) + l1) < 353) ∧ (((xi_and (xi_shr (d3 162 ((18 : Int) + l1)) l2) (1 : Int) = 1) → yB D xm_c238 (yQi L P) L 35 [.ref 146, .int (xJ l1), .int (xJ l2), .int (xJ l4), .int (xJ (l4 + 1))] [] d3 e4) ∧ (¬ (xi_and (xi_shr (d3 162 ((18 : Int) + l1)) l2) (1 : Int) = 1) → yB D xm_c238 (yQi L P) L 35 [.ref 146, .int (xJ l1), .int (xJ l2), .int (xJ l3), .int (xJ (l4 + 1))] [] d3 e4))))))))))) : yB D xm_c238 (yQi L P) L 35 [.ref 146, .int (xJ l1), .int (xJ l2), .int (xJ l3), .int (xJ l4)] [] d e := by
  refine yb_iload (x := l4) rfl rfl ?_
  refine yb_push (v := 40) rfl ?_
  have r1 := h.1
  replace h := h.2
  refine yb_icmp_gt (x := l4) (y := (40 : Int)) rfl rfl r1 (by decide) (fun c => ?_) (fun c => ?_)
  · replace h := h.1 c
    refine yb_forget (dl := [.ref 146, .int (xJ l1), .int (xJ l2), .int (xJ l3), .double 0]) ⟨Or.inl rfl, ⟨Or.inl rfl, ⟨Or.inl rfl, ⟨Or.inl rfl, ⟨Or.inr ⟨rfl, rfl⟩, trivial⟩⟩⟩⟩⟩ ?_
    exact h
  · replace h := h.2 c
    refine yb_iload (x := l3) rfl rfl ?_
    have r2 := h.1
    replace h := h.2
    refine yb_if_ge (x := l3) rfl rfl r2 (fun c => ?_) (fun c => ?_)
    · replace h := h.1 c
      refine yb_forget (dl := [.ref 146, .int (xJ l1), .int (xJ l2), .int (xJ l3), .double 0]) ⟨Or.inl rfl, ⟨Or.inl rfl, ⟨Or.inl rfl, ⟨Or.inl rfl, ⟨Or.inr ⟨rfl, rfl⟩, trivial⟩⟩⟩⟩⟩ ?_
      exact h
    · replace h := h.2 c
      refine yb_aload rfl rfl ?_
      refine yb_aload rfl rfl ?_
      refine yb_get (v := .ref 162) rfl (by decide) (by decide) (rfl) rfl ?_
      refine yb_callVv (As := [.ref 162]) (a := 146) rfl rfl rfl rfl rfl rfl rfl rfl (by decide) (by decide) (rfl) (by decide) (yV_mono h (fun d3 e4 h => ?_))
      refine yb_aload rfl rfl ?_
      refine yb_get (v := .ref 162) rfl (by decide) (by decide) (rfl) rfl ?_
      refine yb_push (v := 18) rfl ?_
      refine yb_iload (x := l1) rfl rfl ?_
      refine yb_iadd (x := (18 : Int)) (y := l1) rfl ?_
      have r5 := h.1
      replace h := h.2
      refine yb_iald (j := ((18 : Int) + l1)) rfl xd_A162 (by decide) r5 (v := (d3 162 ((18 : Int) + l1))) rfl ?_
      refine yb_iload (x := l2) rfl rfl ?_
      refine yb_callSz (As := [.int (xJ (d3 162 ((18 : Int) + l1))), .int (xJ l2)]) rfl rfl rfl rfl rfl rfl rfl rfl (by decide) (sp_181 (by omega) (fun c => ?_) (fun c => ?_))
      · replace h := h.1 c
        show yB D xm_c238 _ L 52 [.ref 146, .int (xJ l1), .int (xJ l2), .int (xJ l3), .int (xJ l4)] [.int (xJ (1 : Int))] d3 e4
        refine yb_if_eq (x := (1 : Int)) rfl rfl (by decide) (fun c => absurd c (by decide)) (fun _ => ?_)
        refine yb_iload (x := l4) rfl rfl ?_
        refine yb_istore rfl rfl rfl ?_
        refine yb_iinc (x := l4) (n := 1) rfl rfl rfl rfl ?_
        refine yb_goto rfl rfl ?_
        exact h
      · replace h := h.2 c
        show yB D xm_c238 _ L 52 [.ref 146, .int (xJ l1), .int (xJ l2), .int (xJ l3), .int (xJ l4)] [.int (xJ (0 : Int))] d3 e4
        refine yb_if_eq (x := (0 : Int)) rfl rfl (by decide) (fun _ => ?_) (fun c => absurd (by decide) c)
        refine yb_iinc (x := l4) (n := 1) rfl rfl rfl rfl ?_
        refine yb_goto rfl rfl ?_
        exact h
theorem yk_238_57 {D L : Nat} {P : Int → xh_D → xd_E → Prop} {d : xh_D} {e : xd_E}  {l1 : Int} {l2 : Int} {l3 : Int}  (hD : 1 ≤ D) (h : ((0 ≤ (((27 : Int) + ((6 : Int) * l1)) + l2) ∧ (((27 : Int) + ((6 : Int) * l1)) + l2) < 353) ∧ P l3 (xs (xs (xs d 146 (7 : Int) (0 : Int)) 151 (0 : Int) (d 162 (((27 : Int) + ((6 : Int) * l1)) + l2))) 146 (7 : Int) ((0 : Int) + 1)) e)) : yB D xm_c238 (yQi L P) L 57 [.ref 146, .int (xJ l1), .int (xJ l2), .int (xJ l3), .double 0] [] d e := by
  refine yb_aload rfl rfl ?_
  refine yb_push (v := 0) rfl ?_
  refine yb_put (z := (0 : Int)) (k := 7) rfl rfl (by decide) (by decide) (rfl) (Nat.le_of_ble_eq_true rfl) rfl (rfl) ?_
  refine yb_aload rfl rfl ?_
  refine yb_aload rfl rfl ?_
  refine yb_get (v := .ref 162) rfl (by decide) (by decide) (rfl) rfl ?_
  refine yb_push (v := 27) rfl ?_
  refine yb_push (v := 6) rfl ?_
  refine yb_iload (x := l1) rfl rfl ?_
  refine yb_imul (x := (6 : Int)) (y := l1) rfl ?_
  refine yb_iadd (x := (27 : Int)) (y := ((6 : Int) * l1)) rfl ?_
  refine yb_iload (x := l2) rfl rfl ?_
  refine yb_iadd (x := ((27 : Int) + ((6 : Int) * l1))) (y := l2) rfl ?_
  have r1 := h.1
  replace h := h.2
  refine yb_iald (j := (((27 : Int) + ((6 : Int) * l1)) + l2)) rfl xd_A162 (by decide) r1 (v := (d 162 (((27 : Int) + ((6 : Int) * l1)) + l2))) (xs_np (by decide)) ?_
  refine yb_callVv (As := [.int (xJ (d 162 (((27 : Int) + ((6 : Int) * l1)) + l2)))]) (a := 146) rfl rfl rfl rfl rfl rfl rfl rfl (by decide) (by decide) (rfl) (by decide) (sp_183 (by omega) (by show (0 ≤ (0 : Int) ∧ (0 : Int) < 20); decide) ?_)
  show yB D xm_c238 _ L 72 [.ref 146, .int (xJ l1), .int (xJ l2), .int (xJ l3), .double 0] [] (xs (xs (xs d 146 (7 : Int) (0 : Int)) 151 (0 : Int) (d 162 (((27 : Int) + ((6 : Int) * l1)) + l2))) 146 (7 : Int) ((0 : Int) + 1)) e
  refine yb_iload (x := l3) rfl rfl ?_
  exact yb_ret rfl h
theorem yk_239_0 {D L : Nat} {P : Int → xh_D → xd_E → Prop} {d : xh_D} {e : xd_E} {a1 : Int} {a2 : Int}   (hD : 1 ≤ D) (h : ((-2147483648 ≤ a1 ∧ a1 < 2147483648) ∧ ((((0 : Int) ≤ a1 ∧ a1 ≤ (5 : Int)) → ((-2147483648 ≤ a2 ∧ a2 < 2147483648) ∧ ((((1 : Int) ≤ a2 ∧ a2 ≤ (3 : Int)) → ((-2147483648 ≤ (d 146 (38 : Int)) ∧ (d 146 (38 : Int)) < 2147483648) ∧ (((¬ (d 146 (38 : Int)) = (6 : Int)) → ((0 ≤ ((2 : Int) * (d 146 (38 : Int))) ∧ ((2 : Int) * (d 146 (38 : Int))) < 12) ∧ ((0 ≤ (((2 : Int) * (d 146 (38 : Int))) + (1 : Int)) ∧ (((2 : Int) * (d 146 (38 : Int))) + (1 : Int)) < 12) ∧ P (((d 146 (38 : Int)) + (1 : Int)) - (1 : Int)) (xs (xs (xs (xs d 146 (8 : Int) (0 : Int)) 163 ((2 : Int) * (d 146 (38 : Int))) a1) 163 (((2 : Int) * (d 146 (38 : Int))) + (1 : Int)) a2) 146 (38 : Int) ((d 146 (38 : Int)) + (1 : Int))) e))) ∧ (((d 146 (38 : Int)) = (6 : Int)) → P (-2 : Int) (xs d 146 (8 : Int) (0 : Int)) e)))) ∧ (¬ ((1 : Int) ≤ a2 ∧ a2 ≤ (3 : Int)) → P (-1 : Int) (xs d 146 (8 : Int) (0 : Int)) e)))) ∧ (¬ ((0 : Int) ≤ a1 ∧ a1 ≤ (5 : Int)) → P (-1 : Int) (xs d 146 (8 : Int) (0 : Int)) e)))) : yB D xm_c239 (yQi L P) L 0 [.ref 146, .int (xJ a1), .int (xJ a2)] [] d e := by
  refine yb_aload rfl rfl ?_
  refine yb_push (v := 0) rfl ?_
  refine yb_put (z := (0 : Int)) (k := 8) rfl rfl (by decide) (by decide) (rfl) (Nat.le_of_ble_eq_true rfl) rfl (rfl) ?_
  refine yb_iload (x := a1) rfl rfl ?_
  refine yb_push (v := 0) rfl ?_
  refine yb_push (v := 5) rfl ?_
  have r1 := h.1
  replace h := h.2
  refine yb_callSz (As := [.int (xJ a1), .int (xJ (0 : Int)), .int (xJ (5 : Int))]) rfl rfl rfl rfl rfl rfl rfl rfl (by decide) (sp_180 (by omega) ⟨r1, (by show (-2147483648 ≤ (0 : Int) ∧ (0 : Int) < 2147483648); decide), (by show (-2147483648 ≤ (5 : Int) ∧ (5 : Int) < 2147483648); decide)⟩ (fun c => ?_) (fun c => ?_))
  · replace h := h.1 c
    show yB D xm_c239 _ L 7 [.ref 146, .int (xJ a1), .int (xJ a2)] [.int (xJ (1 : Int))] (xs d 146 (8 : Int) (0 : Int)) e
    refine yb_if_eq (x := (1 : Int)) rfl rfl (by decide) (fun c => absurd c (by decide)) (fun _ => ?_)
    refine yb_iload (x := a2) rfl rfl ?_
    refine yb_push (v := 1) rfl ?_
    refine yb_push (v := 3) rfl ?_
    have r2 := h.1
    replace h := h.2
    refine yb_callSz (As := [.int (xJ a2), .int (xJ (1 : Int)), .int (xJ (3 : Int))]) rfl rfl rfl rfl rfl rfl rfl rfl (by decide) (sp_180 (by omega) ⟨r2, (by show (-2147483648 ≤ (1 : Int) ∧ (1 : Int) < 2147483648); decide), (by show (-2147483648 ≤ (3 : Int) ∧ (3 : Int) < 2147483648); decide)⟩ (fun c => ?_) (fun c => ?_))
    · replace h := h.1 c
      show yB D xm_c239 _ L 12 [.ref 146, .int (xJ a1), .int (xJ a2)] [.int (xJ (1 : Int))] (xs d 146 (8 : Int) (0 : Int)) e
      refine yb_if_ne (x := (1 : Int)) rfl rfl (by decide) (fun _ => ?_) (fun c => absurd c (by decide))
      refine yb_aload rfl rfl ?_
      refine yb_get (v := .int (xJ (d 146 (38 : Int)))) rfl (by decide) (by decide) (rfl) rfl ?_
      refine yb_push (v := 6) rfl ?_
      have r3 := h.1
      replace h := h.2
      refine yb_icmp_ne (x := (d 146 (38 : Int))) (y := (6 : Int)) rfl rfl r3 (by decide) (fun c => ?_) (fun c => ?_)
      · replace h := h.1 c
        refine yb_aload rfl rfl ?_
        refine yb_get (v := .ref 163) rfl (by decide) (by decide) (rfl) rfl ?_
        refine yb_push (v := 2) rfl ?_
        refine yb_aload rfl rfl ?_
        refine yb_get (v := .int (xJ (d 146 (38 : Int)))) rfl (by decide) (by decide) (rfl) rfl ?_
        refine yb_imul (x := (2 : Int)) (y := (d 146 (38 : Int))) rfl ?_
        refine yb_iload (x := a1) rfl rfl ?_
        have r4 := h.1
        replace h := h.2
        refine yb_iast (j := ((2 : Int) * (d 146 (38 : Int)))) (x := a1) rfl xd_A163 (by decide) r4 ?_
        refine yb_aload rfl rfl ?_
        refine yb_get (v := .ref 163) rfl (by decide) (by decide) (rfl) rfl ?_
        refine yb_push (v := 2) rfl ?_
        refine yb_aload rfl rfl ?_
        refine yb_get (v := .int (xJ (d 146 (38 : Int)))) rfl (by decide) (by decide) (rfl) rfl ?_
        refine yb_imul (x := (2 : Int)) (y := (d 146 (38 : Int))) rfl ?_
        refine yb_push (v := 1) rfl ?_
        refine yb_iadd (x := ((2 : Int) * (d 146 (38 : Int)))) (y := (1 : Int)) rfl ?_
        refine yb_iload (x := a2) rfl rfl ?_
        have r5 := h.1
        replace h := h.2
        refine yb_iast (j := (((2 : Int) * (d 146 (38 : Int))) + (1 : Int))) (x := a2) rfl xd_A163 (by decide) r5 ?_
        refine yb_aload rfl rfl ?_
        refine yb_dup rfl rfl ?_
        refine yb_get (v := .int (xJ (d 146 (38 : Int)))) rfl (by decide) (by decide) (rfl) rfl ?_
        refine yb_push (v := 1) rfl ?_
        refine yb_iadd (x := (d 146 (38 : Int))) (y := (1 : Int)) rfl ?_
        refine yb_put (z := ((d 146 (38 : Int)) + (1 : Int))) (k := 38) rfl rfl (by decide) (by decide) (rfl) (Nat.le_of_ble_eq_true rfl) rfl (rfl) ?_
        refine yb_aload rfl rfl ?_
        refine yb_get (v := .int (xJ ((d 146 (38 : Int)) + (1 : Int)))) rfl (by decide) (by decide) (rfl) rfl ?_
        refine yb_push (v := 1) rfl ?_
        refine yb_isub (x := ((d 146 (38 : Int)) + (1 : Int))) (y := (1 : Int)) rfl ?_
        exact yb_ret rfl h
      · replace h := h.2 c
        refine yb_push (v := (-2)) rfl ?_
        exact yb_ret rfl h
    · replace h := h.2 c
      show yB D xm_c239 _ L 12 [.ref 146, .int (xJ a1), .int (xJ a2)] [.int (xJ (0 : Int))] (xs d 146 (8 : Int) (0 : Int)) e
      refine yb_if_ne (x := (0 : Int)) rfl rfl (by decide) (fun c => absurd (by decide) c) (fun _ => ?_)
      refine yb_push (v := (-1)) rfl ?_
      exact yb_ret rfl h
  · replace h := h.2 c
    show yB D xm_c239 _ L 7 [.ref 146, .int (xJ a1), .int (xJ a2)] [.int (xJ (0 : Int))] (xs d 146 (8 : Int) (0 : Int)) e
    refine yb_if_eq (x := (0 : Int)) rfl rfl (by decide) (fun _ => ?_) (fun c => absurd (by decide) c)
    refine yb_push (v := (-1)) rfl ?_
    exact yb_ret rfl h
theorem yk_240_0 {D L : Nat} {P : Int → xh_D → xd_E → Prop} {d : xh_D} {e : xd_E}    (h : ((-2147483648 ≤ (d 146 (38 : Int)) ∧ (d 146 (38 : Int)) < 2147483648) ∧ (((¬ (d 146 (38 : Int)) = 0) → P ((d 146 (38 : Int)) - (1 : Int)) (xs (xs d 146 (8 : Int) (0 : Int)) 146 (38 : Int) ((d 146 (38 : Int)) - (1 : Int))) e) ∧ (((d 146 (38 : Int)) = 0) → P (-1 : Int) (xs d 146 (8 : Int) (0 : Int)) e)))) : yB D xm_c240 (yQi L P) L 0 [.ref 146] [] d e := by
  refine yb_aload rfl rfl ?_
  refine yb_push (v := 0) rfl ?_
  refine yb_put (z := (0 : Int)) (k := 8) rfl rfl (by decide) (by decide) (rfl) (Nat.le_of_ble_eq_true rfl) rfl (rfl) ?_
  refine yb_aload rfl rfl ?_
  refine yb_get (v := .int (xJ (d 146 (38 : Int)))) rfl (by decide) (by decide) (rfl) rfl ?_
  have r1 := h.1
  replace h := h.2
  refine yb_if_ne (x := (d 146 (38 : Int))) rfl rfl r1 (fun c => ?_) (fun c => ?_)
  · replace h := h.1 c
    refine yb_aload rfl rfl ?_
    refine yb_dup rfl rfl ?_
    refine yb_get (v := .int (xJ (d 146 (38 : Int)))) rfl (by decide) (by decide) (rfl) rfl ?_
    refine yb_push (v := 1) rfl ?_
    refine yb_isub (x := (d 146 (38 : Int))) (y := (1 : Int)) rfl ?_
    refine yb_put (z := ((d 146 (38 : Int)) - (1 : Int))) (k := 38) rfl rfl (by decide) (by decide) (rfl) (Nat.le_of_ble_eq_true rfl) rfl (rfl) ?_
    refine yb_aload rfl rfl ?_
    refine yb_get (v := .int (xJ ((d 146 (38 : Int)) - (1 : Int)))) rfl (by decide) (by decide) (rfl) rfl ?_
    exact yb_ret rfl h
  · replace h := h.2 c
    refine yb_push (v := (-1)) rfl ?_
    exact yb_ret rfl h
theorem yk_241_0 {D L : Nat} {P : xh_D → xd_E → Prop} {d : xh_D} {e : xd_E}    (h : yB D xm_c241 (yQv L P) L 6 [.ref 146, .int (xJ (0 : Int))] [] (xs d 146 (41 : Int) (d 146 (1 : Int))) e) : yB D xm_c241 (yQv L P) L 0 [.ref 146, .double 0] [] d e := by
  refine yb_aload rfl rfl ?_
  refine yb_aload rfl rfl ?_
  refine yb_get (v := .int (xJ (d 146 (1 : Int)))) rfl (by decide) (by decide) (rfl) rfl ?_
  refine yb_put (z := (d 146 (1 : Int))) (k := 41) rfl rfl (by decide) (by decide) (rfl) (Nat.le_of_ble_eq_true rfl) rfl (rfl) ?_
  refine yb_push (v := 0) rfl ?_
  refine yb_istore rfl rfl rfl ?_
  exact h
theorem yk_241_6 {D L : Nat} {P : xh_D → xd_E → Prop} {d : xh_D} {e : xd_E}  {l1 : Int}  (h : ((-2147483648 ≤ l1 ∧ l1 < 2147483648) ∧ ((-2147483648 ≤ (d 146 (1 : Int)) ∧ (d 146 (1 : Int)) < 2147483648) ∧ ((((d 146 (1 : Int)) ≤ l1) → P d e) ∧ ((¬ (d 146 (1 : Int)) ≤ l1) → ((0 ≤ l1 ∧ l1 < 353) ∧ ((0 ≤ l1 ∧ l1 < 10) ∧ ((0 ≤ ((18 : Int) + l1) ∧ ((18 : Int) + l1) < 353) ∧ yB D xm_c241 (yQv L P) L 6 [.ref 146, .int (xJ (l1 + 1))] [] (xs (xs d 164 l1 (d 147 l1)) 165 l1 (d 147 ((18 : Int) + l1))) e)))))))) : yB D xm_c241 (yQv L P) L 6 [.ref 146, .int (xJ l1)] [] d e := by
  refine yb_iload (x := l1) rfl rfl ?_
  refine yb_aload rfl rfl ?_
  refine yb_get (v := .int (xJ (d 146 (1 : Int)))) rfl (by decide) (by decide) (rfl) rfl ?_
  have r1 := h.1
  replace h := h.2
  have r2 := h.1
  replace h := h.2
  refine yb_icmp_ge (x := l1) (y := (d 146 (1 : Int))) rfl rfl r1 r2 (fun c => ?_) (fun c => ?_)
  · replace h := h.1 c
    exact yb_retv rfl h
  · replace h := h.2 c
    refine yb_aload rfl rfl ?_
    refine yb_get (v := .ref 164) rfl (by decide) (by decide) (rfl) rfl ?_
    refine yb_iload (x := l1) rfl rfl ?_
    refine yb_aload rfl rfl ?_
    refine yb_get (v := .ref 147) rfl (by decide) (by decide) (rfl) rfl ?_
    refine yb_iload (x := l1) rfl rfl ?_
    have r3 := h.1
    replace h := h.2
    refine yb_iald (j := l1) rfl xd_A147 (by decide) r3 (v := (d 147 l1)) rfl ?_
    have r4 := h.1
    replace h := h.2
    refine yb_iast (j := l1) (x := (d 147 l1)) rfl xd_A164 (by decide) r4 ?_
    refine yb_aload rfl rfl ?_
    refine yb_get (v := .ref 165) rfl (by decide) (by decide) (rfl) rfl ?_
    refine yb_iload (x := l1) rfl rfl ?_
    refine yb_aload rfl rfl ?_
    refine yb_get (v := .ref 147) rfl (by decide) (by decide) (rfl) rfl ?_
    refine yb_push (v := 18) rfl ?_
    refine yb_iload (x := l1) rfl rfl ?_
    refine yb_iadd (x := (18 : Int)) (y := l1) rfl ?_
    have r5 := h.1
    replace h := h.2
    refine yb_iald (j := ((18 : Int) + l1)) rfl xd_A147 (by decide) r5 (v := (d 147 ((18 : Int) + l1))) (xs_np (by decide)) ?_
    refine yb_iast (j := l1) (x := (d 147 ((18 : Int) + l1))) rfl xd_A165 (by decide) r4 ?_
    refine yb_iinc (x := l1) (n := 1) rfl rfl rfl rfl ?_
    refine yb_goto rfl rfl ?_
    exact h
theorem yk_242_0 {D L : Nat} {P1 P0 : xh_D → xd_E → Prop} {d : xh_D} {e : xd_E} {a1 : Int}   (h : yB D xm_c242 (yQz L P1 P0) L 2 [.ref 146, .int (xJ a1), .int (xJ (0 : Int)), .double 0] [] d e) : yB D xm_c242 (yQz L P1 P0) L 0 [.ref 146, .int (xJ a1), .double 0, .double 0] [] d e := by
  refine yb_push (v := 0) rfl ?_
  refine yb_istore rfl rfl rfl ?_
  exact h
theorem yk_242_2 {D L : Nat} {P1 P0 : xh_D → xd_E → Prop} {d : xh_D} {e : xd_E}  {l1 : Int} {l2 : Int}  (hD : 1 ≤ D) (h : ((-2147483648 ≤ l2 ∧ l2 < 2147483648) ∧ ((-2147483648 ≤ (d 146 (38 : Int)) ∧ (d 146 (38 : Int)) < 2147483648) ∧ ((((d 146 (38 : Int)) ≤ l2) → P0 d e) ∧ ((¬ (d 146 (38 : Int)) ≤ l2) → ((0 ≤ l1 ∧ l1 < 10) ∧ ((0 ≤ ((2 : Int) * l2) ∧ ((2 : Int) * l2) < 12) ∧ (((xi_and (xi_shr (d 165 l1) (d 163 ((2 : Int) * l2))) (1 : Int) = 1) → (((xi_and (xi_shr (d 146 (43 : Int)) l2) (1 : Int) = 1) → yB D xm_c242 (yQz L P1 P0) L 2 [.ref 146, .int (xJ l1), .int (xJ (l2 + 1)), .double 0] [] d e) ∧ (¬ (xi_and (xi_shr (d 146 (43 : Int)) l2) (1 : Int) = 1) → yB D xm_c242 (yQz L P1 P0) L 36 [.ref 146, .int (xJ l1), .int (xJ l2), .int (xJ ((3 : Int) * l2))] [] (xs d 146 (43 : Int) (xi_or (d 146 (43 : Int)) (xi_shl (1 : Int) l2))) e))) ∧ (¬ (xi_and (xi_shr (d 165 l1) (d 163 ((2 : Int) * l2))) (1 : Int) = 1) → yB D xm_c242 (yQz L P1 P0) L 2 [.ref 146, .int (xJ l1), .int (xJ (l2 + 1)), .double 0] [] d e))))))))) : yB D xm_c242 (yQz L P1 P0) L 2 [.ref 146, .int (xJ l1), .int (xJ l2), .double 0] [] d e := by
  refine yb_iload (x := l2) rfl rfl ?_
  refine yb_aload rfl rfl ?_
  refine yb_get (v := .int (xJ (d 146 (38 : Int)))) rfl (by decide) (by decide) (rfl) rfl ?_
  have r1 := h.1
  replace h := h.2
  have r2 := h.1
  replace h := h.2
  refine yb_icmp_ge (x := l2) (y := (d 146 (38 : Int))) rfl rfl r1 r2 (fun c => ?_) (fun c => ?_)
  · replace h := h.1 c
    refine yb_push (v := 0) rfl ?_
    exact yb_ret0 rfl h
  · replace h := h.2 c
    refine yb_aload rfl rfl ?_
    refine yb_get (v := .ref 165) rfl (by decide) (by decide) (rfl) rfl ?_
    refine yb_iload (x := l1) rfl rfl ?_
    have r3 := h.1
    replace h := h.2
    refine yb_iald (j := l1) rfl xd_A165 (by decide) r3 (v := (d 165 l1)) rfl ?_
    refine yb_aload rfl rfl ?_
    refine yb_get (v := .ref 163) rfl (by decide) (by decide) (rfl) rfl ?_
    refine yb_push (v := 2) rfl ?_
    refine yb_iload (x := l2) rfl rfl ?_
    refine yb_imul (x := (2 : Int)) (y := l2) rfl ?_
    have r4 := h.1
    replace h := h.2
    refine yb_iald (j := ((2 : Int) * l2)) rfl xd_A163 (by decide) r4 (v := (d 163 ((2 : Int) * l2))) rfl ?_
    refine yb_callSz (As := [.int (xJ (d 165 l1)), .int (xJ (d 163 ((2 : Int) * l2)))]) rfl rfl rfl rfl rfl rfl rfl rfl (by decide) (sp_181 (by omega) (fun c => ?_) (fun c => ?_))
    · replace h := h.1 c
      show yB D xm_c242 _ L 17 [.ref 146, .int (xJ l1), .int (xJ l2), .double 0] [.int (xJ (1 : Int))] d e
      refine yb_if_eq (x := (1 : Int)) rfl rfl (by decide) (fun c => absurd c (by decide)) (fun _ => ?_)
      refine yb_aload rfl rfl ?_
      refine yb_get (v := .int (xJ (d 146 (43 : Int)))) rfl (by decide) (by decide) (rfl) rfl ?_
      refine yb_iload (x := l2) rfl rfl ?_
      refine yb_callSz (As := [.int (xJ (d 146 (43 : Int))), .int (xJ l2)]) rfl rfl rfl rfl rfl rfl rfl rfl (by decide) (sp_181 (by omega) (fun c => ?_) (fun c => ?_))
      · replace h := h.1 c
        show yB D xm_c242 _ L 22 [.ref 146, .int (xJ l1), .int (xJ l2), .double 0] [.int (xJ (1 : Int))] d e
        refine yb_if_eq (x := (1 : Int)) rfl rfl (by decide) (fun c => absurd c (by decide)) (fun _ => ?_)
        refine yb_goto rfl rfl ?_
        refine yb_iinc (x := l2) (n := 1) rfl rfl rfl rfl ?_
        refine yb_goto rfl rfl ?_
        exact h
      · replace h := h.2 c
        show yB D xm_c242 _ L 22 [.ref 146, .int (xJ l1), .int (xJ l2), .double 0] [.int (xJ (0 : Int))] d e
        refine yb_if_eq (x := (0 : Int)) rfl rfl (by decide) (fun _ => ?_) (fun c => absurd (by decide) c)
        refine yb_aload rfl rfl ?_
        refine yb_dup rfl rfl ?_
        refine yb_get (v := .int (xJ (d 146 (43 : Int)))) rfl (by decide) (by decide) (rfl) rfl ?_
        refine yb_push (v := 1) rfl ?_
        refine yb_iload (x := l2) rfl rfl ?_
        refine yb_ishl (x := (1 : Int)) (y := l2) rfl ?_
        refine yb_ior (x := (d 146 (43 : Int))) (y := (xi_shl (1 : Int) l2)) rfl ?_
        refine yb_put (z := (xi_or (d 146 (43 : Int)) (xi_shl (1 : Int) l2))) (k := 43) rfl rfl (by decide) (by decide) (rfl) (Nat.le_of_ble_eq_true rfl) rfl (rfl) ?_
        refine yb_push (v := 3) rfl ?_
        refine yb_iload (x := l2) rfl rfl ?_
        refine yb_imul (x := (3 : Int)) (y := l2) rfl ?_
        refine yb_istore rfl rfl rfl ?_
        exact h
    · replace h := h.2 c
      show yB D xm_c242 _ L 17 [.ref 146, .int (xJ l1), .int (xJ l2), .double 0] [.int (xJ (0 : Int))] d e
      refine yb_if_eq (x := (0 : Int)) rfl rfl (by decide) (fun _ => ?_) (fun c => absurd (by decide) c)
      refine yb_iinc (x := l2) (n := 1) rfl rfl rfl rfl ?_
      refine yb_goto rfl rfl ?_
      exact h
theorem yk_242_36 {D L : Nat} {P1 P0 : xh_D → xd_E → Prop} {d : xh_D} {e : xd_E}  {l1 : Int} {l2 : Int} {l3 : Int}  (h : ((0 ≤ (((2 : Int) * l2) + (1 : Int)) ∧ (((2 : Int) * l2) + (1 : Int)) < 12) ∧ ((-2147483648 ≤ l3 ∧ l3 < 2147483648) ∧ ((-2147483648 ≤ (((3 : Int) * l2) + (d 163 (((2 : Int) * l2) + (1 : Int)))) ∧ (((3 : Int) * l2) + (d 163 (((2 : Int) * l2) + (1 : Int)))) < 2147483648) ∧ ((((((3 : Int) * l2) + (d 163 (((2 : Int) * l2) + (1 : Int)))) ≤ l3) → yB D xm_c242 (yQz L P1 P0) L 70 [.ref 146, .int (xJ l1), .int (xJ l2), .int (xJ ((3 : Int) * l2))] [] d e) ∧ ((¬ (((3 : Int) * l2) + (d 163 (((2 : Int) * l2) + (1 : Int)))) ≤ l3) → ((0 ≤ l3 ∧ l3 < 18) ∧ ((-2147483648 ≤ (d 166 l3) ∧ (d 166 l3) < 2147483648) ∧ ((((d 166 l3) = (-1 : Int)) → P1 (xs d 166 l3 l1) e) ∧ ((¬ (d 166 l3) = (-1 : Int)) → yB D xm_c242 (yQz L P1 P0) L 36 [.ref 146, .int (xJ l1), .int (xJ l2), .int (xJ (l3 + 1))] [] d e)))))))))) : yB D xm_c242 (yQz L P1 P0) L 36 [.ref 146, .int (xJ l1), .int (xJ l2), .int (xJ l3)] [] d e := by
  refine yb_iload (x := l3) rfl rfl ?_
  refine yb_push (v := 3) rfl ?_
  refine yb_iload (x := l2) rfl rfl ?_
  refine yb_imul (x := (3 : Int)) (y := l2) rfl ?_
  refine yb_aload rfl rfl ?_
  refine yb_get (v := .ref 163) rfl (by decide) (by decide) (rfl) rfl ?_
  refine yb_push (v := 2) rfl ?_
  refine yb_iload (x := l2) rfl rfl ?_
  refine yb_imul (x := (2 : Int)) (y := l2) rfl ?_
  refine yb_push (v := 1) rfl ?_
  refine yb_iadd (x := ((2 : Int) * l2)) (y := (1 : Int)) rfl ?_
  have r1 := h.1
  replace h := h.2
  refine yb_iald (j := (((2 : Int) * l2) + (1 : Int))) rfl xd_A163 (by decide) r1 (v := (d 163 (((2 : Int) * l2) + (1 : Int)))) rfl ?_
  refine yb_iadd (x := ((3 : Int) * l2)) (y := (d 163 (((2 : Int) * l2) + (1 : Int)))) rfl ?_
  have r2 := h.1
  replace h := h.2
  have r3 := h.1
  replace h := h.2
  refine yb_icmp_ge (x := l3) (y := (((3 : Int) * l2) + (d 163 (((2 : Int) * l2) + (1 : Int))))) rfl rfl r2 r3 (fun c => ?_) (fun c => ?_)
  · replace h := h.1 c
    refine yb_push (v := 3) rfl ?_
    refine yb_iload (x := l2) rfl rfl ?_
    refine yb_imul (x := (3 : Int)) (y := l2) rfl ?_
    refine yb_istore rfl rfl rfl ?_
    exact h
  · replace h := h.2 c
    refine yb_aload rfl rfl ?_
    refine yb_get (v := .ref 166) rfl (by decide) (by decide) (rfl) rfl ?_
    refine yb_iload (x := l3) rfl rfl ?_
    have r4 := h.1
    replace h := h.2
    refine yb_iald (j := l3) rfl xd_A166 (by decide) r4 (v := (d 166 l3)) rfl ?_
    refine yb_push (v := (-1)) rfl ?_
    have r5 := h.1
    replace h := h.2
    refine yb_icmp_eq (x := (d 166 l3)) (y := (-1 : Int)) rfl rfl r5 (by decide) (fun c => ?_) (fun c => ?_)
    · replace h := h.1 c
      refine yb_aload rfl rfl ?_
      refine yb_get (v := .ref 166) rfl (by decide) (by decide) (rfl) rfl ?_
      refine yb_iload (x := l3) rfl rfl ?_
      refine yb_iload (x := l1) rfl rfl ?_
      refine yb_iast (j := l3) (x := l1) rfl xd_A166 (by decide) r4 ?_
      refine yb_push (v := 1) rfl ?_
      exact yb_ret1 rfl h
    · replace h := h.2 c
      refine yb_goto rfl rfl ?_
      refine yb_iinc (x := l3) (n := 1) rfl rfl rfl rfl ?_
      refine yb_goto rfl rfl ?_
      exact h
theorem yk_242_70 {D L : Nat} {P1 P0 : xh_D → xd_E → Prop} {d : xh_D} {e : xd_E}  {l1 : Int} {l2 : Int} {l3 : Int}  (h : ((0 ≤ (((2 : Int) * l2) + (1 : Int)) ∧ (((2 : Int) * l2) + (1 : Int)) < 12) ∧ ((-2147483648 ≤ l3 ∧ l3 < 2147483648) ∧ ((-2147483648 ≤ (((3 : Int) * l2) + (d 163 (((2 : Int) * l2) + (1 : Int)))) ∧ (((3 : Int) * l2) + (d 163 (((2 : Int) * l2) + (1 : Int)))) < 2147483648) ∧ ((((((3 : Int) * l2) + (d 163 (((2 : Int) * l2) + (1 : Int)))) ≤ l3) → yB D xm_c242 (yQz L P1 P0) L 2 [.ref 146, .int (xJ l1), .int (xJ (l2 + 1)), .double 0] [] d e) ∧ ((¬ (((3 : Int) * l2) + (d 163 (((2 : Int) * l2) + (1 : Int)))) ≤ l3) → ((0 ≤ l3 ∧ l3 < 18) ∧ yZ D 242 L [.ref 146, .int (xJ (d 166 l3))] d e (fun d5 e6 => P1 (xs d5 166 l3 l1) e6) (fun d5 e6 => yB D xm_c242 (yQz L P1 P0) L 70 [.ref 146, .int (xJ l1), .int (xJ l2), .int (xJ (l3 + 1))] [] d5 e6)))))))) : yB D xm_c242 (yQz L P1 P0) L 70 [.ref 146, .int (xJ l1), .int (xJ l2), .int (xJ l3)] [] d e := by
  refine yb_iload (x := l3) rfl rfl ?_
  refine yb_push (v := 3) rfl ?_
  refine yb_iload (x := l2) rfl rfl ?_
  refine yb_imul (x := (3 : Int)) (y := l2) rfl ?_
  refine yb_aload rfl rfl ?_
  refine yb_get (v := .ref 163) rfl (by decide) (by decide) (rfl) rfl ?_
  refine yb_push (v := 2) rfl ?_
  refine yb_iload (x := l2) rfl rfl ?_
  refine yb_imul (x := (2 : Int)) (y := l2) rfl ?_
  refine yb_push (v := 1) rfl ?_
  refine yb_iadd (x := ((2 : Int) * l2)) (y := (1 : Int)) rfl ?_
  have r1 := h.1
  replace h := h.2
  refine yb_iald (j := (((2 : Int) * l2) + (1 : Int))) rfl xd_A163 (by decide) r1 (v := (d 163 (((2 : Int) * l2) + (1 : Int)))) rfl ?_
  refine yb_iadd (x := ((3 : Int) * l2)) (y := (d 163 (((2 : Int) * l2) + (1 : Int)))) rfl ?_
  have r2 := h.1
  replace h := h.2
  have r3 := h.1
  replace h := h.2
  refine yb_icmp_ge (x := l3) (y := (((3 : Int) * l2) + (d 163 (((2 : Int) * l2) + (1 : Int))))) rfl rfl r2 r3 (fun c => ?_) (fun c => ?_)
  · replace h := h.1 c
    refine yb_iinc (x := l2) (n := 1) rfl rfl rfl rfl ?_
    refine yb_goto rfl rfl ?_
    refine yb_forget (dl := [.ref 146, .int (xJ l1), .int (xJ (l2 + 1)), .double 0]) ⟨Or.inl rfl, ⟨Or.inl rfl, ⟨Or.inl rfl, ⟨Or.inr ⟨rfl, rfl⟩, trivial⟩⟩⟩⟩ ?_
    exact h
  · replace h := h.2 c
    refine yb_aload rfl rfl ?_
    refine yb_aload rfl rfl ?_
    refine yb_get (v := .ref 166) rfl (by decide) (by decide) (rfl) rfl ?_
    refine yb_iload (x := l3) rfl rfl ?_
    have r4 := h.1
    replace h := h.2
    refine yb_iald (j := l3) rfl xd_A166 (by decide) r4 (v := (d 166 l3)) rfl ?_
    refine yb_callVz (As := [.int (xJ (d 166 l3))]) (a := 146) rfl rfl rfl rfl rfl rfl rfl rfl (by decide) (by decide) (rfl) (by decide) (yZ_mono h (fun d5 e6 h => ?_) (fun d5 e6 h => ?_))
    · refine yb_if_ne (x := (1 : Int)) rfl rfl (by decide) (fun _ => ?_) (fun c => absurd c (by decide))
      refine yb_aload rfl rfl ?_
      refine yb_get (v := .ref 166) rfl (by decide) (by decide) (rfl) rfl ?_
      refine yb_iload (x := l3) rfl rfl ?_
      refine yb_iload (x := l1) rfl rfl ?_
      refine yb_iast (j := l3) (x := l1) rfl xd_A166 (by decide) r4 ?_
      refine yb_push (v := 1) rfl ?_
      exact yb_ret1 rfl h
    · refine yb_if_ne (x := (0 : Int)) rfl rfl (by decide) (fun c => absurd (by decide) c) (fun _ => ?_)
      refine yb_goto rfl rfl ?_
      refine yb_iinc (x := l3) (n := 1) rfl rfl rfl rfl ?_
      refine yb_goto rfl rfl ?_
      exact h
theorem yk_243_0 {D L : Nat} {P : Int → xh_D → xd_E → Prop} {d : xh_D} {e : xd_E} {a1 : Int}   (h : yB D xm_c243 (yQi L P) L 4 [.ref 146, .int (xJ a1), .int (xJ (0 : Int)), .int (xJ (0 : Int))] [] d e) : yB D xm_c243 (yQi L P) L 0 [.ref 146, .int (xJ a1), .double 0, .double 0] [] d e := by
  refine yb_push (v := 0) rfl ?_
  refine yb_istore rfl rfl rfl ?_
  refine yb_push (v := 0) rfl ?_
  refine yb_istore rfl rfl rfl ?_
  exact h
theorem yk_243_4 {D L : Nat} {P : Int → xh_D → xd_E → Prop} {d : xh_D} {e : xd_E}  {l1 : Int} {l2 : Int} {l3 : Int}  (h : ((-2147483648 ≤ l3 ∧ l3 < 2147483648) ∧ ((-2147483648 ≤ (d 146 (38 : Int)) ∧ (d 146 (38 : Int)) < 2147483648) ∧ ((((d 146 (38 : Int)) ≤ l3) → yB D xm_c243 (yQi L P) L 23 [.ref 146, .int (xJ l1), .int (xJ l2), .int (xJ (0 : Int))] [] d e) ∧ ((¬ (d 146 (38 : Int)) ≤ l3) → ((0 ≤ (((2 : Int) * l3) + (1 : Int)) ∧ (((2 : Int) * l3) + (1 : Int)) < 12) ∧ (∀ v4, v4 = (l2 + (d 163 (((2 : Int) * l3) + (1 : Int)))) → yB D xm_c243 (yQi L P) L 4 [.ref 146, .int (xJ l1), .int (xJ v4), .int (xJ (l3 + 1))] [] d e))))))) : yB D xm_c243 (yQi L P) L 4 [.ref 146, .int (xJ l1), .int (xJ l2), .int (xJ l3)] [] d e := by
  refine yb_iload (x := l3) rfl rfl ?_
  refine yb_aload rfl rfl ?_
  refine yb_get (v := .int (xJ (d 146 (38 : Int)))) rfl (by decide) (by decide) (rfl) rfl ?_
  have r1 := h.1
  replace h := h.2
  have r2 := h.1
  replace h := h.2
  refine yb_icmp_ge (x := l3) (y := (d 146 (38 : Int))) rfl rfl r1 r2 (fun c => ?_) (fun c => ?_)
  · replace h := h.1 c
    refine yb_push (v := 0) rfl ?_
    refine yb_istore rfl rfl rfl ?_
    exact h
  · replace h := h.2 c
    refine yb_iload (x := l2) rfl rfl ?_
    refine yb_aload rfl rfl ?_
    refine yb_get (v := .ref 163) rfl (by decide) (by decide) (rfl) rfl ?_
    refine yb_push (v := 2) rfl ?_
    refine yb_iload (x := l3) rfl rfl ?_
    refine yb_imul (x := (2 : Int)) (y := l3) rfl ?_
    refine yb_push (v := 1) rfl ?_
    refine yb_iadd (x := ((2 : Int) * l3)) (y := (1 : Int)) rfl ?_
    have r3 := h.1
    replace h := h.2
    refine yb_iald (j := (((2 : Int) * l3) + (1 : Int))) rfl xd_A163 (by decide) r3 (v := (d 163 (((2 : Int) * l3) + (1 : Int)))) rfl ?_
    refine yb_iadd (x := l2) (y := (d 163 (((2 : Int) * l3) + (1 : Int)))) rfl ?_
    replace h := h _ rfl
    refine yb_istore rfl rfl rfl ?_
    refine yb_iinc (x := l3) (n := 1) rfl rfl rfl rfl ?_
    refine yb_goto rfl rfl ?_
    exact h
theorem yk_243_23 {D L : Nat} {P : Int → xh_D → xd_E → Prop} {d : xh_D} {e : xd_E}  {l1 : Int} {l2 : Int} {l3 : Int}  (h : ((-2147483648 ≤ l3 ∧ l3 < 2147483648) ∧ ((((18 : Int) ≤ l3) → yB D xm_c243 (yQi L P) L 35 [.ref 146, .int (xJ l1), .int (xJ l2), .int (xJ (0 : Int))] [] d e) ∧ ((¬ (18 : Int) ≤ l3) → ((0 ≤ l3 ∧ l3 < 18) ∧ yB D xm_c243 (yQi L P) L 23 [.ref 146, .int (xJ l1), .int (xJ l2), .int (xJ (l3 + 1))] [] (xs d 166 l3 (-1 : Int)) e))))) : yB D xm_c243 (yQi L P) L 23 [.ref 146, .int (xJ l1), .int (xJ l2), .int (xJ l3)] [] d e := by
  refine yb_iload (x := l3) rfl rfl ?_
  refine yb_push (v := 18) rfl ?_
  have r1 := h.1
  replace h := h.2
  refine yb_icmp_ge (x := l3) (y := (18 : Int)) rfl rfl r1 (by decide) (fun c => ?_) (fun c => ?_)
  · replace h := h.1 c
    refine yb_push (v := 0) rfl ?_
    refine yb_istore rfl rfl rfl ?_
    exact h
  · replace h := h.2 c
    refine yb_aload rfl rfl ?_
    refine yb_get (v := .ref 166) rfl (by decide) (by decide) (rfl) rfl ?_
    refine yb_iload (x := l3) rfl rfl ?_
    refine yb_push (v := (-1)) rfl ?_
    have r2 := h.1
    replace h := h.2
    refine yb_iast (j := l3) (x := (-1 : Int)) rfl xd_A166 (by decide) r2 ?_
    refine yb_iinc (x := l3) (n := 1) rfl rfl rfl rfl ?_
    refine yb_goto rfl rfl ?_
    exact h
theorem yk_243_35 {D L : Nat} {P : Int → xh_D → xd_E → Prop} {d : xh_D} {e : xd_E}  {l1 : Int} {l2 : Int} {l3 : Int}  (h : ((-2147483648 ≤ l3 ∧ l3 < 2147483648) ∧ ((-2147483648 ≤ (d 146 (41 : Int)) ∧ (d 146 (41 : Int)) < 2147483648) ∧ ((((d 146 (41 : Int)) ≤ l3) → P l2 d e) ∧ ((¬ (d 146 (41 : Int)) ≤ l3) → ((0 ≤ l3 ∧ l3 < 10) ∧ ((-2147483648 ≤ (d 164 l3) ∧ (d 164 l3) < 2147483648) ∧ ((-2147483648 ≤ l1 ∧ l1 < 2147483648) ∧ (((¬ (d 164 l3) = l1) → yZ D 242 L [.ref 146, .int (xJ l3)] (xs d 146 (43 : Int) (0 : Int)) e (fun d6 e7 => yB D xm_c243 (yQi L P) L 35 [.ref 146, .int (xJ l1), .int (xJ (l2 + (-1))), .int (xJ (l3 + 1))] [] d6 e7) (fun d6 e7 => yB D xm_c243 (yQi L P) L 35 [.ref 146, .int (xJ l1), .int (xJ l2), .int (xJ (l3 + 1))] [] d6 e7)) ∧ (((d 164 l3) = l1) → yB D xm_c243 (yQi L P) L 35 [.ref 146, .int (xJ l1), .int (xJ l2), .int (xJ (l3 + 1))] [] d e)))))))))) : yB D xm_c243 (yQi L P) L 35 [.ref 146, .int (xJ l1), .int (xJ l2), .int (xJ l3)] [] d e := by
  refine yb_iload (x := l3) rfl rfl ?_
  refine yb_aload rfl rfl ?_
  refine yb_get (v := .int (xJ (d 146 (41 : Int)))) rfl (by decide) (by decide) (rfl) rfl ?_
  have r1 := h.1
  replace h := h.2
  have r2 := h.1
  replace h := h.2
  refine yb_icmp_ge (x := l3) (y := (d 146 (41 : Int))) rfl rfl r1 r2 (fun c => ?_) (fun c => ?_)
  · replace h := h.1 c
    refine yb_iload (x := l2) rfl rfl ?_
    exact yb_ret rfl h
  · replace h := h.2 c
    refine yb_aload rfl rfl ?_
    refine yb_get (v := .ref 164) rfl (by decide) (by decide) (rfl) rfl ?_
    refine yb_iload (x := l3) rfl rfl ?_
    have r3 := h.1
    replace h := h.2
    refine yb_iald (j := l3) rfl xd_A164 (by decide) r3 (v := (d 164 l3)) rfl ?_
    refine yb_iload (x := l1) rfl rfl ?_
    have r4 := h.1
    replace h := h.2
    have r5 := h.1
    replace h := h.2
    refine yb_icmp_ne (x := (d 164 l3)) (y := l1) rfl rfl r4 r5 (fun c => ?_) (fun c => ?_)
    · replace h := h.1 c
      refine yb_aload rfl rfl ?_
      refine yb_push (v := 0) rfl ?_
      refine yb_put (z := (0 : Int)) (k := 43) rfl rfl (by decide) (by decide) (rfl) (Nat.le_of_ble_eq_true rfl) rfl (rfl) ?_
      refine yb_aload rfl rfl ?_
      refine yb_iload (x := l3) rfl rfl ?_
      refine yb_callVz (As := [.int (xJ l3)]) (a := 146) rfl rfl rfl rfl rfl rfl rfl rfl (by decide) (by decide) (rfl) (by decide) (yZ_mono h (fun d6 e7 h => ?_) (fun d6 e7 h => ?_))
      · refine yb_if_eq (x := (1 : Int)) rfl rfl (by decide) (fun c => absurd c (by decide)) (fun _ => ?_)
        refine yb_iinc (x := l2) (n := (-1)) rfl rfl rfl rfl ?_
        refine yb_iinc (x := l3) (n := 1) rfl rfl rfl rfl ?_
        refine yb_goto rfl rfl ?_
        exact h
      · refine yb_if_eq (x := (0 : Int)) rfl rfl (by decide) (fun _ => ?_) (fun c => absurd (by decide) c)
        refine yb_iinc (x := l3) (n := 1) rfl rfl rfl rfl ?_
        refine yb_goto rfl rfl ?_
        exact h
    · replace h := h.2 c
      refine yb_goto rfl rfl ?_
      refine yb_iinc (x := l3) (n := 1) rfl rfl rfl rfl ?_
      refine yb_goto rfl rfl ?_
      exact h
theorem yk_244_0 {D L : Nat} {P : Int → xh_D → xd_E → Prop} {d : xh_D} {e : xd_E}    (h : yB D xm_c244 (yQi L P) L 4 [.ref 146, .int (xJ (0 : Int)), .int (xJ (0 : Int))] [] d e) : yB D xm_c244 (yQi L P) L 0 [.ref 146, .double 0, .double 0] [] d e := by
  refine yb_push (v := 0) rfl ?_
  refine yb_istore rfl rfl rfl ?_
  refine yb_push (v := 0) rfl ?_
  refine yb_istore rfl rfl rfl ?_
  exact h
theorem yk_244_4 {D L : Nat} {P : Int → xh_D → xd_E → Prop} {d : xh_D} {e : xd_E}  {l1 : Int} {l2 : Int}  (h : ((-2147483648 ≤ l2 ∧ l2 < 2147483648) ∧ ((((9 : Int) ≤ l2) → P l1 d e) ∧ ((¬ (9 : Int) ≤ l2) → yC D 243 L [.ref 146, .int (xJ l2)] d e (fun x2 d3 e4 => yB D xm_c244 (yQi L P) L 4 [.ref 146, .int (xJ (l1 + x2)), .int (xJ (l2 + 1))] [] d3 e4))))) : yB D xm_c244 (yQi L P) L 4 [.ref 146, .int (xJ l1), .int (xJ l2)] [] d e := by
  refine yb_iload (x := l2) rfl rfl ?_
  refine yb_push (v := 9) rfl ?_
  have r1 := h.1
  replace h := h.2
  refine yb_icmp_ge (x := l2) (y := (9 : Int)) rfl rfl r1 (by decide) (fun c => ?_) (fun c => ?_)
  · replace h := h.1 c
    refine yb_iload (x := l1) rfl rfl ?_
    exact yb_ret rfl h
  · replace h := h.2 c
    refine yb_iload (x := l1) rfl rfl ?_
    refine yb_aload rfl rfl ?_
    refine yb_iload (x := l2) rfl rfl ?_
    refine yb_callVi (As := [.int (xJ l2)]) (a := 146) rfl rfl rfl rfl rfl rfl rfl rfl (by decide) (by decide) (rfl) (by show (1 : Nat) ≤ 8; decide) (yC_mono h (fun x2 d3 e4 h => ?_))
    refine yb_iadd (x := l1) (y := x2) rfl ?_
    refine yb_istore rfl rfl rfl ?_
    refine yb_iinc (x := l2) (n := 1) rfl rfl rfl rfl ?_
    refine yb_goto rfl rfl ?_
    exact h
theorem yk_245_0 {D L : Nat} {P : Int → xh_D → xd_E → Prop} {d : xh_D} {e : xd_E} {a1 : Int}   (hD : 2 ≤ D) (h : ((-2147483648 ≤ a1 ∧ a1 < 2147483648) ∧ (((0 ≤ a1 ∧ a1 ≤ 8) → yV D 241 L [.ref 146] (xs d 146 (8 : Int) (0 : Int)) e (fun d2 e3 => yC D 217 L [.ref 146, .ref 147, .int (xJ a1)] (xs d2 146 (7 : Int) (0 : Int)) e3 (fun x4 d5 e6 => ((0 ≤ (d5 146 (7 : Int)) ∧ (d5 146 (7 : Int)) < 20) ∧ yC D 243 L [.ref 146, .int (xJ a1)] (xs (xs d5 151 (d5 146 (7 : Int)) ((d2 146 (1 : Int)) - (xp_bc x4))) 146 (7 : Int) ((d5 146 (7 : Int)) + 1)) e6 (fun x8 d9 e10 => P x8 d9 e10))))) ∧ (¬ (0 ≤ a1 ∧ a1 ≤ 8) → P (-1 : Int) (xs d 146 (8 : Int) (0 : Int)) e)))) : yB D xm_c245 (yQi L P) L 0 [.ref 146, .int (xJ a1)] [] d e := by
  refine yb_aload rfl rfl ?_
  refine yb_push (v := 0) rfl ?_
  refine yb_put (z := (0 : Int)) (k := 8) rfl rfl (by decide) (by decide) (rfl) (Nat.le_of_ble_eq_true rfl) rfl (rfl) ?_
  refine yb_iload (x := a1) rfl rfl ?_
  have r1 := h.1
  replace h := h.2
  refine yb_callSz (As := [.int (xJ a1)]) rfl rfl rfl rfl rfl rfl rfl rfl (by decide) (sp_186 (by omega) r1 (fun c => ?_) (fun c => ?_))
  · replace h := h.1 c
    show yB D xm_c245 _ L 5 [.ref 146, .int (xJ a1)] [.int (xJ (1 : Int))] (xs d 146 (8 : Int) (0 : Int)) e
    refine yb_if_ne (x := (1 : Int)) rfl rfl (by decide) (fun _ => ?_) (fun c => absurd c (by decide))
    refine yb_aload rfl rfl ?_
    refine yb_callVv (As := []) (a := 146) rfl rfl rfl rfl rfl rfl rfl rfl (by decide) (by decide) (rfl) (by decide) (yV_mono h (fun d2 e3 h => ?_))
    refine yb_aload rfl rfl ?_
    refine yb_push (v := 0) rfl ?_
    refine yb_put (z := (0 : Int)) (k := 7) rfl rfl (by decide) (by decide) (rfl) (Nat.le_of_ble_eq_true rfl) rfl (rfl) ?_
    refine yb_aload rfl rfl ?_
    refine yb_aload rfl rfl ?_
    refine yb_get (v := .int (xJ (d2 146 (1 : Int)))) rfl (by decide) (by decide) (rfl) rfl ?_
    refine yb_aload rfl rfl ?_
    refine yb_aload rfl rfl ?_
    refine yb_get (v := .ref 147) rfl (by decide) (by decide) (rfl) rfl ?_
    refine yb_iload (x := a1) rfl rfl ?_
    refine yb_callVi (As := [.ref 147, .int (xJ a1)]) (a := 146) rfl rfl rfl rfl rfl rfl rfl rfl (by decide) (by decide) (rfl) (by show (2 : Nat) ≤ 8; decide) (yC_mono h (fun x4 d5 e6 h => ?_))
    refine yb_callSi (As := [.int (xJ x4)]) rfl rfl rfl rfl rfl rfl rfl rfl (by show (2 : Nat) ≤ 8; decide) (sp_0 (by omega) ?_)
    show yB D xm_c245 _ L 22 [.ref 146, .int (xJ a1)] [.int (xJ (xp_bc x4)), .int (xJ (d2 146 (1 : Int))), .ref 146] d5 e6
    refine yb_isub (x := (d2 146 (1 : Int))) (y := (xp_bc x4)) rfl ?_
    have r7 := h.1
    replace h := h.2
    refine yb_callVv (As := [.int (xJ ((d2 146 (1 : Int)) - (xp_bc x4)))]) (a := 146) rfl rfl rfl rfl rfl rfl rfl rfl (by decide) (by decide) (rfl) (by decide) (sp_183 (by omega) r7 ?_)
    show yB D xm_c245 _ L 24 [.ref 146, .int (xJ a1)] [] (xs (xs d5 151 (d5 146 (7 : Int)) ((d2 146 (1 : Int)) - (xp_bc x4))) 146 (7 : Int) ((d5 146 (7 : Int)) + 1)) e6
    refine yb_aload rfl rfl ?_
    refine yb_iload (x := a1) rfl rfl ?_
    refine yb_callVi (As := [.int (xJ a1)]) (a := 146) rfl rfl rfl rfl rfl rfl rfl rfl (by decide) (by decide) (rfl) (by decide) (yC_mono h (fun x8 d9 e10 h => ?_))
    exact yb_ret rfl h
  · replace h := h.2 c
    show yB D xm_c245 _ L 5 [.ref 146, .int (xJ a1)] [.int (xJ (0 : Int))] (xs d 146 (8 : Int) (0 : Int)) e
    refine yb_if_ne (x := (0 : Int)) rfl rfl (by decide) (fun c => absurd (by decide) c) (fun _ => ?_)
    refine yb_push (v := (-1)) rfl ?_
    exact yb_ret rfl h
theorem yk_246_0 {D L : Nat} {P : Int → xh_D → xd_E → Prop} {d : xh_D} {e : xd_E}    (h : yV D 241 L [.ref 146] (xs d 146 (8 : Int) (0 : Int)) e (fun d1 e2 => yB D xm_c246 (yQi L P) L 11 [.ref 146, .int (xJ (0 : Int)), .int (xJ (0 : Int)), .int (xJ (0 : Int)), .double 0] [] d1 e2)) : yB D xm_c246 (yQi L P) L 0 [.ref 146, .double 0, .double 0, .double 0, .double 0] [] d e := by
  refine yb_aload rfl rfl ?_
  refine yb_push (v := 0) rfl ?_
  refine yb_put (z := (0 : Int)) (k := 8) rfl rfl (by decide) (by decide) (rfl) (Nat.le_of_ble_eq_true rfl) rfl (rfl) ?_
  refine yb_aload rfl rfl ?_
  refine yb_callVv (As := []) (a := 146) rfl rfl rfl rfl rfl rfl rfl rfl (by decide) (by decide) (rfl) (by decide) (yV_mono h (fun d1 e2 h => ?_))
  refine yb_push (v := 0) rfl ?_
  refine yb_istore rfl rfl rfl ?_
  refine yb_push (v := 0) rfl ?_
  refine yb_istore rfl rfl rfl ?_
  refine yb_push (v := 0) rfl ?_
  refine yb_istore rfl rfl rfl ?_
  exact h
theorem yk_246_11 {D L : Nat} {P : Int → xh_D → xd_E → Prop} {d : xh_D} {e : xd_E}  {l1 : Int} {l2 : Int} {l3 : Int}  (hD : 1 ≤ D) (h : ((-2147483648 ≤ l3 ∧ l3 < 2147483648) ∧ ((((9 : Int) ≤ l3) → P l1 (xs (xs (xs d 146 (7 : Int) (0 : Int)) 151 (0 : Int) l2) 146 (7 : Int) ((0 : Int) + 1)) e) ∧ ((¬ (9 : Int) ≤ l3) → yC D 243 L [.ref 146, .int (xJ l3)] d e (fun x2 d3 e4 => ((-2147483648 ≤ x2 ∧ x2 < 2147483648) ∧ (((x2 ≤ 0) → yB D xm_c246 (yQi L P) L 11 [.ref 146, .int (xJ (xi_or l1 (0 : Int))), .int (xJ (l2 + x2)), .int (xJ (l3 + 1)), .double 0] [] d3 e4) ∧ ((¬ x2 ≤ 0) → yB D xm_c246 (yQi L P) L 11 [.ref 146, .int (xJ (xi_or l1 (xi_shl (1 : Int) l3))), .int (xJ (l2 + x2)), .int (xJ (l3 + 1)), .double 0] [] d3 e4)))))))) : yB D xm_c246 (yQi L P) L 11 [.ref 146, .int (xJ l1), .int (xJ l2), .int (xJ l3), .double 0] [] d e := by
  refine yb_iload (x := l3) rfl rfl ?_
  refine yb_push (v := 9) rfl ?_
  have r1 := h.1
  replace h := h.2
  refine yb_icmp_ge (x := l3) (y := (9 : Int)) rfl rfl r1 (by decide) (fun c => ?_) (fun c => ?_)
  · replace h := h.1 c
    refine yb_aload rfl rfl ?_
    refine yb_push (v := 0) rfl ?_
    refine yb_put (z := (0 : Int)) (k := 7) rfl rfl (by decide) (by decide) (rfl) (Nat.le_of_ble_eq_true rfl) rfl (rfl) ?_
    refine yb_aload rfl rfl ?_
    refine yb_iload (x := l2) rfl rfl ?_
    refine yb_callVv (As := [.int (xJ l2)]) (a := 146) rfl rfl rfl rfl rfl rfl rfl rfl (by decide) (by decide) (rfl) (by decide) (sp_183 (by omega) (by show (0 ≤ (0 : Int) ∧ (0 : Int) < 20); decide) ?_)
    show yB D xm_c246 _ L 40 [.ref 146, .int (xJ l1), .int (xJ l2), .int (xJ l3), .double 0] [] (xs (xs (xs d 146 (7 : Int) (0 : Int)) 151 (0 : Int) l2) 146 (7 : Int) ((0 : Int) + 1)) e
    refine yb_iload (x := l1) rfl rfl ?_
    exact yb_ret rfl h
  · replace h := h.2 c
    refine yb_aload rfl rfl ?_
    refine yb_iload (x := l3) rfl rfl ?_
    refine yb_callVi (As := [.int (xJ l3)]) (a := 146) rfl rfl rfl rfl rfl rfl rfl rfl (by decide) (by decide) (rfl) (by decide) (yC_mono h (fun x2 d3 e4 h => ?_))
    refine yb_istore rfl rfl rfl ?_
    refine yb_iload (x := l2) rfl rfl ?_
    refine yb_iload (x := x2) rfl rfl ?_
    refine yb_iadd (x := l2) (y := x2) rfl ?_
    refine yb_istore rfl rfl rfl ?_
    refine yb_iload (x := l1) rfl rfl ?_
    refine yb_iload (x := x2) rfl rfl ?_
    have r5 := h.1
    replace h := h.2
    refine yb_if_le (x := x2) rfl rfl r5 (fun c => ?_) (fun c => ?_)
    · replace h := h.1 c
      refine yb_push (v := 0) rfl ?_
      refine yb_ior (x := l1) (y := (0 : Int)) rfl ?_
      refine yb_istore rfl rfl rfl ?_
      refine yb_iinc (x := l3) (n := 1) rfl rfl rfl rfl ?_
      refine yb_goto rfl rfl ?_
      refine yb_forget (dl := [.ref 146, .int (xJ (xi_or l1 (0 : Int))), .int (xJ (l2 + x2)), .int (xJ (l3 + 1)), .double 0]) ⟨Or.inl rfl, ⟨Or.inl rfl, ⟨Or.inl rfl, ⟨Or.inl rfl, ⟨Or.inr ⟨rfl, rfl⟩, trivial⟩⟩⟩⟩⟩ ?_
      exact h
    · replace h := h.2 c
      refine yb_push (v := 1) rfl ?_
      refine yb_iload (x := l3) rfl rfl ?_
      refine yb_ishl (x := (1 : Int)) (y := l3) rfl ?_
      refine yb_goto rfl rfl ?_
      refine yb_ior (x := l1) (y := (xi_shl (1 : Int) l3)) rfl ?_
      refine yb_istore rfl rfl rfl ?_
      refine yb_iinc (x := l3) (n := 1) rfl rfl rfl rfl ?_
      refine yb_goto rfl rfl ?_
      refine yb_forget (dl := [.ref 146, .int (xJ (xi_or l1 (xi_shl (1 : Int) l3))), .int (xJ (l2 + x2)), .int (xJ (l3 + 1)), .double 0]) ⟨Or.inl rfl, ⟨Or.inl rfl, ⟨Or.inl rfl, ⟨Or.inl rfl, ⟨Or.inr ⟨rfl, rfl⟩, trivial⟩⟩⟩⟩⟩ ?_
      exact h
theorem yk_247_0 {D L : Nat} {P : Int → xh_D → xd_E → Prop} {d : xh_D} {e : xd_E}    (h : yB D xm_c247 (yQi L P) L 9 [.ref 146, .int (xJ (0 : Int)), .int (xJ (-1 : Int)), .int (xJ (0 : Int)), .double 0] [] (xs d 146 (8 : Int) (0 : Int)) e) : yB D xm_c247 (yQi L P) L 0 [.ref 146, .double 0, .double 0, .double 0, .double 0] [] d e := by
  refine yb_aload rfl rfl ?_
  refine yb_push (v := 0) rfl ?_
  refine yb_put (z := (0 : Int)) (k := 8) rfl rfl (by decide) (by decide) (rfl) (Nat.le_of_ble_eq_true rfl) rfl (rfl) ?_
  refine yb_push (v := 0) rfl ?_
  refine yb_istore rfl rfl rfl ?_
  refine yb_push (v := (-1)) rfl ?_
  refine yb_istore rfl rfl rfl ?_
  refine yb_push (v := 0) rfl ?_
  refine yb_istore rfl rfl rfl ?_
  exact h
theorem yk_247_9 {D L : Nat} {P : Int → xh_D → xd_E → Prop} {d : xh_D} {e : xd_E}  {l1 : Int} {l2 : Int} {l3 : Int}  (hD : 1 ≤ D) (h : ((-2147483648 ≤ l3 ∧ l3 < 2147483648) ∧ ((((9 : Int) ≤ l3) → P l1 (xs (xs (xs d 146 (7 : Int) (0 : Int)) 151 (0 : Int) l2) 146 (7 : Int) ((0 : Int) + 1)) e) ∧ ((¬ (9 : Int) ≤ l3) → yC D 217 L [.ref 146, .ref 147, .int (xJ l3)] d e (fun x2 d3 e4 => ((-2147483648 ≤ l2 ∧ l2 < 2147483648) ∧ (((l2 < (xp_bc x2)) → yB D xm_c247 (yQi L P) L 9 [.ref 146, .int (xJ l3), .int (xJ (xp_bc x2)), .int (xJ (l3 + 1)), .double 0] [] d3 e4) ∧ ((¬ l2 < (xp_bc x2)) → yB D xm_c247 (yQi L P) L 9 [.ref 146, .int (xJ l1), .int (xJ l2), .int (xJ (l3 + 1)), .double 0] [] d3 e4)))))))) : yB D xm_c247 (yQi L P) L 9 [.ref 146, .int (xJ l1), .int (xJ l2), .int (xJ l3), .double 0] [] d e := by
  refine yb_iload (x := l3) rfl rfl ?_
  refine yb_push (v := 9) rfl ?_
  have r1 := h.1
  replace h := h.2
  refine yb_icmp_ge (x := l3) (y := (9 : Int)) rfl rfl r1 (by decide) (fun c => ?_) (fun c => ?_)
  · replace h := h.1 c
    refine yb_aload rfl rfl ?_
    refine yb_push (v := 0) rfl ?_
    refine yb_put (z := (0 : Int)) (k := 7) rfl rfl (by decide) (by decide) (rfl) (Nat.le_of_ble_eq_true rfl) rfl (rfl) ?_
    refine yb_aload rfl rfl ?_
    refine yb_iload (x := l2) rfl rfl ?_
    refine yb_callVv (As := [.int (xJ l2)]) (a := 146) rfl rfl rfl rfl rfl rfl rfl rfl (by decide) (by decide) (rfl) (by decide) (sp_183 (by omega) (by show (0 ≤ (0 : Int) ∧ (0 : Int) < 20); decide) ?_)
    show yB D xm_c247 _ L 35 [.ref 146, .int (xJ l1), .int (xJ l2), .int (xJ l3), .double 0] [] (xs (xs (xs d 146 (7 : Int) (0 : Int)) 151 (0 : Int) l2) 146 (7 : Int) ((0 : Int) + 1)) e
    refine yb_iload (x := l1) rfl rfl ?_
    exact yb_ret rfl h
  · replace h := h.2 c
    refine yb_aload rfl rfl ?_
    refine yb_aload rfl rfl ?_
    refine yb_get (v := .ref 147) rfl (by decide) (by decide) (rfl) rfl ?_
    refine yb_iload (x := l3) rfl rfl ?_
    refine yb_callVi (As := [.ref 147, .int (xJ l3)]) (a := 146) rfl rfl rfl rfl rfl rfl rfl rfl (by decide) (by decide) (rfl) (by decide) (yC_mono h (fun x2 d3 e4 h => ?_))
    refine yb_callSi (As := [.int (xJ x2)]) rfl rfl rfl rfl rfl rfl rfl rfl (by decide) (sp_0 (by omega) ?_)
    show yB D xm_c247 _ L 18 [.ref 146, .int (xJ l1), .int (xJ l2), .int (xJ l3), .double 0] [.int (xJ (xp_bc x2))] d3 e4
    refine yb_istore rfl rfl rfl ?_
    refine yb_iload (x := (xp_bc x2)) rfl rfl ?_
    refine yb_iload (x := l2) rfl rfl ?_
    have r5 := h.1
    replace h := h.2
    refine yb_icmp_gt (x := (xp_bc x2)) (y := l2) rfl rfl (xJ_rng _) r5 (fun c => ?_) (fun c => ?_)
    · replace h := h.1 c
      refine yb_iload (x := l3) rfl rfl ?_
      refine yb_istore rfl rfl rfl ?_
      refine yb_iload (x := (xp_bc x2)) rfl rfl ?_
      refine yb_istore rfl rfl rfl ?_
      refine yb_iinc (x := l3) (n := 1) rfl rfl rfl rfl ?_
      refine yb_goto rfl rfl ?_
      refine yb_forget (dl := [.ref 146, .int (xJ l3), .int (xJ (xp_bc x2)), .int (xJ (l3 + 1)), .double 0]) ⟨Or.inl rfl, ⟨Or.inl rfl, ⟨Or.inl rfl, ⟨Or.inl rfl, ⟨Or.inr ⟨rfl, rfl⟩, trivial⟩⟩⟩⟩⟩ ?_
      exact h
    · replace h := h.2 c
      refine yb_goto rfl rfl ?_
      refine yb_iinc (x := l3) (n := 1) rfl rfl rfl rfl ?_
      refine yb_goto rfl rfl ?_
      refine yb_forget (dl := [.ref 146, .int (xJ l1), .int (xJ l2), .int (xJ (l3 + 1)), .double 0]) ⟨Or.inl rfl, ⟨Or.inl rfl, ⟨Or.inl rfl, ⟨Or.inl rfl, ⟨Or.inr ⟨rfl, rfl⟩, trivial⟩⟩⟩⟩⟩ ?_
      exact h
theorem yk_248_0 {D L : Nat} {P : Int → xh_D → xd_E → Prop} {d : xh_D} {e : xd_E}    (h : yV D 241 L [.ref 146] d e (fun d1 e2 => yC D 244 L [.ref 146] d1 e2 (fun x3 d4 e5 => ((-2147483648 ≤ x3 ∧ x3 < 2147483648) ∧ (((¬ x3 = 0) → yB D xm_c248 (yQi L P) L 9 [.ref 146, .int (xJ (0 : Int)), .double 0, .double 0] [] d4 e5) ∧ ((x3 = 0) → P (0 : Int) d4 e5)))))) : yB D xm_c248 (yQi L P) L 0 [.ref 146, .double 0, .double 0, .double 0] [] d e := by
  refine yb_aload rfl rfl ?_
  refine yb_callVv (As := []) (a := 146) rfl rfl rfl rfl rfl rfl rfl rfl (by decide) (by decide) (rfl) (by decide) (yV_mono h (fun d1 e2 h => ?_))
  refine yb_aload rfl rfl ?_
  refine yb_callVi (As := []) (a := 146) rfl rfl rfl rfl rfl rfl rfl rfl (by decide) (by decide) (rfl) (by decide) (yC_mono h (fun x3 d4 e5 h => ?_))
  have r6 := h.1
  replace h := h.2
  refine yb_if_ne (x := x3) rfl rfl r6 (fun c => ?_) (fun c => ?_)
  · replace h := h.1 c
    refine yb_push (v := 0) rfl ?_
    refine yb_istore rfl rfl rfl ?_
    exact h
  · replace h := h.2 c
    refine yb_push (v := 0) rfl ?_
    exact yb_ret rfl h
theorem yk_248_9 {D L : Nat} {P : Int → xh_D → xd_E → Prop} {d : xh_D} {e : xd_E}  {l1 : Int}  (h : ((-2147483648 ≤ l1 ∧ l1 < 2147483648) ∧ ((-2147483648 ≤ (d 146 (1 : Int)) ∧ (d 146 (1 : Int)) < 2147483648) ∧ ((((d 146 (1 : Int)) ≤ l1) → yB D xm_c248 (yQi L P) L 59 [.ref 146, .int (xJ (0 : Int)), .double 0, .double 0] [] d e) ∧ ((¬ (d 146 (1 : Int)) ≤ l1) → yB D xm_c248 (yQi L P) L 15 [.ref 146, .int (xJ l1), .int (xJ (0 : Int)), .double 0] [] d e))))) : yB D xm_c248 (yQi L P) L 9 [.ref 146, .int (xJ l1), .double 0, .double 0] [] d e := by
  refine yb_iload (x := l1) rfl rfl ?_
  refine yb_aload rfl rfl ?_
  refine yb_get (v := .int (xJ (d 146 (1 : Int)))) rfl (by decide) (by decide) (rfl) rfl ?_
  have r1 := h.1
  replace h := h.2
  have r2 := h.1
  replace h := h.2
  refine yb_icmp_ge (x := l1) (y := (d 146 (1 : Int))) rfl rfl r1 r2 (fun c => ?_) (fun c => ?_)
  · replace h := h.1 c
    refine yb_push (v := 0) rfl ?_
    refine yb_istore rfl rfl rfl ?_
    exact h
  · replace h := h.2 c
    refine yb_push (v := 0) rfl ?_
    refine yb_istore rfl rfl rfl ?_
    exact h
theorem yk_248_15 {D L : Nat} {P : Int → xh_D → xd_E → Prop} {d : xh_D} {e : xd_E}  {l1 : Int} {l2 : Int}  (h : ((-2147483648 ≤ l2 ∧ l2 < 2147483648) ∧ ((((9 : Int) ≤ l2) → ((0 ≤ l1 ∧ l1 < 353) ∧ ((0 ≤ l1 ∧ l1 < 10) ∧ yB D xm_c248 (yQi L P) L 9 [.ref 146, .int (xJ (l1 + 1)), .double 0, .double 0] [] (xs d 164 l1 (d 147 l1)) e))) ∧ ((¬ (9 : Int) ≤ l2) → ((0 ≤ l1 ∧ l1 < 353) ∧ ((-2147483648 ≤ (d 147 l1) ∧ (d 147 l1) < 2147483648) ∧ (((¬ l2 = (d 147 l1)) → ((0 ≤ l1 ∧ l1 < 10) ∧ yC D 244 L [.ref 146] (xs (xs (xs d 164 l1 l2) 167 (0 : Int) l1) 167 (1 : Int) l2) e (fun x7 d8 e9 => ((-2147483648 ≤ x7 ∧ x7 < 2147483648) ∧ (((¬ x7 = 0) → yB D xm_c248 (yQi L P) L 15 [.ref 146, .int (xJ l1), .int (xJ (l2 + 1)), .double 0] [] d8 e9) ∧ ((x7 = 0) → P (1 : Int) d8 e9)))))) ∧ ((l2 = (d 147 l1)) → yB D xm_c248 (yQi L P) L 15 [.ref 146, .int (xJ l1), .int (xJ (l2 + 1)), .double 0] [] d e)))))))) : yB D xm_c248 (yQi L P) L 15 [.ref 146, .int (xJ l1), .int (xJ l2), .double 0] [] d e := by
  refine yb_iload (x := l2) rfl rfl ?_
  refine yb_push (v := 9) rfl ?_
  have r1 := h.1
  replace h := h.2
  refine yb_icmp_ge (x := l2) (y := (9 : Int)) rfl rfl r1 (by decide) (fun c => ?_) (fun c => ?_)
  · replace h := h.1 c
    refine yb_aload rfl rfl ?_
    refine yb_get (v := .ref 164) rfl (by decide) (by decide) (rfl) rfl ?_
    refine yb_iload (x := l1) rfl rfl ?_
    refine yb_aload rfl rfl ?_
    refine yb_get (v := .ref 147) rfl (by decide) (by decide) (rfl) rfl ?_
    refine yb_iload (x := l1) rfl rfl ?_
    have r2 := h.1
    replace h := h.2
    refine yb_iald (j := l1) rfl xd_A147 (by decide) r2 (v := (d 147 l1)) rfl ?_
    have r3 := h.1
    replace h := h.2
    refine yb_iast (j := l1) (x := (d 147 l1)) rfl xd_A164 (by decide) r3 ?_
    refine yb_iinc (x := l1) (n := 1) rfl rfl rfl rfl ?_
    refine yb_goto rfl rfl ?_
    refine yb_forget (dl := [.ref 146, .int (xJ (l1 + 1)), .double 0, .double 0]) ⟨Or.inl rfl, ⟨Or.inl rfl, ⟨Or.inr ⟨rfl, rfl⟩, ⟨Or.inl rfl, trivial⟩⟩⟩⟩ ?_
    exact h
  · replace h := h.2 c
    refine yb_iload (x := l2) rfl rfl ?_
    refine yb_aload rfl rfl ?_
    refine yb_get (v := .ref 147) rfl (by decide) (by decide) (rfl) rfl ?_
    refine yb_iload (x := l1) rfl rfl ?_
    have r4 := h.1
    replace h := h.2
    refine yb_iald (j := l1) rfl xd_A147 (by decide) r4 (v := (d 147 l1)) rfl ?_
    have r5 := h.1
    replace h := h.2
    refine yb_icmp_ne (x := l2) (y := (d 147 l1)) rfl rfl r1 r5 (fun c => ?_) (fun c => ?_)
    · replace h := h.1 c
      refine yb_aload rfl rfl ?_
      refine yb_get (v := .ref 164) rfl (by decide) (by decide) (rfl) rfl ?_
      refine yb_iload (x := l1) rfl rfl ?_
      refine yb_iload (x := l2) rfl rfl ?_
      have r6 := h.1
      replace h := h.2
      refine yb_iast (j := l1) (x := l2) rfl xd_A164 (by decide) r6 ?_
      refine yb_aload rfl rfl ?_
      refine yb_get (v := .ref 167) rfl (by decide) (by decide) (rfl) rfl ?_
      refine yb_push (v := 0) rfl ?_
      refine yb_iload (x := l1) rfl rfl ?_
      refine yb_iast (j := (0 : Int)) (x := l1) rfl xd_A167 (by decide) (by decide) ?_
      refine yb_aload rfl rfl ?_
      refine yb_get (v := .ref 167) rfl (by decide) (by decide) (rfl) rfl ?_
      refine yb_push (v := 1) rfl ?_
      refine yb_iload (x := l2) rfl rfl ?_
      refine yb_iast (j := (1 : Int)) (x := l2) rfl xd_A167 (by decide) (by decide) ?_
      refine yb_aload rfl rfl ?_
      refine yb_callVi (As := []) (a := 146) rfl rfl rfl rfl rfl rfl rfl rfl (by decide) (by decide) (rfl) (by decide) (yC_mono h (fun x7 d8 e9 h => ?_))
      have r10 := h.1
      replace h := h.2
      refine yb_if_ne (x := x7) rfl rfl r10 (fun c => ?_) (fun c => ?_)
      · replace h := h.1 c
        refine yb_iinc (x := l2) (n := 1) rfl rfl rfl rfl ?_
        refine yb_goto rfl rfl ?_
        exact h
      · replace h := h.2 c
        refine yb_push (v := 1) rfl ?_
        exact yb_ret rfl h
    · replace h := h.2 c
      refine yb_goto rfl rfl ?_
      refine yb_iinc (x := l2) (n := 1) rfl rfl rfl rfl ?_
      refine yb_goto rfl rfl ?_
      exact h
theorem yk_248_59 {D L : Nat} {P : Int → xh_D → xd_E → Prop} {d : xh_D} {e : xd_E}  {l1 : Int}  (h : ((-2147483648 ≤ l1 ∧ l1 < 2147483648) ∧ ((-2147483648 ≤ (d 146 (1 : Int)) ∧ (d 146 (1 : Int)) < 2147483648) ∧ ((((d 146 (1 : Int)) ≤ l1) → P (-2 : Int) d e) ∧ ((¬ (d 146 (1 : Int)) ≤ l1) → yB D xm_c248 (yQi L P) L 65 [.ref 146, .int (xJ l1), .int (xJ (0 : Int)), .double 0] [] d e))))) : yB D xm_c248 (yQi L P) L 59 [.ref 146, .int (xJ l1), .double 0, .double 0] [] d e := by
  refine yb_iload (x := l1) rfl rfl ?_
  refine yb_aload rfl rfl ?_
  refine yb_get (v := .int (xJ (d 146 (1 : Int)))) rfl (by decide) (by decide) (rfl) rfl ?_
  have r1 := h.1
  replace h := h.2
  have r2 := h.1
  replace h := h.2
  refine yb_icmp_ge (x := l1) (y := (d 146 (1 : Int))) rfl rfl r1 r2 (fun c => ?_) (fun c => ?_)
  · replace h := h.1 c
    refine yb_push (v := (-2)) rfl ?_
    exact yb_ret rfl h
  · replace h := h.2 c
    refine yb_push (v := 0) rfl ?_
    refine yb_istore rfl rfl rfl ?_
    exact h
theorem yk_248_65 {D L : Nat} {P : Int → xh_D → xd_E → Prop} {d : xh_D} {e : xd_E}  {l1 : Int} {l2 : Int}  (h : ((-2147483648 ≤ l2 ∧ l2 < 2147483648) ∧ ((((9 : Int) ≤ l2) → ((0 ≤ l1 ∧ l1 < 353) ∧ ((0 ≤ l1 ∧ l1 < 10) ∧ yB D xm_c248 (yQi L P) L 59 [.ref 146, .int (xJ (l1 + 1)), .double 0, .double 0] [] (xs d 164 l1 (d 147 l1)) e))) ∧ ((¬ (9 : Int) ≤ l2) → ((0 ≤ l1 ∧ l1 < 353) ∧ ((-2147483648 ≤ (d 147 l1) ∧ (d 147 l1) < 2147483648) ∧ (((¬ l2 = (d 147 l1)) → ((0 ≤ l1 ∧ l1 < 10) ∧ yB D xm_c248 (yQi L P) L 94 [.ref 146, .int (xJ l1), .int (xJ l2), .int (xJ (l1 + (1 : Int)))] [] (xs (xs (xs d 164 l1 l2) 167 (0 : Int) l1) 167 (1 : Int) l2) e)) ∧ ((l2 = (d 147 l1)) → yB D xm_c248 (yQi L P) L 65 [.ref 146, .int (xJ l1), .int (xJ (l2 + 1)), .double 0] [] d e)))))))) : yB D xm_c248 (yQi L P) L 65 [.ref 146, .int (xJ l1), .int (xJ l2), .double 0] [] d e := by
  refine yb_iload (x := l2) rfl rfl ?_
  refine yb_push (v := 9) rfl ?_
  have r1 := h.1
  replace h := h.2
  refine yb_icmp_ge (x := l2) (y := (9 : Int)) rfl rfl r1 (by decide) (fun c => ?_) (fun c => ?_)
  · replace h := h.1 c
    refine yb_aload rfl rfl ?_
    refine yb_get (v := .ref 164) rfl (by decide) (by decide) (rfl) rfl ?_
    refine yb_iload (x := l1) rfl rfl ?_
    refine yb_aload rfl rfl ?_
    refine yb_get (v := .ref 147) rfl (by decide) (by decide) (rfl) rfl ?_
    refine yb_iload (x := l1) rfl rfl ?_
    have r2 := h.1
    replace h := h.2
    refine yb_iald (j := l1) rfl xd_A147 (by decide) r2 (v := (d 147 l1)) rfl ?_
    have r3 := h.1
    replace h := h.2
    refine yb_iast (j := l1) (x := (d 147 l1)) rfl xd_A164 (by decide) r3 ?_
    refine yb_iinc (x := l1) (n := 1) rfl rfl rfl rfl ?_
    refine yb_goto rfl rfl ?_
    refine yb_forget (dl := [.ref 146, .int (xJ (l1 + 1)), .double 0, .double 0]) ⟨Or.inl rfl, ⟨Or.inl rfl, ⟨Or.inr ⟨rfl, rfl⟩, ⟨Or.inl rfl, trivial⟩⟩⟩⟩ ?_
    exact h
  · replace h := h.2 c
    refine yb_iload (x := l2) rfl rfl ?_
    refine yb_aload rfl rfl ?_
    refine yb_get (v := .ref 147) rfl (by decide) (by decide) (rfl) rfl ?_
    refine yb_iload (x := l1) rfl rfl ?_
    have r4 := h.1
    replace h := h.2
    refine yb_iald (j := l1) rfl xd_A147 (by decide) r4 (v := (d 147 l1)) rfl ?_
    have r5 := h.1
    replace h := h.2
    refine yb_icmp_ne (x := l2) (y := (d 147 l1)) rfl rfl r1 r5 (fun c => ?_) (fun c => ?_)
    · replace h := h.1 c
      refine yb_aload rfl rfl ?_
      refine yb_get (v := .ref 164) rfl (by decide) (by decide) (rfl) rfl ?_
      refine yb_iload (x := l1) rfl rfl ?_
      refine yb_iload (x := l2) rfl rfl ?_
      have r6 := h.1
      replace h := h.2
      refine yb_iast (j := l1) (x := l2) rfl xd_A164 (by decide) r6 ?_
      refine yb_aload rfl rfl ?_
      refine yb_get (v := .ref 167) rfl (by decide) (by decide) (rfl) rfl ?_
      refine yb_push (v := 0) rfl ?_
      refine yb_iload (x := l1) rfl rfl ?_
      refine yb_iast (j := (0 : Int)) (x := l1) rfl xd_A167 (by decide) (by decide) ?_
      refine yb_aload rfl rfl ?_
      refine yb_get (v := .ref 167) rfl (by decide) (by decide) (rfl) rfl ?_
      refine yb_push (v := 1) rfl ?_
      refine yb_iload (x := l2) rfl rfl ?_
      refine yb_iast (j := (1 : Int)) (x := l2) rfl xd_A167 (by decide) (by decide) ?_
      refine yb_iload (x := l1) rfl rfl ?_
      refine yb_push (v := 1) rfl ?_
      refine yb_iadd (x := l1) (y := (1 : Int)) rfl ?_
      refine yb_istore rfl rfl rfl ?_
      exact h
    · replace h := h.2 c
      refine yb_goto rfl rfl ?_
      refine yb_iinc (x := l2) (n := 1) rfl rfl rfl rfl ?_
      refine yb_goto rfl rfl ?_
      exact h
theorem yk_248_94 {D L : Nat} {P : Int → xh_D → xd_E → Prop} {d : xh_D} {e : xd_E}  {l1 : Int} {l2 : Int} {l3 : Int}  (h : ((-2147483648 ≤ l3 ∧ l3 < 2147483648) ∧ ((-2147483648 ≤ (d 146 (1 : Int)) ∧ (d 146 (1 : Int)) < 2147483648) ∧ ((((d 146 (1 : Int)) ≤ l3) → yB D xm_c248 (yQi L P) L 65 [.ref 146, .int (xJ l1), .int (xJ (l2 + 1)), .double 0] [] d e) ∧ ((¬ (d 146 (1 : Int)) ≤ l3) → yZ D 249 L [.ref 146, .int (xJ l3)] d e (fun d3 e4 => P (2 : Int) d3 e4) (fun d3 e4 => yB D xm_c248 (yQi L P) L 94 [.ref 146, .int (xJ l1), .int (xJ l2), .int (xJ (l3 + 1))] [] d3 e4)))))) : yB D xm_c248 (yQi L P) L 94 [.ref 146, .int (xJ l1), .int (xJ l2), .int (xJ l3)] [] d e := by
  refine yb_iload (x := l3) rfl rfl ?_
  refine yb_aload rfl rfl ?_
  refine yb_get (v := .int (xJ (d 146 (1 : Int)))) rfl (by decide) (by decide) (rfl) rfl ?_
  have r1 := h.1
  replace h := h.2
  have r2 := h.1
  replace h := h.2
  refine yb_icmp_ge (x := l3) (y := (d 146 (1 : Int))) rfl rfl r1 r2 (fun c => ?_) (fun c => ?_)
  · replace h := h.1 c
    refine yb_iinc (x := l2) (n := 1) rfl rfl rfl rfl ?_
    refine yb_goto rfl rfl ?_
    refine yb_forget (dl := [.ref 146, .int (xJ l1), .int (xJ (l2 + 1)), .double 0]) ⟨Or.inl rfl, ⟨Or.inl rfl, ⟨Or.inl rfl, ⟨Or.inr ⟨rfl, rfl⟩, trivial⟩⟩⟩⟩ ?_
    exact h
  · replace h := h.2 c
    refine yb_aload rfl rfl ?_
    refine yb_iload (x := l3) rfl rfl ?_
    refine yb_callVz (As := [.int (xJ l3)]) (a := 146) rfl rfl rfl rfl rfl rfl rfl rfl (by decide) (by decide) (rfl) (by decide) (yZ_mono h (fun d3 e4 h => ?_) (fun d3 e4 h => ?_))
    · refine yb_if_eq (x := (1 : Int)) rfl rfl (by decide) (fun c => absurd c (by decide)) (fun _ => ?_)
      refine yb_push (v := 2) rfl ?_
      exact yb_ret rfl h
    · refine yb_if_eq (x := (0 : Int)) rfl rfl (by decide) (fun _ => ?_) (fun c => absurd (by decide) c)
      refine yb_iinc (x := l3) (n := 1) rfl rfl rfl rfl ?_
      refine yb_goto rfl rfl ?_
      exact h
theorem yk_249_0 {D L : Nat} {P1 P0 : xh_D → xd_E → Prop} {d : xh_D} {e : xd_E} {a1 : Int}   (h : yB D xm_c249 (yQz L P1 P0) L 2 [.ref 146, .int (xJ a1), .int (xJ (0 : Int))] [] d e) : yB D xm_c249 (yQz L P1 P0) L 0 [.ref 146, .int (xJ a1), .double 0] [] d e := by
  refine yb_push (v := 0) rfl ?_
  refine yb_istore rfl rfl rfl ?_
  exact h
theorem yk_249_2 {D L : Nat} {P1 P0 : xh_D → xd_E → Prop} {d : xh_D} {e : xd_E}  {l1 : Int} {l2 : Int}  (h : ((-2147483648 ≤ l2 ∧ l2 < 2147483648) ∧ ((((9 : Int) ≤ l2) → ((0 ≤ l1 ∧ l1 < 353) ∧ ((0 ≤ l1 ∧ l1 < 10) ∧ P0 (xs d 164 l1 (d 147 l1)) e))) ∧ ((¬ (9 : Int) ≤ l2) → ((0 ≤ l1 ∧ l1 < 353) ∧ ((-2147483648 ≤ (d 147 l1) ∧ (d 147 l1) < 2147483648) ∧ (((¬ l2 = (d 147 l1)) → ((0 ≤ l1 ∧ l1 < 10) ∧ yC D 244 L [.ref 146] (xs (xs (xs d 164 l1 l2) 167 (2 : Int) l1) 167 (3 : Int) l2) e (fun x7 d8 e9 => ((-2147483648 ≤ x7 ∧ x7 < 2147483648) ∧ (((¬ x7 = 0) → yB D xm_c249 (yQz L P1 P0) L 2 [.ref 146, .int (xJ l1), .int (xJ (l2 + 1))] [] d8 e9) ∧ ((x7 = 0) → P1 d8 e9)))))) ∧ ((l2 = (d 147 l1)) → yB D xm_c249 (yQz L P1 P0) L 2 [.ref 146, .int (xJ l1), .int (xJ (l2 + 1))] [] d e)))))))) : yB D xm_c249 (yQz L P1 P0) L 2 [.ref 146, .int (xJ l1), .int (xJ l2)] [] d e := by
  refine yb_iload (x := l2) rfl rfl ?_
  refine yb_push (v := 9) rfl ?_
  have r1 := h.1
  replace h := h.2
  refine yb_icmp_ge (x := l2) (y := (9 : Int)) rfl rfl r1 (by decide) (fun c => ?_) (fun c => ?_)
  · replace h := h.1 c
    refine yb_aload rfl rfl ?_
    refine yb_get (v := .ref 164) rfl (by decide) (by decide) (rfl) rfl ?_
    refine yb_iload (x := l1) rfl rfl ?_
    refine yb_aload rfl rfl ?_
    refine yb_get (v := .ref 147) rfl (by decide) (by decide) (rfl) rfl ?_
    refine yb_iload (x := l1) rfl rfl ?_
    have r2 := h.1
    replace h := h.2
    refine yb_iald (j := l1) rfl xd_A147 (by decide) r2 (v := (d 147 l1)) rfl ?_
    have r3 := h.1
    replace h := h.2
    refine yb_iast (j := l1) (x := (d 147 l1)) rfl xd_A164 (by decide) r3 ?_
    refine yb_push (v := 0) rfl ?_
    exact yb_ret0 rfl h
  · replace h := h.2 c
    refine yb_iload (x := l2) rfl rfl ?_
    refine yb_aload rfl rfl ?_
    refine yb_get (v := .ref 147) rfl (by decide) (by decide) (rfl) rfl ?_
    refine yb_iload (x := l1) rfl rfl ?_
    have r4 := h.1
    replace h := h.2
    refine yb_iald (j := l1) rfl xd_A147 (by decide) r4 (v := (d 147 l1)) rfl ?_
    have r5 := h.1
    replace h := h.2
    refine yb_icmp_ne (x := l2) (y := (d 147 l1)) rfl rfl r1 r5 (fun c => ?_) (fun c => ?_)
    · replace h := h.1 c
      refine yb_aload rfl rfl ?_
      refine yb_get (v := .ref 164) rfl (by decide) (by decide) (rfl) rfl ?_
      refine yb_iload (x := l1) rfl rfl ?_
      refine yb_iload (x := l2) rfl rfl ?_
      have r6 := h.1
      replace h := h.2
      refine yb_iast (j := l1) (x := l2) rfl xd_A164 (by decide) r6 ?_
      refine yb_aload rfl rfl ?_
      refine yb_get (v := .ref 167) rfl (by decide) (by decide) (rfl) rfl ?_
      refine yb_push (v := 2) rfl ?_
      refine yb_iload (x := l1) rfl rfl ?_
      refine yb_iast (j := (2 : Int)) (x := l1) rfl xd_A167 (by decide) (by decide) ?_
      refine yb_aload rfl rfl ?_
      refine yb_get (v := .ref 167) rfl (by decide) (by decide) (rfl) rfl ?_
      refine yb_push (v := 3) rfl ?_
      refine yb_iload (x := l2) rfl rfl ?_
      refine yb_iast (j := (3 : Int)) (x := l2) rfl xd_A167 (by decide) (by decide) ?_
      refine yb_aload rfl rfl ?_
      refine yb_callVi (As := []) (a := 146) rfl rfl rfl rfl rfl rfl rfl rfl (by decide) (by decide) (rfl) (by decide) (yC_mono h (fun x7 d8 e9 h => ?_))
      have r10 := h.1
      replace h := h.2
      refine yb_if_ne (x := x7) rfl rfl r10 (fun c => ?_) (fun c => ?_)
      · replace h := h.1 c
        refine yb_iinc (x := l2) (n := 1) rfl rfl rfl rfl ?_
        refine yb_goto rfl rfl ?_
        exact h
      · replace h := h.2 c
        refine yb_push (v := 1) rfl ?_
        exact yb_ret1 rfl h
    · replace h := h.2 c
      refine yb_goto rfl rfl ?_
      refine yb_iinc (x := l2) (n := 1) rfl rfl rfl rfl ?_
      refine yb_goto rfl rfl ?_
      exact h
theorem yk_250_0 {D L : Nat} {P : Int → xh_D → xd_E → Prop} {d : xh_D} {e : xd_E}    (h : yC D 248 L [.ref 146] d e (fun x1 d2 e3 => ((-2147483648 ≤ x1 ∧ x1 < 2147483648) ∧ (((0 ≤ x1) → yB D xm_c250 (yQi L P) L 12 [.ref 146, .int (xJ x1), .int (xJ (0 : Int))] [] (xs d2 146 (7 : Int) (0 : Int)) e3) ∧ ((¬ 0 ≤ x1) → P x1 d2 e3))))) : yB D xm_c250 (yQi L P) L 0 [.ref 146, .double 0, .double 0] [] d e := by
  refine yb_aload rfl rfl ?_
  refine yb_callVi (As := []) (a := 146) rfl rfl rfl rfl rfl rfl rfl rfl (by decide) (by decide) (rfl) (by decide) (yC_mono h (fun x1 d2 e3 h => ?_))
  refine yb_istore rfl rfl rfl ?_
  refine yb_iload (x := x1) rfl rfl ?_
  have r4 := h.1
  replace h := h.2
  refine yb_if_ge (x := x1) rfl rfl r4 (fun c => ?_) (fun c => ?_)
  · replace h := h.1 c
    refine yb_aload rfl rfl ?_
    refine yb_push (v := 0) rfl ?_
    refine yb_put (z := (0 : Int)) (k := 7) rfl rfl (by decide) (by decide) (rfl) (Nat.le_of_ble_eq_true rfl) rfl (rfl) ?_
    refine yb_push (v := 0) rfl ?_
    refine yb_istore rfl rfl rfl ?_
    exact h
  · replace h := h.2 c
    refine yb_iload (x := x1) rfl rfl ?_
    exact yb_ret rfl h
theorem yk_250_12 {D L : Nat} {P : Int → xh_D → xd_E → Prop} {d : xh_D} {e : xd_E}  {l1 : Int} {l2 : Int}  (hD : 1 ≤ D) (h : ((-2147483648 ≤ l2 ∧ l2 < 2147483648) ∧ ((-2147483648 ≤ ((2 : Int) * l1) ∧ ((2 : Int) * l1) < 2147483648) ∧ (((((2 : Int) * l1) ≤ l2) → P l1 d e) ∧ ((¬ ((2 : Int) * l1) ≤ l2) → ((0 ≤ l2 ∧ l2 < 4) ∧ ((0 ≤ (d 146 (7 : Int)) ∧ (d 146 (7 : Int)) < 20) ∧ yB D xm_c250 (yQi L P) L 12 [.ref 146, .int (xJ l1), .int (xJ (l2 + 1))] [] (xs (xs d 151 (d 146 (7 : Int)) (d 167 l2)) 146 (7 : Int) ((d 146 (7 : Int)) + 1)) e))))))) : yB D xm_c250 (yQi L P) L 12 [.ref 146, .int (xJ l1), .int (xJ l2)] [] d e := by
  refine yb_iload (x := l2) rfl rfl ?_
  refine yb_push (v := 2) rfl ?_
  refine yb_iload (x := l1) rfl rfl ?_
  refine yb_imul (x := (2 : Int)) (y := l1) rfl ?_
  have r1 := h.1
  replace h := h.2
  have r2 := h.1
  replace h := h.2
  refine yb_icmp_ge (x := l2) (y := ((2 : Int) * l1)) rfl rfl r1 r2 (fun c => ?_) (fun c => ?_)
  · replace h := h.1 c
    refine yb_iload (x := l1) rfl rfl ?_
    exact yb_ret rfl h
  · replace h := h.2 c
    refine yb_aload rfl rfl ?_
    refine yb_aload rfl rfl ?_
    refine yb_get (v := .ref 167) rfl (by decide) (by decide) (rfl) rfl ?_
    refine yb_iload (x := l2) rfl rfl ?_
    have r3 := h.1
    replace h := h.2
    refine yb_iald (j := l2) rfl xd_A167 (by decide) r3 (v := (d 167 l2)) rfl ?_
    have r4 := h.1
    replace h := h.2
    refine yb_callVv (As := [.int (xJ (d 167 l2))]) (a := 146) rfl rfl rfl rfl rfl rfl rfl rfl (by decide) (by decide) (rfl) (by decide) (sp_183 (by omega) r4 ?_)
    show yB D xm_c250 _ L 23 [.ref 146, .int (xJ l1), .int (xJ l2)] [] (xs (xs d 151 (d 146 (7 : Int)) (d 167 l2)) 146 (7 : Int) ((d 146 (7 : Int)) + 1)) e
    refine yb_iinc (x := l2) (n := 1) rfl rfl rfl rfl ?_
    refine yb_goto rfl rfl ?_
    exact h
theorem yk_251_0 {D L : Nat} {P : Int → xh_D → xd_E → Prop} {d : xh_D} {e : xd_E}    (h : yC D 250 L [.ref 146] (xs d 146 (8 : Int) (0 : Int)) e (fun x1 d2 e3 => P x1 d2 e3)) : yB D xm_c251 (yQi L P) L 0 [.ref 146] [] d e := by
  refine yb_aload rfl rfl ?_
  refine yb_push (v := 0) rfl ?_
  refine yb_put (z := (0 : Int)) (k := 8) rfl rfl (by decide) (by decide) (rfl) (Nat.le_of_ble_eq_true rfl) rfl (rfl) ?_
  refine yb_aload rfl rfl ?_
  refine yb_callVi (As := []) (a := 146) rfl rfl rfl rfl rfl rfl rfl rfl (by decide) (by decide) (rfl) (by decide) (yC_mono h (fun x1 d2 e3 h => ?_))
  exact yb_ret rfl h
theorem yk_252_0 {D L : Nat} {P : Int → xh_D → xd_E → Prop} {d : xh_D} {e : xd_E}    (h : yC D 250 L [.ref 146] (xs d 146 (8 : Int) (0 : Int)) e (fun x1 d2 e3 => ((-2147483648 ≤ x1 ∧ x1 < 2147483648) ∧ (((0 < x1) → yV D 226 L [.ref 146, .ref 147] d2 e3 (fun d5 e6 => yB D xm_c252 (yQi L P) L 16 [.ref 146, .int (xJ x1), .int (xJ (0 : Int))] [] d5 e6)) ∧ ((¬ 0 < x1) → P x1 d2 e3))))) : yB D xm_c252 (yQi L P) L 0 [.ref 146, .double 0, .double 0] [] d e := by
  refine yb_aload rfl rfl ?_
  refine yb_push (v := 0) rfl ?_
  refine yb_put (z := (0 : Int)) (k := 8) rfl rfl (by decide) (by decide) (rfl) (Nat.le_of_ble_eq_true rfl) rfl (rfl) ?_
  refine yb_aload rfl rfl ?_
  refine yb_callVi (As := []) (a := 146) rfl rfl rfl rfl rfl rfl rfl rfl (by decide) (by decide) (rfl) (by decide) (yC_mono h (fun x1 d2 e3 h => ?_))
  refine yb_istore rfl rfl rfl ?_
  refine yb_iload (x := x1) rfl rfl ?_
  have r4 := h.1
  replace h := h.2
  refine yb_if_gt (x := x1) rfl rfl r4 (fun c => ?_) (fun c => ?_)
  · replace h := h.1 c
    refine yb_aload rfl rfl ?_
    refine yb_aload rfl rfl ?_
    refine yb_get (v := .ref 147) rfl (by decide) (by decide) (rfl) rfl ?_
    refine yb_callVv (As := [.ref 147]) (a := 146) rfl rfl rfl rfl rfl rfl rfl rfl (by decide) (by decide) (rfl) (by decide) (yV_mono h (fun d5 e6 h => ?_))
    refine yb_push (v := 0) rfl ?_
    refine yb_istore rfl rfl rfl ?_
    exact h
  · replace h := h.2 c
    refine yb_iload (x := x1) rfl rfl ?_
    exact yb_ret rfl h
theorem yk_252_16 {D L : Nat} {P : Int → xh_D → xd_E → Prop} {d : xh_D} {e : xd_E}  {l1 : Int} {l2 : Int}  (h : ((-2147483648 ≤ l2 ∧ l2 < 2147483648) ∧ ((-2147483648 ≤ l1 ∧ l1 < 2147483648) ∧ (((l1 ≤ l2) → P l1 d e) ∧ ((¬ l1 ≤ l2) → ((0 ≤ ((2 : Int) * l2) ∧ ((2 : Int) * l2) < 4) ∧ ((0 ≤ (((2 : Int) * l2) + (1 : Int)) ∧ (((2 : Int) * l2) + (1 : Int)) < 4) ∧ ((0 ≤ (d 167 ((2 : Int) * l2)) ∧ (d 167 ((2 : Int) * l2)) < 353) ∧ yB D xm_c252 (yQi L P) L 16 [.ref 146, .int (xJ l1), .int (xJ (l2 + 1))] [] (xs d 147 (d 167 ((2 : Int) * l2)) (d 167 (((2 : Int) * l2) + (1 : Int)))) e)))))))) : yB D xm_c252 (yQi L P) L 16 [.ref 146, .int (xJ l1), .int (xJ l2)] [] d e := by
  refine yb_iload (x := l2) rfl rfl ?_
  refine yb_iload (x := l1) rfl rfl ?_
  have r1 := h.1
  replace h := h.2
  have r2 := h.1
  replace h := h.2
  refine yb_icmp_ge (x := l2) (y := l1) rfl rfl r1 r2 (fun c => ?_) (fun c => ?_)
  · replace h := h.1 c
    refine yb_iload (x := l1) rfl rfl ?_
    exact yb_ret rfl h
  · replace h := h.2 c
    refine yb_aload rfl rfl ?_
    refine yb_get (v := .ref 147) rfl (by decide) (by decide) (rfl) rfl ?_
    refine yb_aload rfl rfl ?_
    refine yb_get (v := .ref 167) rfl (by decide) (by decide) (rfl) rfl ?_
    refine yb_push (v := 2) rfl ?_
    refine yb_iload (x := l2) rfl rfl ?_
    refine yb_imul (x := (2 : Int)) (y := l2) rfl ?_
    have r3 := h.1
    replace h := h.2
    refine yb_iald (j := ((2 : Int) * l2)) rfl xd_A167 (by decide) r3 (v := (d 167 ((2 : Int) * l2))) rfl ?_
    refine yb_aload rfl rfl ?_
    refine yb_get (v := .ref 167) rfl (by decide) (by decide) (rfl) rfl ?_
    refine yb_push (v := 2) rfl ?_
    refine yb_iload (x := l2) rfl rfl ?_
    refine yb_imul (x := (2 : Int)) (y := l2) rfl ?_
    refine yb_push (v := 1) rfl ?_
    refine yb_iadd (x := ((2 : Int) * l2)) (y := (1 : Int)) rfl ?_
    have r4 := h.1
    replace h := h.2
    refine yb_iald (j := (((2 : Int) * l2) + (1 : Int))) rfl xd_A167 (by decide) r4 (v := (d 167 (((2 : Int) * l2) + (1 : Int)))) rfl ?_
    have r5 := h.1
    replace h := h.2
    refine yb_iast (j := (d 167 ((2 : Int) * l2))) (x := (d 167 (((2 : Int) * l2) + (1 : Int)))) rfl xd_A147 (by decide) r5 ?_
    refine yb_iinc (x := l2) (n := 1) rfl rfl rfl rfl ?_
    refine yb_goto rfl rfl ?_
    exact h
theorem yk_253_0 {D L : Nat} {P : Int → xh_D → xd_E → Prop} {d : xh_D} {e : xd_E} {a1 : Int}   (hD : 1 ≤ D) (h : ((-2147483648 ≤ a1 ∧ a1 < 2147483648) ∧ ((((0 : Int) ≤ a1 ∧ a1 ≤ (63 : Int)) → yV D 241 L [.ref 146] (xs d 146 (8 : Int) (0 : Int)) e (fun d2 e3 => ((0 ≤ (d2 146 (1 : Int)) ∧ (d2 146 (1 : Int)) < 10) ∧ yB D xm_c253 (yQi L P) L 30 [.ref 146, .double 0, .int (xJ (0 : Int)), .int (xJ (1000000 : Int)), .int (xJ (0 : Int)), .double 0] [] (xs (xs d2 165 (d2 146 (1 : Int)) a1) 146 (41 : Int) ((d2 146 (1 : Int)) + (1 : Int))) e3))) ∧ (¬ ((0 : Int) ≤ a1 ∧ a1 ≤ (63 : Int)) → P (-1 : Int) (xs d 146 (8 : Int) (0 : Int)) e)))) : yB D xm_c253 (yQi L P) L 0 [.ref 146, .int (xJ a1), .double 0, .double 0, .double 0, .double 0] [] d e := by
  refine yb_aload rfl rfl ?_
  refine yb_push (v := 0) rfl ?_
  refine yb_put (z := (0 : Int)) (k := 8) rfl rfl (by decide) (by decide) (rfl) (Nat.le_of_ble_eq_true rfl) rfl (rfl) ?_
  refine yb_iload (x := a1) rfl rfl ?_
  refine yb_push (v := 0) rfl ?_
  refine yb_push (v := 63) rfl ?_
  have r1 := h.1
  replace h := h.2
  refine yb_callSz (As := [.int (xJ a1), .int (xJ (0 : Int)), .int (xJ (63 : Int))]) rfl rfl rfl rfl rfl rfl rfl rfl (by decide) (sp_180 (by omega) ⟨r1, (by show (-2147483648 ≤ (0 : Int) ∧ (0 : Int) < 2147483648); decide), (by show (-2147483648 ≤ (63 : Int) ∧ (63 : Int) < 2147483648); decide)⟩ (fun c => ?_) (fun c => ?_))
  · replace h := h.1 c
    show yB D xm_c253 _ L 7 [.ref 146, .int (xJ a1), .double 0, .double 0, .double 0, .double 0] [.int (xJ (1 : Int))] (xs d 146 (8 : Int) (0 : Int)) e
    refine yb_if_ne (x := (1 : Int)) rfl rfl (by decide) (fun _ => ?_) (fun c => absurd c (by decide))
    refine yb_aload rfl rfl ?_
    refine yb_callVv (As := []) (a := 146) rfl rfl rfl rfl rfl rfl rfl rfl (by decide) (by decide) (rfl) (by decide) (yV_mono h (fun d2 e3 h => ?_))
    refine yb_push (v := 0) rfl ?_
    refine yb_istore rfl rfl rfl ?_
    refine yb_push (v := 1000000) rfl ?_
    refine yb_istore rfl rfl rfl ?_
    refine yb_aload rfl rfl ?_
    refine yb_get (v := .ref 165) rfl (by decide) (by decide) (rfl) rfl ?_
    refine yb_aload rfl rfl ?_
    refine yb_get (v := .int (xJ (d2 146 (1 : Int)))) rfl (by decide) (by decide) (rfl) rfl ?_
    refine yb_iload (x := a1) rfl rfl ?_
    have r4 := h.1
    replace h := h.2
    refine yb_iast (j := (d2 146 (1 : Int))) (x := a1) rfl xd_A165 (by decide) r4 ?_
    refine yb_aload rfl rfl ?_
    refine yb_aload rfl rfl ?_
    refine yb_get (v := .int (xJ (d2 146 (1 : Int)))) rfl (by decide) (by decide) (rfl) rfl ?_
    refine yb_push (v := 1) rfl ?_
    refine yb_iadd (x := (d2 146 (1 : Int))) (y := (1 : Int)) rfl ?_
    refine yb_put (z := ((d2 146 (1 : Int)) + (1 : Int))) (k := 41) rfl rfl (by decide) (by decide) (rfl) (Nat.le_of_ble_eq_true rfl) rfl (rfl) ?_
    refine yb_push (v := 0) rfl ?_
    refine yb_istore rfl rfl rfl ?_
    refine yb_forget (dl := [.ref 146, .double 0, .int (xJ (0 : Int)), .int (xJ (1000000 : Int)), .int (xJ (0 : Int)), .double 0]) ⟨Or.inl rfl, ⟨Or.inr ⟨rfl, rfl⟩, ⟨Or.inl rfl, ⟨Or.inl rfl, ⟨Or.inl rfl, ⟨Or.inl rfl, trivial⟩⟩⟩⟩⟩⟩ ?_
    exact h
  · replace h := h.2 c
    show yB D xm_c253 _ L 7 [.ref 146, .int (xJ a1), .double 0, .double 0, .double 0, .double 0] [.int (xJ (0 : Int))] (xs d 146 (8 : Int) (0 : Int)) e
    refine yb_if_ne (x := (0 : Int)) rfl rfl (by decide) (fun c => absurd (by decide) c) (fun _ => ?_)
    refine yb_push (v := (-1)) rfl ?_
    exact yb_ret rfl h
theorem yk_253_30 {D L : Nat} {P : Int → xh_D → xd_E → Prop} {d : xh_D} {e : xd_E}  {l2 : Int} {l3 : Int} {l4 : Int}  (hD : 1 ≤ D) (h : ((-2147483648 ≤ l4 ∧ l4 < 2147483648) ∧ ((((9 : Int) ≤ l4) → P l2 (xs (xs (xs d 146 (7 : Int) (0 : Int)) 151 (0 : Int) l3) 146 (7 : Int) ((0 : Int) + 1)) e) ∧ ((¬ (9 : Int) ≤ l4) → ((0 ≤ (d 146 (1 : Int)) ∧ (d 146 (1 : Int)) < 10) ∧ yC D 244 L [.ref 146] (xs d 164 (d 146 (1 : Int)) l4) e (fun x3 d4 e5 => ((-2147483648 ≤ x3 ∧ x3 < 2147483648) ∧ ((-2147483648 ≤ l3 ∧ l3 < 2147483648) ∧ (((x3 < l3) → yB D xm_c253 (yQi L P) L 30 [.ref 146, .double 0, .int (xJ l4), .int (xJ x3), .int (xJ (l4 + 1)), .double 0] [] d4 e5) ∧ ((¬ x3 < l3) → yB D xm_c253 (yQi L P) L 30 [.ref 146, .double 0, .int (xJ l2), .int (xJ l3), .int (xJ (l4 + 1)), .double 0] [] d4 e5)))))))))) : yB D xm_c253 (yQi L P) L 30 [.ref 146, .double 0, .int (xJ l2), .int (xJ l3), .int (xJ l4), .double 0] [] d e := by
  refine yb_iload (x := l4) rfl rfl ?_
  refine yb_push (v := 9) rfl ?_
  have r1 := h.1
  replace h := h.2
  refine yb_icmp_ge (x := l4) (y := (9 : Int)) rfl rfl r1 (by decide) (fun c => ?_) (fun c => ?_)
  · replace h := h.1 c
    refine yb_aload rfl rfl ?_
    refine yb_push (v := 0) rfl ?_
    refine yb_put (z := (0 : Int)) (k := 7) rfl rfl (by decide) (by decide) (rfl) (Nat.le_of_ble_eq_true rfl) rfl (rfl) ?_
    refine yb_aload rfl rfl ?_
    refine yb_iload (x := l3) rfl rfl ?_
    refine yb_callVv (As := [.int (xJ l3)]) (a := 146) rfl rfl rfl rfl rfl rfl rfl rfl (by decide) (by decide) (rfl) (by decide) (sp_183 (by omega) (by show (0 ≤ (0 : Int) ∧ (0 : Int) < 20); decide) ?_)
    show yB D xm_c253 _ L 58 [.ref 146, .double 0, .int (xJ l2), .int (xJ l3), .int (xJ l4), .double 0] [] (xs (xs (xs d 146 (7 : Int) (0 : Int)) 151 (0 : Int) l3) 146 (7 : Int) ((0 : Int) + 1)) e
    refine yb_iload (x := l2) rfl rfl ?_
    exact yb_ret rfl h
  · replace h := h.2 c
    refine yb_aload rfl rfl ?_
    refine yb_get (v := .ref 164) rfl (by decide) (by decide) (rfl) rfl ?_
    refine yb_aload rfl rfl ?_
    refine yb_get (v := .int (xJ (d 146 (1 : Int)))) rfl (by decide) (by decide) (rfl) rfl ?_
    refine yb_iload (x := l4) rfl rfl ?_
    have r2 := h.1
    replace h := h.2
    refine yb_iast (j := (d 146 (1 : Int))) (x := l4) rfl xd_A164 (by decide) r2 ?_
    refine yb_aload rfl rfl ?_
    refine yb_callVi (As := []) (a := 146) rfl rfl rfl rfl rfl rfl rfl rfl (by decide) (by decide) (rfl) (by decide) (yC_mono h (fun x3 d4 e5 h => ?_))
    refine yb_istore rfl rfl rfl ?_
    refine yb_iload (x := x3) rfl rfl ?_
    refine yb_iload (x := l3) rfl rfl ?_
    have r6 := h.1
    replace h := h.2
    have r7 := h.1
    replace h := h.2
    refine yb_icmp_lt (x := x3) (y := l3) rfl rfl r6 r7 (fun c => ?_) (fun c => ?_)
    · replace h := h.1 c
      refine yb_iload (x := l4) rfl rfl ?_
      refine yb_istore rfl rfl rfl ?_
      refine yb_iload (x := x3) rfl rfl ?_
      refine yb_istore rfl rfl rfl ?_
      refine yb_iinc (x := l4) (n := 1) rfl rfl rfl rfl ?_
      refine yb_goto rfl rfl ?_
      refine yb_forget (dl := [.ref 146, .double 0, .int (xJ l4), .int (xJ x3), .int (xJ (l4 + 1)), .double 0]) ⟨Or.inl rfl, ⟨Or.inl rfl, ⟨Or.inl rfl, ⟨Or.inl rfl, ⟨Or.inl rfl, ⟨Or.inr ⟨rfl, rfl⟩, trivial⟩⟩⟩⟩⟩⟩ ?_
      exact h
    · replace h := h.2 c
      refine yb_goto rfl rfl ?_
      refine yb_iinc (x := l4) (n := 1) rfl rfl rfl rfl ?_
      refine yb_goto rfl rfl ?_
      refine yb_forget (dl := [.ref 146, .double 0, .int (xJ l2), .int (xJ l3), .int (xJ (l4 + 1)), .double 0]) ⟨Or.inl rfl, ⟨Or.inl rfl, ⟨Or.inl rfl, ⟨Or.inl rfl, ⟨Or.inl rfl, ⟨Or.inr ⟨rfl, rfl⟩, trivial⟩⟩⟩⟩⟩⟩ ?_
      exact h
theorem yk_254_0 {D L : Nat} {P : Int → xh_D → xd_E → Prop} {d : xh_D} {e : xd_E}    (h : yV D 241 L [.ref 146] (xs d 146 (8 : Int) (0 : Int)) e (fun d1 e2 => yC D 244 L [.ref 146] d1 e2 (fun x3 d4 e5 => yB D xm_c254 (yQi L P) L 12 [.ref 146, .int (xJ x3), .int (xJ (0 : Int)), .int (xJ (0 : Int)), .double 0] [] d4 e5))) : yB D xm_c254 (yQi L P) L 0 [.ref 146, .double 0, .double 0, .double 0, .double 0] [] d e := by
  refine yb_aload rfl rfl ?_
  refine yb_push (v := 0) rfl ?_
  refine yb_put (z := (0 : Int)) (k := 8) rfl rfl (by decide) (by decide) (rfl) (Nat.le_of_ble_eq_true rfl) rfl (rfl) ?_
  refine yb_aload rfl rfl ?_
  refine yb_callVv (As := []) (a := 146) rfl rfl rfl rfl rfl rfl rfl rfl (by decide) (by decide) (rfl) (by decide) (yV_mono h (fun d1 e2 h => ?_))
  refine yb_aload rfl rfl ?_
  refine yb_callVi (As := []) (a := 146) rfl rfl rfl rfl rfl rfl rfl rfl (by decide) (by decide) (rfl) (by decide) (yC_mono h (fun x3 d4 e5 h => ?_))
  refine yb_istore rfl rfl rfl ?_
  refine yb_push (v := 0) rfl ?_
  refine yb_istore rfl rfl rfl ?_
  refine yb_push (v := 0) rfl ?_
  refine yb_istore rfl rfl rfl ?_
  exact h
theorem yk_254_12 {D L : Nat} {P : Int → xh_D → xd_E → Prop} {d : xh_D} {e : xd_E}  {l1 : Int} {l2 : Int} {l3 : Int}  (h : ((-2147483648 ≤ l3 ∧ l3 < 2147483648) ∧ ((-2147483648 ≤ (d 146 (1 : Int)) ∧ (d 146 (1 : Int)) < 2147483648) ∧ ((((d 146 (1 : Int)) ≤ l3) → P l2 d e) ∧ ((¬ (d 146 (1 : Int)) ≤ l3) → ((0 ≤ l3 ∧ l3 < 10) ∧ yC D 244 L [.ref 146] (xs d 165 l3 (0 : Int)) e (fun x4 d5 e6 => ((-2147483648 ≤ x4 ∧ x4 < 2147483648) ∧ ((-2147483648 ≤ l1 ∧ l1 < 2147483648) ∧ (((x4 ≤ l1) → yB D xm_c254 (yQi L P) L 12 [.ref 146, .int (xJ l1), .int (xJ (xi_or l2 (0 : Int))), .int (xJ (l3 + 1)), .double 0] [] (xs d5 165 l3 (d 165 l3)) e6) ∧ ((¬ x4 ≤ l1) → yB D xm_c254 (yQi L P) L 12 [.ref 146, .int (xJ l1), .int (xJ (xi_or l2 (xi_shl (1 : Int) l3))), .int (xJ (l3 + 1)), .double 0] [] (xs d5 165 l3 (d 165 l3)) e6))))))))))) : yB D xm_c254 (yQi L P) L 12 [.ref 146, .int (xJ l1), .int (xJ l2), .int (xJ l3), .double 0] [] d e := by
  refine yb_iload (x := l3) rfl rfl ?_
  refine yb_aload rfl rfl ?_
  refine yb_get (v := .int (xJ (d 146 (1 : Int)))) rfl (by decide) (by decide) (rfl) rfl ?_
  have r1 := h.1
  replace h := h.2
  have r2 := h.1
  replace h := h.2
  refine yb_icmp_ge (x := l3) (y := (d 146 (1 : Int))) rfl rfl r1 r2 (fun c => ?_) (fun c => ?_)
  · replace h := h.1 c
    refine yb_iload (x := l2) rfl rfl ?_
    exact yb_ret rfl h
  · replace h := h.2 c
    refine yb_aload rfl rfl ?_
    refine yb_get (v := .ref 165) rfl (by decide) (by decide) (rfl) rfl ?_
    refine yb_iload (x := l3) rfl rfl ?_
    have r3 := h.1
    replace h := h.2
    refine yb_iald (j := l3) rfl xd_A165 (by decide) r3 (v := (d 165 l3)) rfl ?_
    refine yb_istore rfl rfl rfl ?_
    refine yb_aload rfl rfl ?_
    refine yb_get (v := .ref 165) rfl (by decide) (by decide) (rfl) rfl ?_
    refine yb_iload (x := l3) rfl rfl ?_
    refine yb_push (v := 0) rfl ?_
    refine yb_iast (j := l3) (x := (0 : Int)) rfl xd_A165 (by decide) r3 ?_
    refine yb_iload (x := l2) rfl rfl ?_
    refine yb_aload rfl rfl ?_
    refine yb_callVi (As := []) (a := 146) rfl rfl rfl rfl rfl rfl rfl rfl (by decide) (by decide) (rfl) (by show (1 : Nat) ≤ 8; decide) (yC_mono h (fun x4 d5 e6 h => ?_))
    refine yb_iload (x := l1) rfl rfl ?_
    have r7 := h.1
    replace h := h.2
    have r8 := h.1
    replace h := h.2
    refine yb_icmp_le (x := x4) (y := l1) rfl rfl r7 r8 (fun c => ?_) (fun c => ?_)
    · replace h := h.1 c
      refine yb_push (v := 0) rfl ?_
      refine yb_ior (x := l2) (y := (0 : Int)) rfl ?_
      refine yb_istore rfl rfl rfl ?_
      refine yb_aload rfl rfl ?_
      refine yb_get (v := .ref 165) rfl (by decide) (by decide) (rfl) rfl ?_
      refine yb_iload (x := l3) rfl rfl ?_
      refine yb_iload (x := (d 165 l3)) rfl rfl ?_
      refine yb_iast (j := l3) (x := (d 165 l3)) rfl xd_A165 (by decide) r3 ?_
      refine yb_iinc (x := l3) (n := 1) rfl rfl rfl rfl ?_
      refine yb_goto rfl rfl ?_
      refine yb_forget (dl := [.ref 146, .int (xJ l1), .int (xJ (xi_or l2 (0 : Int))), .int (xJ (l3 + 1)), .double 0]) ⟨Or.inl rfl, ⟨Or.inl rfl, ⟨Or.inl rfl, ⟨Or.inl rfl, ⟨Or.inr ⟨rfl, rfl⟩, trivial⟩⟩⟩⟩⟩ ?_
      exact h
    · replace h := h.2 c
      refine yb_push (v := 1) rfl ?_
      refine yb_iload (x := l3) rfl rfl ?_
      refine yb_ishl (x := (1 : Int)) (y := l3) rfl ?_
      refine yb_goto rfl rfl ?_
      refine yb_ior (x := l2) (y := (xi_shl (1 : Int) l3)) rfl ?_
      refine yb_istore rfl rfl rfl ?_
      refine yb_aload rfl rfl ?_
      refine yb_get (v := .ref 165) rfl (by decide) (by decide) (rfl) rfl ?_
      refine yb_iload (x := l3) rfl rfl ?_
      refine yb_iload (x := (d 165 l3)) rfl rfl ?_
      refine yb_iast (j := l3) (x := (d 165 l3)) rfl xd_A165 (by decide) r3 ?_
      refine yb_iinc (x := l3) (n := 1) rfl rfl rfl rfl ?_
      refine yb_goto rfl rfl ?_
      refine yb_forget (dl := [.ref 146, .int (xJ l1), .int (xJ (xi_or l2 (xi_shl (1 : Int) l3))), .int (xJ (l3 + 1)), .double 0]) ⟨Or.inl rfl, ⟨Or.inl rfl, ⟨Or.inl rfl, ⟨Or.inl rfl, ⟨Or.inr ⟨rfl, rfl⟩, trivial⟩⟩⟩⟩⟩ ?_
      exact h
theorem yk_255_0 {D L : Nat} {P : Int → xh_D → xd_E → Prop} {d : xh_D} {e : xd_E} {a1 : Int} {a2 : Int}   (hD : 3 ≤ D) (h : ((-2147483648 ≤ a1 ∧ a1 < 2147483648) ∧ ((-2147483648 ≤ a2 ∧ a2 < 2147483648) ∧ ((0 ≤ (d 146 (1 : Int)) ∧ (d 146 (1 : Int)) ≤ 9) ∧ ((((0 ≤ a1 ∧ a1 < (d 146 (1 : Int))) ∧ (0 ≤ a2 ∧ a2 < (d 146 (1 : Int))) ∧ ¬ a1 = a2) → yV D 241 L [.ref 146] (xs d 146 (8 : Int) (0 : Int)) e (fun d4 e5 => yC D 244 L [.ref 146] d4 e5 (fun x6 d7 e8 => ((0 ≤ a1 ∧ a1 < 9) ∧ ((0 ≤ a2 ∧ a2 < 9) ∧ yC D 244 L [.ref 146] (xs (xs d7 164 a1 (d7 164 a2)) 164 a2 (d7 164 a1)) e8 (fun x11 d12 e13 => P (x6 - x11) d12 e13)))))) ∧ (¬ ((0 ≤ a1 ∧ a1 < (d 146 (1 : Int))) ∧ (0 ≤ a2 ∧ a2 < (d 146 (1 : Int))) ∧ ¬ a1 = a2) → P (0 : Int) (xs (xs d 146 (8 : Int) (0 : Int)) 146 (8 : Int) (1 : Int)) e)))))) : yB D xm_c255 (yQi L P) L 0 [.ref 146, .int (xJ a1), .int (xJ a2), .double 0] [] d e := by
  refine yb_aload rfl rfl ?_
  refine yb_push (v := 0) rfl ?_
  refine yb_put (z := (0 : Int)) (k := 8) rfl rfl (by decide) (by decide) (rfl) (Nat.le_of_ble_eq_true rfl) rfl (rfl) ?_
  refine yb_aload rfl rfl ?_
  refine yb_iload (x := a1) rfl rfl ?_
  refine yb_iload (x := a2) rfl rfl ?_
  have r1 := h.1
  replace h := h.2
  have r2 := h.1
  replace h := h.2
  have r3 := h.1
  replace h := h.2
  refine yb_callVz (As := [.int (xJ a1), .int (xJ a2)]) (a := 146) rfl rfl rfl rfl rfl rfl rfl rfl (by decide) (by decide) (rfl) (by decide) (sp_185 (by omega) ⟨r1, r2, r3⟩ (fun c => ?_) (fun c => ?_))
  · replace h := h.1 c
    show yB D xm_c255 _ L 7 [.ref 146, .int (xJ a1), .int (xJ a2), .double 0] [.int (xJ (1 : Int))] (xs d 146 (8 : Int) (0 : Int)) e
    refine yb_if_ne (x := (1 : Int)) rfl rfl (by decide) (fun _ => ?_) (fun c => absurd c (by decide))
    refine yb_aload rfl rfl ?_
    refine yb_callVv (As := []) (a := 146) rfl rfl rfl rfl rfl rfl rfl rfl (by decide) (by decide) (rfl) (by decide) (yV_mono h (fun d4 e5 h => ?_))
    refine yb_aload rfl rfl ?_
    refine yb_callVi (As := []) (a := 146) rfl rfl rfl rfl rfl rfl rfl rfl (by decide) (by decide) (rfl) (by decide) (yC_mono h (fun x6 d7 e8 h => ?_))
    refine yb_istore rfl rfl rfl ?_
    refine yb_aload rfl rfl ?_
    refine yb_get (v := .ref 164) rfl (by decide) (by decide) (rfl) rfl ?_
    refine yb_iload (x := a1) rfl rfl ?_
    refine yb_iload (x := a2) rfl rfl ?_
    have r9 := h.1
    replace h := h.2
    have r10 := h.1
    replace h := h.2
    refine yb_callSv (As := [.ref 164, .int (xJ a1), .int (xJ a2)]) rfl rfl rfl rfl rfl rfl rfl rfl (by decide) (sp_232_164 (by omega) ⟨r9, r10⟩ ?_)
    show yB D xm_c255 _ L 21 [.ref 146, .int (xJ a1), .int (xJ a2), .int (xJ x6)] [] (xs (xs d7 164 a1 (d7 164 a2)) 164 a2 (d7 164 a1)) e8
    refine yb_iload (x := x6) rfl rfl ?_
    refine yb_aload rfl rfl ?_
    refine yb_callVi (As := []) (a := 146) rfl rfl rfl rfl rfl rfl rfl rfl (by decide) (by decide) (rfl) (by show (1 : Nat) ≤ 8; decide) (yC_mono h (fun x11 d12 e13 h => ?_))
    refine yb_isub (x := x6) (y := x11) rfl ?_
    exact yb_ret rfl h
  · replace h := h.2 c
    show yB D xm_c255 _ L 7 [.ref 146, .int (xJ a1), .int (xJ a2), .double 0] [.int (xJ (0 : Int))] (xs d 146 (8 : Int) (0 : Int)) e
    refine yb_if_ne (x := (0 : Int)) rfl rfl (by decide) (fun c => absurd (by decide) c) (fun _ => ?_)
    refine yb_aload rfl rfl ?_
    refine yb_callVi (As := []) (a := 146) rfl rfl rfl rfl rfl rfl rfl rfl (by decide) (by decide) (rfl) (by decide) (sp_182 (by omega) ?_)
    show yB D xm_c255 _ L 10 [.ref 146, .int (xJ a1), .int (xJ a2), .double 0] [.int (xJ (0 : Int))] (xs (xs d 146 (8 : Int) (0 : Int)) 146 (8 : Int) (1 : Int)) e
    exact yb_ret rfl h
theorem yk_256_0 {D L : Nat} {P : Int → xh_D → xd_E → Prop} {d : xh_D} {e : xd_E} {a1 : Int} {a2 : Int} {a3 : Int}   (hD : 1 ≤ D) (h : ((-2147483648 ≤ a1 ∧ a1 < 2147483648) ∧ ((((0 : Int) ≤ a1 ∧ a1 ≤ (8 : Int)) → ((-2147483648 ≤ a2 ∧ a2 < 2147483648) ∧ ((((0 : Int) ≤ a2 ∧ a2 ≤ (8 : Int)) → ((-2147483648 ≤ a3 ∧ a3 < 2147483648) ∧ ((((1 : Int) ≤ a3 ∧ a3 ≤ (3 : Int)) → yB D xm_c256 (yQi L P) L 24 [.ref 146, .int (xJ a1), .int (xJ a2), .int (xJ a3), .int (xJ (0 : Int)), .int (xJ (0 : Int)), .double 0, .double 0] [] (xs d 146 (8 : Int) (0 : Int)) e) ∧ (¬ ((1 : Int) ≤ a3 ∧ a3 ≤ (3 : Int)) → P (-1 : Int) (xs d 146 (8 : Int) (0 : Int)) e)))) ∧ (¬ ((0 : Int) ≤ a2 ∧ a2 ≤ (8 : Int)) → P (-1 : Int) (xs d 146 (8 : Int) (0 : Int)) e)))) ∧ (¬ ((0 : Int) ≤ a1 ∧ a1 ≤ (8 : Int)) → P (-1 : Int) (xs d 146 (8 : Int) (0 : Int)) e)))) : yB D xm_c256 (yQi L P) L 0 [.ref 146, .int (xJ a1), .int (xJ a2), .int (xJ a3), .double 0, .double 0, .double 0, .double 0] [] d e := by
  refine yb_aload rfl rfl ?_
  refine yb_push (v := 0) rfl ?_
  refine yb_put (z := (0 : Int)) (k := 8) rfl rfl (by decide) (by decide) (rfl) (Nat.le_of_ble_eq_true rfl) rfl (rfl) ?_
  refine yb_iload (x := a1) rfl rfl ?_
  refine yb_push (v := 0) rfl ?_
  refine yb_push (v := 8) rfl ?_
  have r1 := h.1
  replace h := h.2
  refine yb_callSz (As := [.int (xJ a1), .int (xJ (0 : Int)), .int (xJ (8 : Int))]) rfl rfl rfl rfl rfl rfl rfl rfl (by decide) (sp_180 (by omega) ⟨r1, (by show (-2147483648 ≤ (0 : Int) ∧ (0 : Int) < 2147483648); decide), (by show (-2147483648 ≤ (8 : Int) ∧ (8 : Int) < 2147483648); decide)⟩ (fun c => ?_) (fun c => ?_))
  · replace h := h.1 c
    show yB D xm_c256 _ L 7 [.ref 146, .int (xJ a1), .int (xJ a2), .int (xJ a3), .double 0, .double 0, .double 0, .double 0] [.int (xJ (1 : Int))] (xs d 146 (8 : Int) (0 : Int)) e
    refine yb_if_eq (x := (1 : Int)) rfl rfl (by decide) (fun c => absurd c (by decide)) (fun _ => ?_)
    refine yb_iload (x := a2) rfl rfl ?_
    refine yb_push (v := 0) rfl ?_
    refine yb_push (v := 8) rfl ?_
    have r2 := h.1
    replace h := h.2
    refine yb_callSz (As := [.int (xJ a2), .int (xJ (0 : Int)), .int (xJ (8 : Int))]) rfl rfl rfl rfl rfl rfl rfl rfl (by decide) (sp_180 (by omega) ⟨r2, (by show (-2147483648 ≤ (0 : Int) ∧ (0 : Int) < 2147483648); decide), (by show (-2147483648 ≤ (8 : Int) ∧ (8 : Int) < 2147483648); decide)⟩ (fun c => ?_) (fun c => ?_))
    · replace h := h.1 c
      show yB D xm_c256 _ L 12 [.ref 146, .int (xJ a1), .int (xJ a2), .int (xJ a3), .double 0, .double 0, .double 0, .double 0] [.int (xJ (1 : Int))] (xs d 146 (8 : Int) (0 : Int)) e
      refine yb_if_eq (x := (1 : Int)) rfl rfl (by decide) (fun c => absurd c (by decide)) (fun _ => ?_)
      refine yb_iload (x := a3) rfl rfl ?_
      refine yb_push (v := 1) rfl ?_
      refine yb_push (v := 3) rfl ?_
      have r3 := h.1
      replace h := h.2
      refine yb_callSz (As := [.int (xJ a3), .int (xJ (1 : Int)), .int (xJ (3 : Int))]) rfl rfl rfl rfl rfl rfl rfl rfl (by decide) (sp_180 (by omega) ⟨r3, (by show (-2147483648 ≤ (1 : Int) ∧ (1 : Int) < 2147483648); decide), (by show (-2147483648 ≤ (3 : Int) ∧ (3 : Int) < 2147483648); decide)⟩ (fun c => ?_) (fun c => ?_))
      · replace h := h.1 c
        show yB D xm_c256 _ L 17 [.ref 146, .int (xJ a1), .int (xJ a2), .int (xJ a3), .double 0, .double 0, .double 0, .double 0] [.int (xJ (1 : Int))] (xs d 146 (8 : Int) (0 : Int)) e
        refine yb_if_ne (x := (1 : Int)) rfl rfl (by decide) (fun _ => ?_) (fun c => absurd c (by decide))
        refine yb_push (v := 0) rfl ?_
        refine yb_istore rfl rfl rfl ?_
        refine yb_push (v := 0) rfl ?_
        refine yb_istore rfl rfl rfl ?_
        exact h
      · replace h := h.2 c
        show yB D xm_c256 _ L 17 [.ref 146, .int (xJ a1), .int (xJ a2), .int (xJ a3), .double 0, .double 0, .double 0, .double 0] [.int (xJ (0 : Int))] (xs d 146 (8 : Int) (0 : Int)) e
        refine yb_if_ne (x := (0 : Int)) rfl rfl (by decide) (fun c => absurd (by decide) c) (fun _ => ?_)
        refine yb_push (v := (-1)) rfl ?_
        exact yb_ret rfl h
    · replace h := h.2 c
      show yB D xm_c256 _ L 12 [.ref 146, .int (xJ a1), .int (xJ a2), .int (xJ a3), .double 0, .double 0, .double 0, .double 0] [.int (xJ (0 : Int))] (xs d 146 (8 : Int) (0 : Int)) e
      refine yb_if_eq (x := (0 : Int)) rfl rfl (by decide) (fun _ => ?_) (fun c => absurd (by decide) c)
      refine yb_push (v := (-1)) rfl ?_
      exact yb_ret rfl h
  · replace h := h.2 c
    show yB D xm_c256 _ L 7 [.ref 146, .int (xJ a1), .int (xJ a2), .int (xJ a3), .double 0, .double 0, .double 0, .double 0] [.int (xJ (0 : Int))] (xs d 146 (8 : Int) (0 : Int)) e
    refine yb_if_eq (x := (0 : Int)) rfl rfl (by decide) (fun _ => ?_) (fun c => absurd (by decide) c)
    refine yb_push (v := (-1)) rfl ?_
    exact yb_ret rfl h
theorem yk_256_24 {D L : Nat} {P : Int → xh_D → xd_E → Prop} {d : xh_D} {e : xd_E}  {l1 : Int} {l2 : Int} {l3 : Int} {l4 : Int} {l5 : Int}  (h : ((-2147483648 ≤ l5 ∧ l5 < 2147483648) ∧ ((((9 : Int) ≤ l5) → P l4 d e) ∧ ((¬ (9 : Int) ≤ l5) → yB D xm_c256 (yQi L P) L 31 [.ref 146, .int (xJ l1), .int (xJ l2), .int (xJ l3), .int (xJ l4), .int (xJ l5), .int (xJ (0 : Int)), .int (xJ (0 : Int))] [] d e)))) : yB D xm_c256 (yQi L P) L 24 [.ref 146, .int (xJ l1), .int (xJ l2), .int (xJ l3), .int (xJ l4), .int (xJ l5), .double 0, .double 0] [] d e := by
  refine yb_iload (x := l5) rfl rfl ?_
  refine yb_push (v := 9) rfl ?_
  have r1 := h.1
  replace h := h.2
  refine yb_icmp_ge (x := l5) (y := (9 : Int)) rfl rfl r1 (by decide) (fun c => ?_) (fun c => ?_)
  · replace h := h.1 c
    refine yb_iload (x := l4) rfl rfl ?_
    exact yb_ret rfl h
  · replace h := h.2 c
    refine yb_push (v := 0) rfl ?_
    refine yb_istore rfl rfl rfl ?_
    refine yb_push (v := 0) rfl ?_
    refine yb_istore rfl rfl rfl ?_
    exact h
theorem yk_256_31 {D L : Nat} {P : Int → xh_D → xd_E → Prop} {d : xh_D} {e : xd_E}  {l1 : Int} {l2 : Int} {l3 : Int} {l4 : Int} {l5 : Int} {l6 : Int} {l7 : Int}  (h : ((-2147483648 ≤ l7 ∧ l7 < 2147483648) ∧ ((-2147483648 ≤ (d 146 (1 : Int)) ∧ (d 146 (1 : Int)) < 2147483648) ∧ ((((d 146 (1 : Int)) ≤ l7) → ((-2147483648 ≤ l6 ∧ l6 < 2147483648) ∧ ((-2147483648 ≤ l3 ∧ l3 < 2147483648) ∧ (((l6 < l3) → yB D xm_c256 (yQi L P) L 24 [.ref 146, .int (xJ l1), .int (xJ l2), .int (xJ l3), .int (xJ (xi_or l4 (0 : Int))), .int (xJ (l5 + 1)), .double 0, .double 0] [] d e) ∧ ((¬ l6 < l3) → yB D xm_c256 (yQi L P) L 24 [.ref 146, .int (xJ l1), .int (xJ l2), .int (xJ l3), .int (xJ (xi_or l4 (xi_shl (1 : Int) l5))), .int (xJ (l5 + 1)), .double 0, .double 0] [] d e))))) ∧ ((¬ (d 146 (1 : Int)) ≤ l7) → ((0 ≤ l7 ∧ l7 < 353) ∧ ((-2147483648 ≤ (d 147 l7) ∧ (d 147 l7) < 2147483648) ∧ ((-2147483648 ≤ l5 ∧ l5 < 2147483648) ∧ ((((d 147 l7) = l5) → yB D xm_c256 (yQi L P) L 31 [.ref 146, .int (xJ l1), .int (xJ l2), .int (xJ l3), .int (xJ l4), .int (xJ l5), .int (xJ (l6 + (0 : Int))), .int (xJ (l7 + 1))] [] d e) ∧ ((¬ (d 147 l7) = l5) → ((0 ≤ ((9 : Int) + l7) ∧ ((9 : Int) + l7) < 353) ∧ ((-2147483648 ≤ (d 147 ((9 : Int) + l7)) ∧ (d 147 ((9 : Int) + l7)) < 2147483648) ∧ ((-2147483648 ≤ l1 ∧ l1 < 2147483648) ∧ ((((d 147 ((9 : Int) + l7)) = l1) → yB D xm_c256 (yQi L P) L 31 [.ref 146, .int (xJ l1), .int (xJ l2), .int (xJ l3), .int (xJ l4), .int (xJ l5), .int (xJ (l6 + (1 : Int))), .int (xJ (l7 + 1))] [] d e) ∧ ((¬ (d 147 ((9 : Int) + l7)) = l1) → ((-2147483648 ≤ l2 ∧ l2 < 2147483648) ∧ (((¬ (d 147 ((9 : Int) + l7)) = l2) → yB D xm_c256 (yQi L P) L 31 [.ref 146, .int (xJ l1), .int (xJ l2), .int (xJ l3), .int (xJ l4), .int (xJ l5), .int (xJ (l6 + (0 : Int))), .int (xJ (l7 + 1))] [] d e) ∧ (((d 147 ((9 : Int) + l7)) = l2) → yB D xm_c256 (yQi L P) L 31 [.ref 146, .int (xJ l1), .int (xJ l2), .int (xJ l3), .int (xJ l4), .int (xJ l5), .int (xJ (l6 + (1 : Int))), .int (xJ (l7 + 1))] [] d e)))))))))))))))))) : yB D xm_c256 (yQi L P) L 31 [.ref 146, .int (xJ l1), .int (xJ l2), .int (xJ l3), .int (xJ l4), .int (xJ l5), .int (xJ l6), .int (xJ l7)] [] d e := by
  refine yb_iload (x := l7) rfl rfl ?_
  refine yb_aload rfl rfl ?_
  refine yb_get (v := .int (xJ (d 146 (1 : Int)))) rfl (by decide) (by decide) (rfl) rfl ?_
  have r1 := h.1
  replace h := h.2
  have r2 := h.1
  replace h := h.2
  refine yb_icmp_ge (x := l7) (y := (d 146 (1 : Int))) rfl rfl r1 r2 (fun c => ?_) (fun c => ?_)
  · replace h := h.1 c
    refine yb_iload (x := l4) rfl rfl ?_
    refine yb_iload (x := l6) rfl rfl ?_
    refine yb_iload (x := l3) rfl rfl ?_
    have r3 := h.1
    replace h := h.2
    have r4 := h.1
    replace h := h.2
    refine yb_icmp_lt (x := l6) (y := l3) rfl rfl r3 r4 (fun c => ?_) (fun c => ?_)
    · replace h := h.1 c
      refine yb_push (v := 0) rfl ?_
      refine yb_ior (x := l4) (y := (0 : Int)) rfl ?_
      refine yb_istore rfl rfl rfl ?_
      refine yb_iinc (x := l5) (n := 1) rfl rfl rfl rfl ?_
      refine yb_goto rfl rfl ?_
      refine yb_forget (dl := [.ref 146, .int (xJ l1), .int (xJ l2), .int (xJ l3), .int (xJ (xi_or l4 (0 : Int))), .int (xJ (l5 + 1)), .double 0, .double 0]) ⟨Or.inl rfl, ⟨Or.inl rfl, ⟨Or.inl rfl, ⟨Or.inl rfl, ⟨Or.inl rfl, ⟨Or.inl rfl, ⟨Or.inr ⟨rfl, rfl⟩, ⟨Or.inr ⟨rfl, rfl⟩, trivial⟩⟩⟩⟩⟩⟩⟩⟩ ?_
      exact h
    · replace h := h.2 c
      refine yb_push (v := 1) rfl ?_
      refine yb_iload (x := l5) rfl rfl ?_
      refine yb_ishl (x := (1 : Int)) (y := l5) rfl ?_
      refine yb_goto rfl rfl ?_
      refine yb_ior (x := l4) (y := (xi_shl (1 : Int) l5)) rfl ?_
      refine yb_istore rfl rfl rfl ?_
      refine yb_iinc (x := l5) (n := 1) rfl rfl rfl rfl ?_
      refine yb_goto rfl rfl ?_
      refine yb_forget (dl := [.ref 146, .int (xJ l1), .int (xJ l2), .int (xJ l3), .int (xJ (xi_or l4 (xi_shl (1 : Int) l5))), .int (xJ (l5 + 1)), .double 0, .double 0]) ⟨Or.inl rfl, ⟨Or.inl rfl, ⟨Or.inl rfl, ⟨Or.inl rfl, ⟨Or.inl rfl, ⟨Or.inl rfl, ⟨Or.inr ⟨rfl, rfl⟩, ⟨Or.inr ⟨rfl, rfl⟩, trivial⟩⟩⟩⟩⟩⟩⟩⟩ ?_
      exact h
  · replace h := h.2 c
    refine yb_iload (x := l6) rfl rfl ?_
    refine yb_aload rfl rfl ?_
    refine yb_get (v := .ref 147) rfl (by decide) (by decide) (rfl) rfl ?_
    refine yb_iload (x := l7) rfl rfl ?_
    have r5 := h.1
    replace h := h.2
    refine yb_iald (j := l7) rfl xd_A147 (by decide) r5 (v := (d 147 l7)) rfl ?_
    refine yb_iload (x := l5) rfl rfl ?_
    have r6 := h.1
    replace h := h.2
    have r7 := h.1
    replace h := h.2
    refine yb_icmp_eq (x := (d 147 l7)) (y := l5) rfl rfl r6 r7 (fun c => ?_) (fun c => ?_)
    · replace h := h.1 c
      refine yb_push (v := 0) rfl ?_
      refine yb_iadd (x := l6) (y := (0 : Int)) rfl ?_
      refine yb_istore rfl rfl rfl ?_
      refine yb_iinc (x := l7) (n := 1) rfl rfl rfl rfl ?_
      refine yb_goto rfl rfl ?_
      exact h
    · replace h := h.2 c
      refine yb_aload rfl rfl ?_
      refine yb_get (v := .ref 147) rfl (by decide) (by decide) (rfl) rfl ?_
      refine yb_push (v := 9) rfl ?_
      refine yb_iload (x := l7) rfl rfl ?_
      refine yb_iadd (x := (9 : Int)) (y := l7) rfl ?_
      have r8 := h.1
      replace h := h.2
      refine yb_iald (j := ((9 : Int) + l7)) rfl xd_A147 (by decide) r8 (v := (d 147 ((9 : Int) + l7))) rfl ?_
      refine yb_iload (x := l1) rfl rfl ?_
      have r9 := h.1
      replace h := h.2
      have r10 := h.1
      replace h := h.2
      refine yb_icmp_eq (x := (d 147 ((9 : Int) + l7))) (y := l1) rfl rfl r9 r10 (fun c => ?_) (fun c => ?_)
      · replace h := h.1 c
        refine yb_push (v := 1) rfl ?_
        refine yb_goto rfl rfl ?_
        refine yb_iadd (x := l6) (y := (1 : Int)) rfl ?_
        refine yb_istore rfl rfl rfl ?_
        refine yb_iinc (x := l7) (n := 1) rfl rfl rfl rfl ?_
        refine yb_goto rfl rfl ?_
        exact h
      · replace h := h.2 c
        refine yb_aload rfl rfl ?_
        refine yb_get (v := .ref 147) rfl (by decide) (by decide) (rfl) rfl ?_
        refine yb_push (v := 9) rfl ?_
        refine yb_iload (x := l7) rfl rfl ?_
        refine yb_iadd (x := (9 : Int)) (y := l7) rfl ?_
        refine yb_iald (j := ((9 : Int) + l7)) rfl xd_A147 (by decide) r8 (v := (d 147 ((9 : Int) + l7))) rfl ?_
        refine yb_iload (x := l2) rfl rfl ?_
        have r11 := h.1
        replace h := h.2
        refine yb_icmp_ne (x := (d 147 ((9 : Int) + l7))) (y := l2) rfl rfl r9 r11 (fun c => ?_) (fun c => ?_)
        · replace h := h.1 c
          refine yb_push (v := 0) rfl ?_
          refine yb_iadd (x := l6) (y := (0 : Int)) rfl ?_
          refine yb_istore rfl rfl rfl ?_
          refine yb_iinc (x := l7) (n := 1) rfl rfl rfl rfl ?_
          refine yb_goto rfl rfl ?_
          exact h
        · replace h := h.2 c
          refine yb_push (v := 1) rfl ?_
          refine yb_goto rfl rfl ?_
          refine yb_iadd (x := l6) (y := (1 : Int)) rfl ?_
          refine yb_istore rfl rfl rfl ?_
          refine yb_iinc (x := l7) (n := 1) rfl rfl rfl rfl ?_
          refine yb_goto rfl rfl ?_
          exact h
theorem yk_257_0 {D L : Nat} {P : Int → xh_D → xd_E → Prop} {d : xh_D} {e : xd_E} {a1 : Int} {a2 : Int} {a3 : Int}   (hD : 3 ≤ D) (h : ((-2147483648 ≤ a1 ∧ a1 < 2147483648) ∧ ((-2147483648 ≤ a2 ∧ a2 < 2147483648) ∧ ((0 ≤ (d 146 (1 : Int)) ∧ (d 146 (1 : Int)) ≤ 9) ∧ ((((0 ≤ a1 ∧ a1 < (d 146 (1 : Int))) ∧ (0 ≤ a2 ∧ a2 < (d 146 (1 : Int))) ∧ ¬ a1 = a2) → ((-2147483648 ≤ a3 ∧ a3 < 2147483648) ∧ ((((0 : Int) ≤ a3 ∧ a3 ≤ (1 : Int)) → ((-2147483648 ≤ (d 146 (46 : Int)) ∧ (d 146 (46 : Int)) < 2147483648) ∧ (((¬ (d 146 (46 : Int)) = (12 : Int)) → ((0 ≤ ((3 : Int) * (d 146 (46 : Int))) ∧ ((3 : Int) * (d 146 (46 : Int))) < 36) ∧ ((0 ≤ (((3 : Int) * (d 146 (46 : Int))) + (1 : Int)) ∧ (((3 : Int) * (d 146 (46 : Int))) + (1 : Int)) < 36) ∧ ((0 ≤ (((3 : Int) * (d 146 (46 : Int))) + (2 : Int)) ∧ (((3 : Int) * (d 146 (46 : Int))) + (2 : Int)) < 36) ∧ P ((d 146 (46 : Int)) + (1 : Int)) (xs (xs (xs (xs (xs d 146 (8 : Int) (0 : Int)) 168 ((3 : Int) * (d 146 (46 : Int))) a1) 168 (((3 : Int) * (d 146 (46 : Int))) + (1 : Int)) a2) 168 (((3 : Int) * (d 146 (46 : Int))) + (2 : Int)) a3) 146 (46 : Int) ((d 146 (46 : Int)) + (1 : Int))) e)))) ∧ (((d 146 (46 : Int)) = (12 : Int)) → P (-2 : Int) (xs d 146 (8 : Int) (0 : Int)) e)))) ∧ (¬ ((0 : Int) ≤ a3 ∧ a3 ≤ (1 : Int)) → P (-1 : Int) (xs d 146 (8 : Int) (0 : Int)) e)))) ∧ (¬ ((0 ≤ a1 ∧ a1 < (d 146 (1 : Int))) ∧ (0 ≤ a2 ∧ a2 < (d 146 (1 : Int))) ∧ ¬ a1 = a2) → P (-1 : Int) (xs d 146 (8 : Int) (0 : Int)) e)))))) : yB D xm_c257 (yQi L P) L 0 [.ref 146, .int (xJ a1), .int (xJ a2), .int (xJ a3)] [] d e := by
  refine yb_aload rfl rfl ?_
  refine yb_push (v := 0) rfl ?_
  refine yb_put (z := (0 : Int)) (k := 8) rfl rfl (by decide) (by decide) (rfl) (Nat.le_of_ble_eq_true rfl) rfl (rfl) ?_
  refine yb_aload rfl rfl ?_
  refine yb_iload (x := a1) rfl rfl ?_
  refine yb_iload (x := a2) rfl rfl ?_
  have r1 := h.1
  replace h := h.2
  have r2 := h.1
  replace h := h.2
  have r3 := h.1
  replace h := h.2
  refine yb_callVz (As := [.int (xJ a1), .int (xJ a2)]) (a := 146) rfl rfl rfl rfl rfl rfl rfl rfl (by decide) (by decide) (rfl) (by decide) (sp_185 (by omega) ⟨r1, r2, r3⟩ (fun c => ?_) (fun c => ?_))
  · replace h := h.1 c
    show yB D xm_c257 _ L 7 [.ref 146, .int (xJ a1), .int (xJ a2), .int (xJ a3)] [.int (xJ (1 : Int))] (xs d 146 (8 : Int) (0 : Int)) e
    refine yb_if_eq (x := (1 : Int)) rfl rfl (by decide) (fun c => absurd c (by decide)) (fun _ => ?_)
    refine yb_iload (x := a3) rfl rfl ?_
    refine yb_push (v := 0) rfl ?_
    refine yb_push (v := 1) rfl ?_
    have r4 := h.1
    replace h := h.2
    refine yb_callSz (As := [.int (xJ a3), .int (xJ (0 : Int)), .int (xJ (1 : Int))]) rfl rfl rfl rfl rfl rfl rfl rfl (by decide) (sp_180 (by omega) ⟨r4, (by show (-2147483648 ≤ (0 : Int) ∧ (0 : Int) < 2147483648); decide), (by show (-2147483648 ≤ (1 : Int) ∧ (1 : Int) < 2147483648); decide)⟩ (fun c => ?_) (fun c => ?_))
    · replace h := h.1 c
      show yB D xm_c257 _ L 12 [.ref 146, .int (xJ a1), .int (xJ a2), .int (xJ a3)] [.int (xJ (1 : Int))] (xs d 146 (8 : Int) (0 : Int)) e
      refine yb_if_ne (x := (1 : Int)) rfl rfl (by decide) (fun _ => ?_) (fun c => absurd c (by decide))
      refine yb_aload rfl rfl ?_
      refine yb_get (v := .int (xJ (d 146 (46 : Int)))) rfl (by decide) (by decide) (rfl) rfl ?_
      refine yb_push (v := 12) rfl ?_
      have r5 := h.1
      replace h := h.2
      refine yb_icmp_ne (x := (d 146 (46 : Int))) (y := (12 : Int)) rfl rfl r5 (by decide) (fun c => ?_) (fun c => ?_)
      · replace h := h.1 c
        refine yb_aload rfl rfl ?_
        refine yb_get (v := .ref 168) rfl (by decide) (by decide) (rfl) rfl ?_
        refine yb_push (v := 3) rfl ?_
        refine yb_aload rfl rfl ?_
        refine yb_get (v := .int (xJ (d 146 (46 : Int)))) rfl (by decide) (by decide) (rfl) rfl ?_
        refine yb_imul (x := (3 : Int)) (y := (d 146 (46 : Int))) rfl ?_
        refine yb_iload (x := a1) rfl rfl ?_
        have r6 := h.1
        replace h := h.2
        refine yb_iast (j := ((3 : Int) * (d 146 (46 : Int)))) (x := a1) rfl xd_A168 (by decide) r6 ?_
        refine yb_aload rfl rfl ?_
        refine yb_get (v := .ref 168) rfl (by decide) (by decide) (rfl) rfl ?_
        refine yb_push (v := 3) rfl ?_
        refine yb_aload rfl rfl ?_
        refine yb_get (v := .int (xJ (d 146 (46 : Int)))) rfl (by decide) (by decide) (rfl) rfl ?_
        refine yb_imul (x := (3 : Int)) (y := (d 146 (46 : Int))) rfl ?_
        refine yb_push (v := 1) rfl ?_
        refine yb_iadd (x := ((3 : Int) * (d 146 (46 : Int)))) (y := (1 : Int)) rfl ?_
        refine yb_iload (x := a2) rfl rfl ?_
        have r7 := h.1
        replace h := h.2
        refine yb_iast (j := (((3 : Int) * (d 146 (46 : Int))) + (1 : Int))) (x := a2) rfl xd_A168 (by decide) r7 ?_
        refine yb_aload rfl rfl ?_
        refine yb_get (v := .ref 168) rfl (by decide) (by decide) (rfl) rfl ?_
        refine yb_push (v := 3) rfl ?_
        refine yb_aload rfl rfl ?_
        refine yb_get (v := .int (xJ (d 146 (46 : Int)))) rfl (by decide) (by decide) (rfl) rfl ?_
        refine yb_imul (x := (3 : Int)) (y := (d 146 (46 : Int))) rfl ?_
        refine yb_push (v := 2) rfl ?_
        refine yb_iadd (x := ((3 : Int) * (d 146 (46 : Int)))) (y := (2 : Int)) rfl ?_
        refine yb_iload (x := a3) rfl rfl ?_
        have r8 := h.1
        replace h := h.2
        refine yb_iast (j := (((3 : Int) * (d 146 (46 : Int))) + (2 : Int))) (x := a3) rfl xd_A168 (by decide) r8 ?_
        refine yb_aload rfl rfl ?_
        refine yb_dup rfl rfl ?_
        refine yb_get (v := .int (xJ (d 146 (46 : Int)))) rfl (by decide) (by decide) (rfl) rfl ?_
        refine yb_push (v := 1) rfl ?_
        refine yb_iadd (x := (d 146 (46 : Int))) (y := (1 : Int)) rfl ?_
        refine yb_put (z := ((d 146 (46 : Int)) + (1 : Int))) (k := 46) rfl rfl (by decide) (by decide) (rfl) (Nat.le_of_ble_eq_true rfl) rfl (rfl) ?_
        refine yb_aload rfl rfl ?_
        refine yb_get (v := .int (xJ ((d 146 (46 : Int)) + (1 : Int)))) rfl (by decide) (by decide) (rfl) rfl ?_
        exact yb_ret rfl h
      · replace h := h.2 c
        refine yb_push (v := (-2)) rfl ?_
        exact yb_ret rfl h
    · replace h := h.2 c
      show yB D xm_c257 _ L 12 [.ref 146, .int (xJ a1), .int (xJ a2), .int (xJ a3)] [.int (xJ (0 : Int))] (xs d 146 (8 : Int) (0 : Int)) e
      refine yb_if_ne (x := (0 : Int)) rfl rfl (by decide) (fun c => absurd (by decide) c) (fun _ => ?_)
      refine yb_push (v := (-1)) rfl ?_
      exact yb_ret rfl h
  · replace h := h.2 c
    show yB D xm_c257 _ L 7 [.ref 146, .int (xJ a1), .int (xJ a2), .int (xJ a3)] [.int (xJ (0 : Int))] (xs d 146 (8 : Int) (0 : Int)) e
    refine yb_if_eq (x := (0 : Int)) rfl rfl (by decide) (fun _ => ?_) (fun c => absurd (by decide) c)
    refine yb_push (v := (-1)) rfl ?_
    exact yb_ret rfl h
theorem yk_258_0 {D L : Nat} {P : Int → xh_D → xd_E → Prop} {d : xh_D} {e : xd_E}    (h : P (d 146 (46 : Int)) (xs (xs d 146 (8 : Int) (0 : Int)) 146 (46 : Int) (0 : Int)) e) : yB D xm_c258 (yQi L P) L 0 [.ref 146, .double 0] [] d e := by
  refine yb_aload rfl rfl ?_
  refine yb_push (v := 0) rfl ?_
  refine yb_put (z := (0 : Int)) (k := 8) rfl rfl (by decide) (by decide) (rfl) (Nat.le_of_ble_eq_true rfl) rfl (rfl) ?_
  refine yb_aload rfl rfl ?_
  refine yb_get (v := .int (xJ (d 146 (46 : Int)))) rfl (by decide) (by decide) (rfl) rfl ?_
  refine yb_istore rfl rfl rfl ?_
  refine yb_aload rfl rfl ?_
  refine yb_push (v := 0) rfl ?_
  refine yb_put (z := (0 : Int)) (k := 46) rfl rfl (by decide) (by decide) (rfl) (Nat.le_of_ble_eq_true rfl) rfl (rfl) ?_
  refine yb_iload (x := (d 146 (46 : Int))) rfl rfl ?_
  exact yb_ret rfl h
theorem yk_259_147_0 {D L : Nat} {P : Int → xh_D → xd_E → Prop} {d : xh_D} {e : xd_E}    (h : yB D xm_c259 (yQi L P) L 4 [.ref 146, .ref 147, .int (xJ (0 : Int)), .int (xJ (0 : Int))] [] d e) : yB D xm_c259 (yQi L P) L 0 [.ref 146, .ref 147, .double 0, .double 0] [] d e := by
  refine yb_push (v := 0) rfl ?_
  refine yb_istore rfl rfl rfl ?_
  refine yb_push (v := 0) rfl ?_
  refine yb_istore rfl rfl rfl ?_
  exact h
theorem yk_259_147_4 {D L : Nat} {P : Int → xh_D → xd_E → Prop} {d : xh_D} {e : xd_E}  {l2 : Int} {l3 : Int}  (h : ((-2147483648 ≤ l3 ∧ l3 < 2147483648) ∧ ((-2147483648 ≤ (d 146 (46 : Int)) ∧ (d 146 (46 : Int)) < 2147483648) ∧ ((((d 146 (46 : Int)) ≤ l3) → P l2 d e) ∧ ((¬ (d 146 (46 : Int)) ≤ l3) → ((0 ≤ ((3 : Int) * l3) ∧ ((3 : Int) * l3) < 36) ∧ ((0 ≤ (d 168 ((3 : Int) * l3)) ∧ (d 168 ((3 : Int) * l3)) < 353) ∧ ((0 ≤ (((3 : Int) * l3) + (1 : Int)) ∧ (((3 : Int) * l3) + (1 : Int)) < 36) ∧ ((0 ≤ (d 168 (((3 : Int) * l3) + (1 : Int))) ∧ (d 168 (((3 : Int) * l3) + (1 : Int))) < 353) ∧ ((-2147483648 ≤ (d 147 (d 168 ((3 : Int) * l3))) ∧ (d 147 (d 168 ((3 : Int) * l3))) < 2147483648) ∧ ((-2147483648 ≤ (d 147 (d 168 (((3 : Int) * l3) + (1 : Int)))) ∧ (d 147 (d 168 (((3 : Int) * l3) + (1 : Int)))) < 2147483648) ∧ (((¬ (d 147 (d 168 ((3 : Int) * l3))) = (d 147 (d 168 (((3 : Int) * l3) + (1 : Int))))) → ((0 ≤ (((3 : Int) * l3) + (2 : Int)) ∧ (((3 : Int) * l3) + (2 : Int)) < 36) ∧ ((-2147483648 ≤ (d 168 (((3 : Int) * l3) + (2 : Int))) ∧ (d 168 (((3 : Int) * l3) + (2 : Int))) < 2147483648) ∧ (((¬ (d 168 (((3 : Int) * l3) + (2 : Int))) = (1 : Int)) → yB D xm_c259 (yQi L P) L 4 [.ref 146, .ref 147, .int (xJ (xi_or l2 (xi_shl (1 : Int) l3))), .int (xJ (l3 + 1))] [] d e) ∧ (((d 168 (((3 : Int) * l3) + (2 : Int))) = (1 : Int)) → yB D xm_c259 (yQi L P) L 4 [.ref 146, .ref 147, .int (xJ (xi_or l2 (0 : Int))), .int (xJ (l3 + 1))] [] d e))))) ∧ (((d 147 (d 168 ((3 : Int) * l3))) = (d 147 (d 168 (((3 : Int) * l3) + (1 : Int))))) → ((0 ≤ (((3 : Int) * l3) + (2 : Int)) ∧ (((3 : Int) * l3) + (2 : Int)) < 36) ∧ ((-2147483648 ≤ (d 168 (((3 : Int) * l3) + (2 : Int))) ∧ (d 168 (((3 : Int) * l3) + (2 : Int))) < 2147483648) ∧ (((¬ (d 168 (((3 : Int) * l3) + (2 : Int))) = (1 : Int)) → yB D xm_c259 (yQi L P) L 4 [.ref 146, .ref 147, .int (xJ (xi_or l2 (0 : Int))), .int (xJ (l3 + 1))] [] d e) ∧ (((d 168 (((3 : Int) * l3) + (2 : Int))) = (1 : Int)) → yB D xm_c259 (yQi L P) L 4 [.ref 146, .ref 147, .int (xJ (xi_or l2 (xi_shl (1 : Int) l3))), .int (xJ (l3 + 1))] [] d e))))))))))))))))) : yB D xm_c259 (yQi L P) L 4 [.ref 146, .ref 147, .int (xJ l2), .int (xJ l3)] [] d e := by
  refine yb_iload (x := l3) rfl rfl ?_
  refine yb_aload rfl rfl ?_
  refine yb_get (v := .int (xJ (d 146 (46 : Int)))) rfl (by decide) (by decide) (rfl) rfl ?_
  have r1 := h.1
  replace h := h.2
  have r2 := h.1
  replace h := h.2
  refine yb_icmp_ge (x := l3) (y := (d 146 (46 : Int))) rfl rfl r1 r2 (fun c => ?_) (fun c => ?_)
  · replace h := h.1 c
    refine yb_iload (x := l2) rfl rfl ?_
    exact yb_ret rfl h
  · replace h := h.2 c
    refine yb_iload (x := l2) rfl rfl ?_
    refine yb_aload rfl rfl ?_
    refine yb_aload rfl rfl ?_
    refine yb_get (v := .ref 168) rfl (by decide) (by decide) (rfl) rfl ?_
    refine yb_push (v := 3) rfl ?_
    refine yb_iload (x := l3) rfl rfl ?_
    refine yb_imul (x := (3 : Int)) (y := l3) rfl ?_
    have r3 := h.1
    replace h := h.2
    refine yb_iald (j := ((3 : Int) * l3)) rfl xd_A168 (by decide) r3 (v := (d 168 ((3 : Int) * l3))) rfl ?_
    have r4 := h.1
    replace h := h.2
    refine yb_iald (j := (d 168 ((3 : Int) * l3))) rfl xd_A147 (by decide) r4 (v := (d 147 (d 168 ((3 : Int) * l3)))) rfl ?_
    refine yb_aload rfl rfl ?_
    refine yb_aload rfl rfl ?_
    refine yb_get (v := .ref 168) rfl (by decide) (by decide) (rfl) rfl ?_
    refine yb_push (v := 3) rfl ?_
    refine yb_iload (x := l3) rfl rfl ?_
    refine yb_imul (x := (3 : Int)) (y := l3) rfl ?_
    refine yb_push (v := 1) rfl ?_
    refine yb_iadd (x := ((3 : Int) * l3)) (y := (1 : Int)) rfl ?_
    have r5 := h.1
    replace h := h.2
    refine yb_iald (j := (((3 : Int) * l3) + (1 : Int))) rfl xd_A168 (by decide) r5 (v := (d 168 (((3 : Int) * l3) + (1 : Int)))) rfl ?_
    have r6 := h.1
    replace h := h.2
    refine yb_iald (j := (d 168 (((3 : Int) * l3) + (1 : Int)))) rfl xd_A147 (by decide) r6 (v := (d 147 (d 168 (((3 : Int) * l3) + (1 : Int))))) rfl ?_
    have r7 := h.1
    replace h := h.2
    have r8 := h.1
    replace h := h.2
    refine yb_icmp_ne (x := (d 147 (d 168 ((3 : Int) * l3)))) (y := (d 147 (d 168 (((3 : Int) * l3) + (1 : Int))))) rfl rfl r7 r8 (fun c => ?_) (fun c => ?_)
    · replace h := h.1 c
      refine yb_push (v := 0) rfl ?_
      refine yb_aload rfl rfl ?_
      refine yb_get (v := .ref 168) rfl (by decide) (by decide) (rfl) rfl ?_
      refine yb_push (v := 3) rfl ?_
      refine yb_iload (x := l3) rfl rfl ?_
      refine yb_imul (x := (3 : Int)) (y := l3) rfl ?_
      refine yb_push (v := 2) rfl ?_
      refine yb_iadd (x := ((3 : Int) * l3)) (y := (2 : Int)) rfl ?_
      have r9 := h.1
      replace h := h.2
      refine yb_iald (j := (((3 : Int) * l3) + (2 : Int))) rfl xd_A168 (by decide) r9 (v := (d 168 (((3 : Int) * l3) + (2 : Int)))) rfl ?_
      refine yb_push (v := 1) rfl ?_
      have r10 := h.1
      replace h := h.2
      refine yb_icmp_ne (x := (d 168 (((3 : Int) * l3) + (2 : Int)))) (y := (1 : Int)) rfl rfl r10 (by decide) (fun c => ?_) (fun c => ?_)
      · replace h := h.1 c
        refine yb_push (v := 0) rfl ?_
        refine yb_icmp_ne (x := (0 : Int)) (y := (0 : Int)) rfl rfl (by decide) (by decide) (fun c => absurd (by decide) c) (fun _ => ?_)
        refine yb_push (v := 1) rfl ?_
        refine yb_iload (x := l3) rfl rfl ?_
        refine yb_ishl (x := (1 : Int)) (y := l3) rfl ?_
        refine yb_goto rfl rfl ?_
        refine yb_ior (x := l2) (y := (xi_shl (1 : Int) l3)) rfl ?_
        refine yb_istore rfl rfl rfl ?_
        refine yb_iinc (x := l3) (n := 1) rfl rfl rfl rfl ?_
        refine yb_goto rfl rfl ?_
        exact h
      · replace h := h.2 c
        refine yb_push (v := 1) rfl ?_
        refine yb_goto rfl rfl ?_
        refine yb_icmp_ne (x := (0 : Int)) (y := (1 : Int)) rfl rfl (by decide) (by decide) (fun _ => ?_) (fun c => absurd c (by decide))
        refine yb_push (v := 0) rfl ?_
        refine yb_ior (x := l2) (y := (0 : Int)) rfl ?_
        refine yb_istore rfl rfl rfl ?_
        refine yb_iinc (x := l3) (n := 1) rfl rfl rfl rfl ?_
        refine yb_goto rfl rfl ?_
        exact h
    · replace h := h.2 c
      refine yb_push (v := 1) rfl ?_
      refine yb_goto rfl rfl ?_
      refine yb_aload rfl rfl ?_
      refine yb_get (v := .ref 168) rfl (by decide) (by decide) (rfl) rfl ?_
      refine yb_push (v := 3) rfl ?_
      refine yb_iload (x := l3) rfl rfl ?_
      refine yb_imul (x := (3 : Int)) (y := l3) rfl ?_
      refine yb_push (v := 2) rfl ?_
      refine yb_iadd (x := ((3 : Int) * l3)) (y := (2 : Int)) rfl ?_
      have r11 := h.1
      replace h := h.2
      refine yb_iald (j := (((3 : Int) * l3) + (2 : Int))) rfl xd_A168 (by decide) r11 (v := (d 168 (((3 : Int) * l3) + (2 : Int)))) rfl ?_
      refine yb_push (v := 1) rfl ?_
      have r12 := h.1
      replace h := h.2
      refine yb_icmp_ne (x := (d 168 (((3 : Int) * l3) + (2 : Int)))) (y := (1 : Int)) rfl rfl r12 (by decide) (fun c => ?_) (fun c => ?_)
      · replace h := h.1 c
        refine yb_push (v := 0) rfl ?_
        refine yb_icmp_ne (x := (1 : Int)) (y := (0 : Int)) rfl rfl (by decide) (by decide) (fun _ => ?_) (fun c => absurd c (by decide))
        refine yb_push (v := 0) rfl ?_
        refine yb_ior (x := l2) (y := (0 : Int)) rfl ?_
        refine yb_istore rfl rfl rfl ?_
        refine yb_iinc (x := l3) (n := 1) rfl rfl rfl rfl ?_
        refine yb_goto rfl rfl ?_
        exact h
      · replace h := h.2 c
        refine yb_push (v := 1) rfl ?_
        refine yb_goto rfl rfl ?_
        refine yb_icmp_ne (x := (1 : Int)) (y := (1 : Int)) rfl rfl (by decide) (by decide) (fun c => absurd (by decide) c) (fun _ => ?_)
        refine yb_push (v := 1) rfl ?_
        refine yb_iload (x := l3) rfl rfl ?_
        refine yb_ishl (x := (1 : Int)) (y := l3) rfl ?_
        refine yb_goto rfl rfl ?_
        refine yb_ior (x := l2) (y := (xi_shl (1 : Int) l3)) rfl ?_
        refine yb_istore rfl rfl rfl ?_
        refine yb_iinc (x := l3) (n := 1) rfl rfl rfl rfl ?_
        refine yb_goto rfl rfl ?_
        exact h
theorem yk_259_164_0 {D L : Nat} {P : Int → xh_D → xd_E → Prop} {d : xh_D} {e : xd_E}    (h : yB D xm_c259 (yQi L P) L 4 [.ref 146, .ref 164, .int (xJ (0 : Int)), .int (xJ (0 : Int))] [] d e) : yB D xm_c259 (yQi L P) L 0 [.ref 146, .ref 164, .double 0, .double 0] [] d e := by
  refine yb_push (v := 0) rfl ?_
  refine yb_istore rfl rfl rfl ?_
  refine yb_push (v := 0) rfl ?_
  refine yb_istore rfl rfl rfl ?_
  exact h
theorem yk_259_164_4 {D L : Nat} {P : Int → xh_D → xd_E → Prop} {d : xh_D} {e : xd_E}  {l2 : Int} {l3 : Int}  (h : ((-2147483648 ≤ l3 ∧ l3 < 2147483648) ∧ ((-2147483648 ≤ (d 146 (46 : Int)) ∧ (d 146 (46 : Int)) < 2147483648) ∧ ((((d 146 (46 : Int)) ≤ l3) → P l2 d e) ∧ ((¬ (d 146 (46 : Int)) ≤ l3) → ((0 ≤ ((3 : Int) * l3) ∧ ((3 : Int) * l3) < 36) ∧ ((0 ≤ (d 168 ((3 : Int) * l3)) ∧ (d 168 ((3 : Int) * l3)) < 10) ∧ ((0 ≤ (((3 : Int) * l3) + (1 : Int)) ∧ (((3 : Int) * l3) + (1 : Int)) < 36) ∧ ((0 ≤ (d 168 (((3 : Int) * l3) + (1 : Int))) ∧ (d 168 (((3 : Int) * l3) + (1 : Int))) < 10) ∧ ((-2147483648 ≤ (d 164 (d 168 ((3 : Int) * l3))) ∧ (d 164 (d 168 ((3 : Int) * l3))) < 2147483648) ∧ ((-2147483648 ≤ (d 164 (d 168 (((3 : Int) * l3) + (1 : Int)))) ∧ (d 164 (d 168 (((3 : Int) * l3) + (1 : Int)))) < 2147483648) ∧ (((¬ (d 164 (d 168 ((3 : Int) * l3))) = (d 164 (d 168 (((3 : Int) * l3) + (1 : Int))))) → ((0 ≤ (((3 : Int) * l3) + (2 : Int)) ∧ (((3 : Int) * l3) + (2 : Int)) < 36) ∧ ((-2147483648 ≤ (d 168 (((3 : Int) * l3) + (2 : Int))) ∧ (d 168 (((3 : Int) * l3) + (2 : Int))) < 2147483648) ∧ (((¬ (d 168 (((3 : Int) * l3) + (2 : Int))) = (1 : Int)) → yB D xm_c259 (yQi L P) L 4 [.ref 146, .ref 164, .int (xJ (xi_or l2 (xi_shl (1 : Int) l3))), .int (xJ (l3 + 1))] [] d e) ∧ (((d 168 (((3 : Int) * l3) + (2 : Int))) = (1 : Int)) → yB D xm_c259 (yQi L P) L 4 [.ref 146, .ref 164, .int (xJ (xi_or l2 (0 : Int))), .int (xJ (l3 + 1))] [] d e))))) ∧ (((d 164 (d 168 ((3 : Int) * l3))) = (d 164 (d 168 (((3 : Int) * l3) + (1 : Int))))) → ((0 ≤ (((3 : Int) * l3) + (2 : Int)) ∧ (((3 : Int) * l3) + (2 : Int)) < 36) ∧ ((-2147483648 ≤ (d 168 (((3 : Int) * l3) + (2 : Int))) ∧ (d 168 (((3 : Int) * l3) + (2 : Int))) < 2147483648) ∧ (((¬ (d 168 (((3 : Int) * l3) + (2 : Int))) = (1 : Int)) → yB D xm_c259 (yQi L P) L 4 [.ref 146, .ref 164, .int (xJ (xi_or l2 (0 : Int))), .int (xJ (l3 + 1))] [] d e) ∧ (((d 168 (((3 : Int) * l3) + (2 : Int))) = (1 : Int)) → yB D xm_c259 (yQi L P) L 4 [.ref 146, .ref 164, .int (xJ (xi_or l2 (xi_shl (1 : Int) l3))), .int (xJ (l3 + 1))] [] d e))))))))))))))))) : yB D xm_c259 (yQi L P) L 4 [.ref 146, .ref 164, .int (xJ l2), .int (xJ l3)] [] d e := by
  refine yb_iload (x := l3) rfl rfl ?_
  refine yb_aload rfl rfl ?_
  refine yb_get (v := .int (xJ (d 146 (46 : Int)))) rfl (by decide) (by decide) (rfl) rfl ?_
  have r1 := h.1
  replace h := h.2
  have r2 := h.1
  replace h := h.2
  refine yb_icmp_ge (x := l3) (y := (d 146 (46 : Int))) rfl rfl r1 r2 (fun c => ?_) (fun c => ?_)
  · replace h := h.1 c
    refine yb_iload (x := l2) rfl rfl ?_
    exact yb_ret rfl h
  · replace h := h.2 c
    refine yb_iload (x := l2) rfl rfl ?_
    refine yb_aload rfl rfl ?_
    refine yb_aload rfl rfl ?_
    refine yb_get (v := .ref 168) rfl (by decide) (by decide) (rfl) rfl ?_
    refine yb_push (v := 3) rfl ?_
    refine yb_iload (x := l3) rfl rfl ?_
    refine yb_imul (x := (3 : Int)) (y := l3) rfl ?_
    have r3 := h.1
    replace h := h.2
    refine yb_iald (j := ((3 : Int) * l3)) rfl xd_A168 (by decide) r3 (v := (d 168 ((3 : Int) * l3))) rfl ?_
    have r4 := h.1
    replace h := h.2
    refine yb_iald (j := (d 168 ((3 : Int) * l3))) rfl xd_A164 (by decide) r4 (v := (d 164 (d 168 ((3 : Int) * l3)))) rfl ?_
    refine yb_aload rfl rfl ?_
    refine yb_aload rfl rfl ?_
    refine yb_get (v := .ref 168) rfl (by decide) (by decide) (rfl) rfl ?_
    refine yb_push (v := 3) rfl ?_
    refine yb_iload (x := l3) rfl rfl ?_
    refine yb_imul (x := (3 : Int)) (y := l3) rfl ?_
    refine yb_push (v := 1) rfl ?_
    refine yb_iadd (x := ((3 : Int) * l3)) (y := (1 : Int)) rfl ?_
    have r5 := h.1
    replace h := h.2
    refine yb_iald (j := (((3 : Int) * l3) + (1 : Int))) rfl xd_A168 (by decide) r5 (v := (d 168 (((3 : Int) * l3) + (1 : Int)))) rfl ?_
    have r6 := h.1
    replace h := h.2
    refine yb_iald (j := (d 168 (((3 : Int) * l3) + (1 : Int)))) rfl xd_A164 (by decide) r6 (v := (d 164 (d 168 (((3 : Int) * l3) + (1 : Int))))) rfl ?_
    have r7 := h.1
    replace h := h.2
    have r8 := h.1
    replace h := h.2
    refine yb_icmp_ne (x := (d 164 (d 168 ((3 : Int) * l3)))) (y := (d 164 (d 168 (((3 : Int) * l3) + (1 : Int))))) rfl rfl r7 r8 (fun c => ?_) (fun c => ?_)
    · replace h := h.1 c
      refine yb_push (v := 0) rfl ?_
      refine yb_aload rfl rfl ?_
      refine yb_get (v := .ref 168) rfl (by decide) (by decide) (rfl) rfl ?_
      refine yb_push (v := 3) rfl ?_
      refine yb_iload (x := l3) rfl rfl ?_
      refine yb_imul (x := (3 : Int)) (y := l3) rfl ?_
      refine yb_push (v := 2) rfl ?_
      refine yb_iadd (x := ((3 : Int) * l3)) (y := (2 : Int)) rfl ?_
      have r9 := h.1
      replace h := h.2
      refine yb_iald (j := (((3 : Int) * l3) + (2 : Int))) rfl xd_A168 (by decide) r9 (v := (d 168 (((3 : Int) * l3) + (2 : Int)))) rfl ?_
      refine yb_push (v := 1) rfl ?_
      have r10 := h.1
      replace h := h.2
      refine yb_icmp_ne (x := (d 168 (((3 : Int) * l3) + (2 : Int)))) (y := (1 : Int)) rfl rfl r10 (by decide) (fun c => ?_) (fun c => ?_)
      · replace h := h.1 c
        refine yb_push (v := 0) rfl ?_
        refine yb_icmp_ne (x := (0 : Int)) (y := (0 : Int)) rfl rfl (by decide) (by decide) (fun c => absurd (by decide) c) (fun _ => ?_)
        refine yb_push (v := 1) rfl ?_
        refine yb_iload (x := l3) rfl rfl ?_
        refine yb_ishl (x := (1 : Int)) (y := l3) rfl ?_
        refine yb_goto rfl rfl ?_
        refine yb_ior (x := l2) (y := (xi_shl (1 : Int) l3)) rfl ?_
        refine yb_istore rfl rfl rfl ?_
        refine yb_iinc (x := l3) (n := 1) rfl rfl rfl rfl ?_
        refine yb_goto rfl rfl ?_
        exact h
      · replace h := h.2 c
        refine yb_push (v := 1) rfl ?_
        refine yb_goto rfl rfl ?_
        refine yb_icmp_ne (x := (0 : Int)) (y := (1 : Int)) rfl rfl (by decide) (by decide) (fun _ => ?_) (fun c => absurd c (by decide))
        refine yb_push (v := 0) rfl ?_
        refine yb_ior (x := l2) (y := (0 : Int)) rfl ?_
        refine yb_istore rfl rfl rfl ?_
        refine yb_iinc (x := l3) (n := 1) rfl rfl rfl rfl ?_
        refine yb_goto rfl rfl ?_
        exact h
    · replace h := h.2 c
      refine yb_push (v := 1) rfl ?_
      refine yb_goto rfl rfl ?_
      refine yb_aload rfl rfl ?_
      refine yb_get (v := .ref 168) rfl (by decide) (by decide) (rfl) rfl ?_
      refine yb_push (v := 3) rfl ?_
      refine yb_iload (x := l3) rfl rfl ?_
      refine yb_imul (x := (3 : Int)) (y := l3) rfl ?_
      refine yb_push (v := 2) rfl ?_
      refine yb_iadd (x := ((3 : Int) * l3)) (y := (2 : Int)) rfl ?_
      have r11 := h.1
      replace h := h.2
      refine yb_iald (j := (((3 : Int) * l3) + (2 : Int))) rfl xd_A168 (by decide) r11 (v := (d 168 (((3 : Int) * l3) + (2 : Int)))) rfl ?_
      refine yb_push (v := 1) rfl ?_
      have r12 := h.1
      replace h := h.2
      refine yb_icmp_ne (x := (d 168 (((3 : Int) * l3) + (2 : Int)))) (y := (1 : Int)) rfl rfl r12 (by decide) (fun c => ?_) (fun c => ?_)
      · replace h := h.1 c
        refine yb_push (v := 0) rfl ?_
        refine yb_icmp_ne (x := (1 : Int)) (y := (0 : Int)) rfl rfl (by decide) (by decide) (fun _ => ?_) (fun c => absurd c (by decide))
        refine yb_push (v := 0) rfl ?_
        refine yb_ior (x := l2) (y := (0 : Int)) rfl ?_
        refine yb_istore rfl rfl rfl ?_
        refine yb_iinc (x := l3) (n := 1) rfl rfl rfl rfl ?_
        refine yb_goto rfl rfl ?_
        exact h
      · replace h := h.2 c
        refine yb_push (v := 1) rfl ?_
        refine yb_goto rfl rfl ?_
        refine yb_icmp_ne (x := (1 : Int)) (y := (1 : Int)) rfl rfl (by decide) (by decide) (fun c => absurd (by decide) c) (fun _ => ?_)
        refine yb_push (v := 1) rfl ?_
        refine yb_iload (x := l3) rfl rfl ?_
        refine yb_ishl (x := (1 : Int)) (y := l3) rfl ?_
        refine yb_goto rfl rfl ?_
        refine yb_ior (x := l2) (y := (xi_shl (1 : Int) l3)) rfl ?_
        refine yb_istore rfl rfl rfl ?_
        refine yb_iinc (x := l3) (n := 1) rfl rfl rfl rfl ?_
        refine yb_goto rfl rfl ?_
        exact h
theorem yk_260_0 {D L : Nat} {P : Int → xh_D → xd_E → Prop} {d : xh_D} {e : xd_E}    (hD : 1 ≤ D) (h : yC D 259 L [.ref 146, .ref 147] (xs d 146 (8 : Int) (0 : Int)) e (fun x1 d2 e3 => P (xp_bc x1) (xs (xs (xs d2 146 (7 : Int) (0 : Int)) 151 (0 : Int) x1) 146 (7 : Int) ((0 : Int) + 1)) e3)) : yB D xm_c260 (yQi L P) L 0 [.ref 146, .double 0] [] d e := by
  refine yb_aload rfl rfl ?_
  refine yb_push (v := 0) rfl ?_
  refine yb_put (z := (0 : Int)) (k := 8) rfl rfl (by decide) (by decide) (rfl) (Nat.le_of_ble_eq_true rfl) rfl (rfl) ?_
  refine yb_aload rfl rfl ?_
  refine yb_aload rfl rfl ?_
  refine yb_get (v := .ref 147) rfl (by decide) (by decide) (rfl) rfl ?_
  refine yb_callVi (As := [.ref 147]) (a := 146) rfl rfl rfl rfl rfl rfl rfl rfl (by decide) (by decide) (rfl) (by decide) (yC_mono h (fun x1 d2 e3 h => ?_))
  refine yb_istore rfl rfl rfl ?_
  refine yb_aload rfl rfl ?_
  refine yb_push (v := 0) rfl ?_
  refine yb_put (z := (0 : Int)) (k := 7) rfl rfl (by decide) (by decide) (rfl) (Nat.le_of_ble_eq_true rfl) rfl (rfl) ?_
  refine yb_aload rfl rfl ?_
  refine yb_iload (x := x1) rfl rfl ?_
  refine yb_callVv (As := [.int (xJ x1)]) (a := 146) rfl rfl rfl rfl rfl rfl rfl rfl (by decide) (by decide) (rfl) (by decide) (sp_183 (by omega) (by show (0 ≤ (0 : Int) ∧ (0 : Int) < 20); decide) ?_)
  show yB D xm_c260 _ L 14 [.ref 146, .int (xJ x1)] [] (xs (xs (xs d2 146 (7 : Int) (0 : Int)) 151 (0 : Int) x1) 146 (7 : Int) ((0 : Int) + 1)) e3
  refine yb_iload (x := x1) rfl rfl ?_
  refine yb_callSi (As := [.int (xJ x1)]) rfl rfl rfl rfl rfl rfl rfl rfl (by decide) (sp_0 (by omega) ?_)
  show yB D xm_c260 _ L 16 [.ref 146, .int (xJ x1)] [.int (xJ (xp_bc x1))] (xs (xs (xs d2 146 (7 : Int) (0 : Int)) 151 (0 : Int) x1) 146 (7 : Int) ((0 : Int) + 1)) e3
  exact yb_ret rfl h
theorem yk_261_0 {D L : Nat} {P : Int → xh_D → xd_E → Prop} {d : xh_D} {e : xd_E}    (hD : 1 ≤ D) (h : yV D 241 L [.ref 146] (xs d 146 (8 : Int) (0 : Int)) e (fun d1 e2 => yC D 244 L [.ref 146] d1 e2 (fun x3 d4 e5 => yC D 259 L [.ref 146, .ref 147] d4 e5 (fun x6 d7 e8 => yB D xm_c261 (yQi L P) L 20 [.ref 146, .int (xJ x3), .int (xJ (-1 : Int)), .int (xJ (-1 : Int)), .int (xJ (xp_bc x6)), .int (xJ (0 : Int)), .double 0, .double 0] [] d7 e8)))) : yB D xm_c261 (yQi L P) L 0 [.ref 146, .double 0, .double 0, .double 0, .double 0, .double 0, .double 0, .double 0] [] d e := by
  refine yb_aload rfl rfl ?_
  refine yb_push (v := 0) rfl ?_
  refine yb_put (z := (0 : Int)) (k := 8) rfl rfl (by decide) (by decide) (rfl) (Nat.le_of_ble_eq_true rfl) rfl (rfl) ?_
  refine yb_aload rfl rfl ?_
  refine yb_callVv (As := []) (a := 146) rfl rfl rfl rfl rfl rfl rfl rfl (by decide) (by decide) (rfl) (by decide) (yV_mono h (fun d1 e2 h => ?_))
  refine yb_aload rfl rfl ?_
  refine yb_callVi (As := []) (a := 146) rfl rfl rfl rfl rfl rfl rfl rfl (by decide) (by decide) (rfl) (by decide) (yC_mono h (fun x3 d4 e5 h => ?_))
  refine yb_istore rfl rfl rfl ?_
  refine yb_push (v := (-1)) rfl ?_
  refine yb_istore rfl rfl rfl ?_
  refine yb_push (v := (-1)) rfl ?_
  refine yb_istore rfl rfl rfl ?_
  refine yb_aload rfl rfl ?_
  refine yb_aload rfl rfl ?_
  refine yb_get (v := .ref 147) rfl (by decide) (by decide) (rfl) rfl ?_
  refine yb_callVi (As := [.ref 147]) (a := 146) rfl rfl rfl rfl rfl rfl rfl rfl (by decide) (by decide) (rfl) (by decide) (yC_mono h (fun x6 d7 e8 h => ?_))
  refine yb_callSi (As := [.int (xJ x6)]) rfl rfl rfl rfl rfl rfl rfl rfl (by decide) (sp_0 (by omega) ?_)
  show yB D xm_c261 _ L 17 [.ref 146, .int (xJ x3), .int (xJ (-1 : Int)), .int (xJ (-1 : Int)), .double 0, .double 0, .double 0, .double 0] [.int (xJ (xp_bc x6))] d7 e8
  refine yb_istore rfl rfl rfl ?_
  refine yb_push (v := 0) rfl ?_
  refine yb_istore rfl rfl rfl ?_
  exact h
theorem yk_261_20 {D L : Nat} {P : Int → xh_D → xd_E → Prop} {d : xh_D} {e : xd_E}  {l1 : Int} {l2 : Int} {l3 : Int} {l4 : Int} {l5 : Int}  (hD : 1 ≤ D) (h : ((-2147483648 ≤ l5 ∧ l5 < 2147483648) ∧ ((-2147483648 ≤ (d 146 (1 : Int)) ∧ (d 146 (1 : Int)) < 2147483648) ∧ ((((d 146 (1 : Int)) ≤ l5) → P l2 (xs (xs (xs (xs (xs d 146 (7 : Int) (0 : Int)) 151 (0 : Int) l3) 146 (7 : Int) ((0 : Int) + 1)) 151 ((0 : Int) + 1) l4) 146 (7 : Int) (((0 : Int) + 1) + 1)) e) ∧ ((¬ (d 146 (1 : Int)) ≤ l5) → yB D xm_c261 (yQi L P) L 26 [.ref 146, .int (xJ l1), .int (xJ l2), .int (xJ l3), .int (xJ l4), .int (xJ l5), .int (xJ (0 : Int)), .double 0] [] d e))))) : yB D xm_c261 (yQi L P) L 20 [.ref 146, .int (xJ l1), .int (xJ l2), .int (xJ l3), .int (xJ l4), .int (xJ l5), .double 0, .double 0] [] d e := by
  refine yb_iload (x := l5) rfl rfl ?_
  refine yb_aload rfl rfl ?_
  refine yb_get (v := .int (xJ (d 146 (1 : Int)))) rfl (by decide) (by decide) (rfl) rfl ?_
  have r1 := h.1
  replace h := h.2
  have r2 := h.1
  replace h := h.2
  refine yb_icmp_ge (x := l5) (y := (d 146 (1 : Int))) rfl rfl r1 r2 (fun c => ?_) (fun c => ?_)
  · replace h := h.1 c
    refine yb_aload rfl rfl ?_
    refine yb_push (v := 0) rfl ?_
    refine yb_put (z := (0 : Int)) (k := 7) rfl rfl (by decide) (by decide) (rfl) (Nat.le_of_ble_eq_true rfl) rfl (rfl) ?_
    refine yb_aload rfl rfl ?_
    refine yb_iload (x := l3) rfl rfl ?_
    refine yb_callVv (As := [.int (xJ l3)]) (a := 146) rfl rfl rfl rfl rfl rfl rfl rfl (by decide) (by decide) (rfl) (by decide) (sp_183 (by omega) (by show (0 ≤ (0 : Int) ∧ (0 : Int) < 20); decide) ?_)
    show yB D xm_c261 _ L 72 [.ref 146, .int (xJ l1), .int (xJ l2), .int (xJ l3), .int (xJ l4), .int (xJ l5), .double 0, .double 0] [] (xs (xs (xs d 146 (7 : Int) (0 : Int)) 151 (0 : Int) l3) 146 (7 : Int) ((0 : Int) + 1)) e
    refine yb_aload rfl rfl ?_
    refine yb_iload (x := l4) rfl rfl ?_
    refine yb_callVv (As := [.int (xJ l4)]) (a := 146) rfl rfl rfl rfl rfl rfl rfl rfl (by decide) (by decide) (rfl) (by decide) (sp_183 (by omega) (by show (0 ≤ ((0 : Int) + 1) ∧ ((0 : Int) + 1) < 20); decide) ?_)
    show yB D xm_c261 _ L 75 [.ref 146, .int (xJ l1), .int (xJ l2), .int (xJ l3), .int (xJ l4), .int (xJ l5), .double 0, .double 0] [] (xs (xs (xs (xs (xs d 146 (7 : Int) (0 : Int)) 151 (0 : Int) l3) 146 (7 : Int) ((0 : Int) + 1)) 151 ((0 : Int) + 1) l4) 146 (7 : Int) (((0 : Int) + 1) + 1)) e
    refine yb_iload (x := l2) rfl rfl ?_
    exact yb_ret rfl h
  · replace h := h.2 c
    refine yb_push (v := 0) rfl ?_
    refine yb_istore rfl rfl rfl ?_
    exact h
theorem yk_261_26 {D L : Nat} {P : Int → xh_D → xd_E → Prop} {d : xh_D} {e : xd_E}  {l1 : Int} {l2 : Int} {l3 : Int} {l4 : Int} {l5 : Int} {l6 : Int}  (hD : 1 ≤ D) (h : ((-2147483648 ≤ l6 ∧ l6 < 2147483648) ∧ ((((9 : Int) ≤ l6) → ((0 ≤ l5 ∧ l5 < 353) ∧ ((0 ≤ l5 ∧ l5 < 10) ∧ yB D xm_c261 (yQi L P) L 20 [.ref 146, .int (xJ l1), .int (xJ l2), .int (xJ l3), .int (xJ l4), .int (xJ (l5 + 1)), .double 0, .double 0] [] (xs d 164 l5 (d 147 l5)) e))) ∧ ((¬ (9 : Int) ≤ l6) → ((0 ≤ l5 ∧ l5 < 10) ∧ yC D 259 L [.ref 146, .ref 164] (xs d 164 l5 l6) e (fun x5 d6 e7 => ((-2147483648 ≤ l4 ∧ l4 < 2147483648) ∧ ((((xp_bc x5) ≤ l4) → yB D xm_c261 (yQi L P) L 26 [.ref 146, .int (xJ l1), .int (xJ l2), .int (xJ l3), .int (xJ l4), .int (xJ l5), .int (xJ (l6 + 1)), .double 0] [] d6 e7) ∧ ((¬ (xp_bc x5) ≤ l4) → yC D 244 L [.ref 146] d6 e7 (fun x9 d10 e11 => ((-2147483648 ≤ x9 ∧ x9 < 2147483648) ∧ ((-2147483648 ≤ l1 ∧ l1 < 2147483648) ∧ (((x9 ≤ l1) → yB D xm_c261 (yQi L P) L 26 [.ref 146, .int (xJ l1), .int (xJ l5), .int (xJ l6), .int (xJ (xp_bc x5)), .int (xJ l5), .int (xJ (l6 + 1)), .double 0] [] d10 e11) ∧ ((¬ x9 ≤ l1) → yB D xm_c261 (yQi L P) L 26 [.ref 146, .int (xJ l1), .int (xJ l2), .int (xJ l3), .int (xJ l4), .int (xJ l5), .int (xJ (l6 + 1)), .double 0] [] d10 e11)))))))))))))) : yB D xm_c261 (yQi L P) L 26 [.ref 146, .int (xJ l1), .int (xJ l2), .int (xJ l3), .int (xJ l4), .int (xJ l5), .int (xJ l6), .double 0] [] d e := by
  refine yb_iload (x := l6) rfl rfl ?_
  refine yb_push (v := 9) rfl ?_
  have r1 := h.1
  replace h := h.2
  refine yb_icmp_ge (x := l6) (y := (9 : Int)) rfl rfl r1 (by decide) (fun c => ?_) (fun c => ?_)
  · replace h := h.1 c
    refine yb_aload rfl rfl ?_
    refine yb_get (v := .ref 164) rfl (by decide) (by decide) (rfl) rfl ?_
    refine yb_iload (x := l5) rfl rfl ?_
    refine yb_aload rfl rfl ?_
    refine yb_get (v := .ref 147) rfl (by decide) (by decide) (rfl) rfl ?_
    refine yb_iload (x := l5) rfl rfl ?_
    have r2 := h.1
    replace h := h.2
    refine yb_iald (j := l5) rfl xd_A147 (by decide) r2 (v := (d 147 l5)) rfl ?_
    have r3 := h.1
    replace h := h.2
    refine yb_iast (j := l5) (x := (d 147 l5)) rfl xd_A164 (by decide) r3 ?_
    refine yb_iinc (x := l5) (n := 1) rfl rfl rfl rfl ?_
    refine yb_goto rfl rfl ?_
    refine yb_forget (dl := [.ref 146, .int (xJ l1), .int (xJ l2), .int (xJ l3), .int (xJ l4), .int (xJ (l5 + 1)), .double 0, .double 0]) ⟨Or.inl rfl, ⟨Or.inl rfl, ⟨Or.inl rfl, ⟨Or.inl rfl, ⟨Or.inl rfl, ⟨Or.inl rfl, ⟨Or.inr ⟨rfl, rfl⟩, ⟨Or.inl rfl, trivial⟩⟩⟩⟩⟩⟩⟩⟩ ?_
    exact h
  · replace h := h.2 c
    refine yb_aload rfl rfl ?_
    refine yb_get (v := .ref 164) rfl (by decide) (by decide) (rfl) rfl ?_
    refine yb_iload (x := l5) rfl rfl ?_
    refine yb_iload (x := l6) rfl rfl ?_
    have r4 := h.1
    replace h := h.2
    refine yb_iast (j := l5) (x := l6) rfl xd_A164 (by decide) r4 ?_
    refine yb_aload rfl rfl ?_
    refine yb_aload rfl rfl ?_
    refine yb_get (v := .ref 164) rfl (by decide) (by decide) (rfl) rfl ?_
    refine yb_callVi (As := [.ref 164]) (a := 146) rfl rfl rfl rfl rfl rfl rfl rfl (by decide) (by decide) (rfl) (by decide) (yC_mono h (fun x5 d6 e7 h => ?_))
    refine yb_callSi (As := [.int (xJ x5)]) rfl rfl rfl rfl rfl rfl rfl rfl (by decide) (sp_0 (by omega) ?_)
    show yB D xm_c261 _ L 39 [.ref 146, .int (xJ l1), .int (xJ l2), .int (xJ l3), .int (xJ l4), .int (xJ l5), .int (xJ l6), .double 0] [.int (xJ (xp_bc x5))] d6 e7
    refine yb_istore rfl rfl rfl ?_
    refine yb_iload (x := (xp_bc x5)) rfl rfl ?_
    refine yb_iload (x := l4) rfl rfl ?_
    have r8 := h.1
    replace h := h.2
    refine yb_icmp_le (x := (xp_bc x5)) (y := l4) rfl rfl (xJ_rng _) r8 (fun c => ?_) (fun c => ?_)
    · replace h := h.1 c
      refine yb_iinc (x := l6) (n := 1) rfl rfl rfl rfl ?_
      refine yb_goto rfl rfl ?_
      refine yb_forget (dl := [.ref 146, .int (xJ l1), .int (xJ l2), .int (xJ l3), .int (xJ l4), .int (xJ l5), .int (xJ (l6 + 1)), .double 0]) ⟨Or.inl rfl, ⟨Or.inl rfl, ⟨Or.inl rfl, ⟨Or.inl rfl, ⟨Or.inl rfl, ⟨Or.inl rfl, ⟨Or.inl rfl, ⟨Or.inr ⟨rfl, rfl⟩, trivial⟩⟩⟩⟩⟩⟩⟩⟩ ?_
      exact h
    · replace h := h.2 c
      refine yb_aload rfl rfl ?_
      refine yb_callVi (As := []) (a := 146) rfl rfl rfl rfl rfl rfl rfl rfl (by decide) (by decide) (rfl) (by decide) (yC_mono h (fun x9 d10 e11 h => ?_))
      refine yb_iload (x := l1) rfl rfl ?_
      have r12 := h.1
      replace h := h.2
      have r13 := h.1
      replace h := h.2
      refine yb_icmp_le (x := x9) (y := l1) rfl rfl r12 r13 (fun c => ?_) (fun c => ?_)
      · replace h := h.1 c
        refine yb_iload (x := l5) rfl rfl ?_
        refine yb_istore rfl rfl rfl ?_
        refine yb_iload (x := l6) rfl rfl ?_
        refine yb_istore rfl rfl rfl ?_
        refine yb_iload (x := (xp_bc x5)) rfl rfl ?_
        refine yb_istore rfl rfl rfl ?_
        refine yb_iinc (x := l6) (n := 1) rfl rfl rfl rfl ?_
        refine yb_goto rfl rfl ?_
        refine yb_forget (dl := [.ref 146, .int (xJ l1), .int (xJ l5), .int (xJ l6), .int (xJ (xp_bc x5)), .int (xJ l5), .int (xJ (l6 + 1)), .double 0]) ⟨Or.inl rfl, ⟨Or.inl rfl, ⟨Or.inl rfl, ⟨Or.inl rfl, ⟨Or.inl rfl, ⟨Or.inl rfl, ⟨Or.inl rfl, ⟨Or.inr ⟨rfl, rfl⟩, trivial⟩⟩⟩⟩⟩⟩⟩⟩ ?_
        exact h
      · replace h := h.2 c
        refine yb_goto rfl rfl ?_
        refine yb_iinc (x := l6) (n := 1) rfl rfl rfl rfl ?_
        refine yb_goto rfl rfl ?_
        refine yb_forget (dl := [.ref 146, .int (xJ l1), .int (xJ l2), .int (xJ l3), .int (xJ l4), .int (xJ l5), .int (xJ (l6 + 1)), .double 0]) ⟨Or.inl rfl, ⟨Or.inl rfl, ⟨Or.inl rfl, ⟨Or.inl rfl, ⟨Or.inl rfl, ⟨Or.inl rfl, ⟨Or.inl rfl, ⟨Or.inr ⟨rfl, rfl⟩, trivial⟩⟩⟩⟩⟩⟩⟩⟩ ?_
        exact h
theorem yk_262_0 {D L : Nat} {P : xh_D → xd_E → Prop} {d : xh_D} {e : xd_E} {a1 : Int} {a2 : Int}   (h : ((-2147483648 ≤ a2 ∧ a2 < 2147483648) ∧ ((-2147483648 ≤ (d 146 (49 : Int)) ∧ (d 146 (49 : Int)) < 2147483648) ∧ (((a2 < (d 146 (49 : Int))) → ((-2147483648 ≤ a1 ∧ a1 < 2147483648) ∧ ((-2147483648 ≤ (d 146 (1 : Int)) ∧ (d 146 (1 : Int)) < 2147483648) ∧ (((¬ a1 = (d 146 (1 : Int))) → yB D xm_c262 (yQv L P) L 31 [.ref 146, .int (xJ a1), .int (xJ a2), .int (xJ (0 : Int)), .double 0, .double 0, .double 0, .double 0] [] d e) ∧ ((a1 = (d 146 (1 : Int))) → yB D xm_c262 (yQv L P) L 14 [.ref 146, .double 0, .double 0, .int (xJ (0 : Int)), .double 0, .double 0, .double 0, .double 0] [] (xs d 146 (49 : Int) a2) e))))) ∧ ((¬ a2 < (d 146 (49 : Int))) → P d e))))) : yB D xm_c262 (yQv L P) L 0 [.ref 146, .int (xJ a1), .int (xJ a2), .double 0, .double 0, .double 0, .double 0, .double 0] [] d e := by
  refine yb_iload (x := a2) rfl rfl ?_
  refine yb_aload rfl rfl ?_
  refine yb_get (v := .int (xJ (d 146 (49 : Int)))) rfl (by decide) (by decide) (rfl) rfl ?_
  have r1 := h.1
  replace h := h.2
  have r2 := h.1
  replace h := h.2
  refine yb_icmp_lt (x := a2) (y := (d 146 (49 : Int))) rfl rfl r1 r2 (fun c => ?_) (fun c => ?_)
  · replace h := h.1 c
    refine yb_iload (x := a1) rfl rfl ?_
    refine yb_aload rfl rfl ?_
    refine yb_get (v := .int (xJ (d 146 (1 : Int)))) rfl (by decide) (by decide) (rfl) rfl ?_
    have r3 := h.1
    replace h := h.2
    have r4 := h.1
    replace h := h.2
    refine yb_icmp_ne (x := a1) (y := (d 146 (1 : Int))) rfl rfl r3 r4 (fun c => ?_) (fun c => ?_)
    · replace h := h.1 c
      refine yb_push (v := 0) rfl ?_
      refine yb_istore rfl rfl rfl ?_
      exact h
    · replace h := h.2 c
      refine yb_aload rfl rfl ?_
      refine yb_iload (x := a2) rfl rfl ?_
      refine yb_put (z := a2) (k := 49) rfl rfl (by decide) (by decide) (rfl) (Nat.le_of_ble_eq_true rfl) rfl (rfl) ?_
      refine yb_push (v := 0) rfl ?_
      refine yb_istore rfl rfl rfl ?_
      refine yb_forget (dl := [.ref 146, .double 0, .double 0, .int (xJ (0 : Int)), .double 0, .double 0, .double 0, .double 0]) ⟨Or.inl rfl, ⟨Or.inr ⟨rfl, rfl⟩, ⟨Or.inr ⟨rfl, rfl⟩, ⟨Or.inl rfl, ⟨Or.inl rfl, ⟨Or.inl rfl, ⟨Or.inl rfl, ⟨Or.inl rfl, trivial⟩⟩⟩⟩⟩⟩⟩⟩ ?_
      exact h
  · replace h := h.2 c
    exact yb_retv rfl h
theorem yk_262_14 {D L : Nat} {P : xh_D → xd_E → Prop} {d : xh_D} {e : xd_E}  {l3 : Int}  (h : ((-2147483648 ≤ l3 ∧ l3 < 2147483648) ∧ ((-2147483648 ≤ (d 146 (1 : Int)) ∧ (d 146 (1 : Int)) < 2147483648) ∧ ((((d 146 (1 : Int)) ≤ l3) → P d e) ∧ ((¬ (d 146 (1 : Int)) ≤ l3) → ((0 ≤ l3 ∧ l3 < 9) ∧ yB D xm_c262 (yQv L P) L 14 [.ref 146, .double 0, .double 0, .int (xJ (l3 + 1)), .double 0, .double 0, .double 0, .double 0] [] (xs d 170 l3 (d 169 l3)) e)))))) : yB D xm_c262 (yQv L P) L 14 [.ref 146, .double 0, .double 0, .int (xJ l3), .double 0, .double 0, .double 0, .double 0] [] d e := by
  refine yb_iload (x := l3) rfl rfl ?_
  refine yb_aload rfl rfl ?_
  refine yb_get (v := .int (xJ (d 146 (1 : Int)))) rfl (by decide) (by decide) (rfl) rfl ?_
  have r1 := h.1
  replace h := h.2
  have r2 := h.1
  replace h := h.2
  refine yb_icmp_ge (x := l3) (y := (d 146 (1 : Int))) rfl rfl r1 r2 (fun c => ?_) (fun c => ?_)
  · replace h := h.1 c
    exact yb_retv rfl h
  · replace h := h.2 c
    refine yb_aload rfl rfl ?_
    refine yb_get (v := .ref 170) rfl (by decide) (by decide) (rfl) rfl ?_
    refine yb_iload (x := l3) rfl rfl ?_
    refine yb_aload rfl rfl ?_
    refine yb_get (v := .ref 169) rfl (by decide) (by decide) (rfl) rfl ?_
    refine yb_iload (x := l3) rfl rfl ?_
    have r3 := h.1
    replace h := h.2
    refine yb_iald (j := l3) rfl xd_A169 (by decide) r3 (v := (d 169 l3)) rfl ?_
    refine yb_iast (j := l3) (x := (d 169 l3)) rfl xd_A170 (by decide) r3 ?_
    refine yb_iinc (x := l3) (n := 1) rfl rfl rfl rfl ?_
    refine yb_goto rfl rfl ?_
    exact h
theorem yk_262_31 {D L : Nat} {P : xh_D → xd_E → Prop} {d : xh_D} {e : xd_E}  {l1 : Int} {l2 : Int} {l3 : Int}  (h : ((-2147483648 ≤ l3 ∧ l3 < 2147483648) ∧ ((-2147483648 ≤ l2 ∧ l2 < 2147483648) ∧ (((l2 < l3) → P d e) ∧ ((¬ l2 < l3) → ((((9 : Int) ≤ l3) → P d e) ∧ ((¬ (9 : Int) ≤ l3) → ((0 ≤ l1 ∧ l1 < 9) ∧ yB D xm_c262 (yQv L P) L 46 [.ref 146, .int (xJ l1), .int (xJ l2), .int (xJ l3), .int (xJ (1 : Int)), .int (xJ (0 : Int)), .double 0, .double 0] [] (xs d 169 l1 l3) e)))))))) : yB D xm_c262 (yQv L P) L 31 [.ref 146, .int (xJ l1), .int (xJ l2), .int (xJ l3), .double 0, .double 0, .double 0, .double 0] [] d e := by
  refine yb_iload (x := l3) rfl rfl ?_
  refine yb_iload (x := l2) rfl rfl ?_
  have r1 := h.1
  replace h := h.2
  have r2 := h.1
  replace h := h.2
  refine yb_icmp_gt (x := l3) (y := l2) rfl rfl r1 r2 (fun c => ?_) (fun c => ?_)
  · replace h := h.1 c
    exact yb_retv rfl h
  · replace h := h.2 c
    refine yb_iload (x := l3) rfl rfl ?_
    refine yb_push (v := 9) rfl ?_
    refine yb_icmp_ge (x := l3) (y := (9 : Int)) rfl rfl r1 (by decide) (fun c => ?_) (fun c => ?_)
    · replace h := h.1 c
      exact yb_retv rfl h
    · replace h := h.2 c
      refine yb_aload rfl rfl ?_
      refine yb_get (v := .ref 169) rfl (by decide) (by decide) (rfl) rfl ?_
      refine yb_iload (x := l1) rfl rfl ?_
      refine yb_iload (x := l3) rfl rfl ?_
      have r3 := h.1
      replace h := h.2
      refine yb_iast (j := l1) (x := l3) rfl xd_A169 (by decide) r3 ?_
      refine yb_push (v := 1) rfl ?_
      refine yb_istore rfl rfl rfl ?_
      refine yb_push (v := 0) rfl ?_
      refine yb_istore rfl rfl rfl ?_
      exact h
theorem yk_262_46 {D L : Nat} {P : xh_D → xd_E → Prop} {d : xh_D} {e : xd_E}  {l1 : Int} {l2 : Int} {l3 : Int} {l4 : Int} {l5 : Int}  (hD : 1 ≤ D) (h : ((-2147483648 ≤ l5 ∧ l5 < 2147483648) ∧ ((-2147483648 ≤ (d 146 (46 : Int)) ∧ (d 146 (46 : Int)) < 2147483648) ∧ ((((d 146 (46 : Int)) ≤ l5) → ((-2147483648 ≤ l4 ∧ l4 < 2147483648) ∧ (((l4 = 0) → yB D xm_c262 (yQv L P) L 31 [.ref 146, .int (xJ l1), .int (xJ l2), .int (xJ (l3 + 1)), .double 0, .double 0, .double 0, .double 0] [] d e) ∧ ((¬ l4 = 0) → ((-2147483648 ≤ l2 ∧ l2 < 2147483648) ∧ ((-2147483648 ≤ (l3 + (1 : Int)) ∧ (l3 + (1 : Int)) < 2147483648) ∧ yV D 262 L [.ref 146, .int (xJ (l1 + (1 : Int))), .int (xJ (max l2 (l3 + (1 : Int))))] d e (fun d6 e7 => yB D xm_c262 (yQv L P) L 31 [.ref 146, .int (xJ l1), .int (xJ l2), .int (xJ (l3 + 1)), .double 0, .double 0, .double 0, .double 0] [] d6 e7))))))) ∧ ((¬ (d 146 (46 : Int)) ≤ l5) → ((0 ≤ ((3 : Int) * l5) ∧ ((3 : Int) * l5) < 36) ∧ ((0 ≤ (((3 : Int) * l5) + (1 : Int)) ∧ (((3 : Int) * l5) + (1 : Int)) < 36) ∧ ((-2147483648 ≤ (d 168 ((3 : Int) * l5)) ∧ (d 168 ((3 : Int) * l5)) < 2147483648) ∧ ((-2147483648 ≤ (d 168 (((3 : Int) * l5) + (1 : Int))) ∧ (d 168 (((3 : Int) * l5) + (1 : Int))) < 2147483648) ∧ ((-2147483648 ≤ l1 ∧ l1 < 2147483648) ∧ (((¬ (max (d 168 ((3 : Int) * l5)) (d 168 (((3 : Int) * l5) + (1 : Int)))) = l1) → yB D xm_c262 (yQv L P) L 46 [.ref 146, .int (xJ l1), .int (xJ l2), .int (xJ l3), .int (xJ l4), .int (xJ (l5 + 1)), .double 0, .double 0] [] d e) ∧ (((max (d 168 ((3 : Int) * l5)) (d 168 (((3 : Int) * l5) + (1 : Int)))) = l1) → ((0 ≤ (d 168 ((3 : Int) * l5)) ∧ (d 168 ((3 : Int) * l5)) < 9) ∧ ((0 ≤ (d 168 (((3 : Int) * l5) + (1 : Int))) ∧ (d 168 (((3 : Int) * l5) + (1 : Int))) < 9) ∧ ((-2147483648 ≤ (d 169 (d 168 ((3 : Int) * l5))) ∧ (d 169 (d 168 ((3 : Int) * l5))) < 2147483648) ∧ ((-2147483648 ≤ (d 169 (d 168 (((3 : Int) * l5) + (1 : Int)))) ∧ (d 169 (d 168 (((3 : Int) * l5) + (1 : Int)))) < 2147483648) ∧ (((¬ (d 169 (d 168 ((3 : Int) * l5))) = (d 169 (d 168 (((3 : Int) * l5) + (1 : Int))))) → ((0 ≤ (((3 : Int) * l5) + (2 : Int)) ∧ (((3 : Int) * l5) + (2 : Int)) < 36) ∧ ((-2147483648 ≤ (d 168 (((3 : Int) * l5) + (2 : Int))) ∧ (d 168 (((3 : Int) * l5) + (2 : Int))) < 2147483648) ∧ (((¬ (d 168 (((3 : Int) * l5) + (2 : Int))) = (1 : Int)) → yB D xm_c262 (yQv L P) L 46 [.ref 146, .int (xJ l1), .int (xJ l2), .int (xJ l3), .int (xJ l4), .int (xJ (l5 + 1)), .double 0, .double 0] [] d e) ∧ (((d 168 (((3 : Int) * l5) + (2 : Int))) = (1 : Int)) → yB D xm_c262 (yQv L P) L 46 [.ref 146, .int (xJ l1), .int (xJ l2), .int (xJ l3), .int (xJ (0 : Int)), .int (xJ (l5 + 1)), .double 0, .double 0] [] d e))))) ∧ (((d 169 (d 168 ((3 : Int) * l5))) = (d 169 (d 168 (((3 : Int) * l5) + (1 : Int))))) → ((0 ≤ (((3 : Int) * l5) + (2 : Int)) ∧ (((3 : Int) * l5) + (2 : Int)) < 36) ∧ ((-2147483648 ≤ (d 168 (((3 : Int) * l5) + (2 : Int))) ∧ (d 168 (((3 : Int) * l5) + (2 : Int))) < 2147483648) ∧ (((¬ (d 168 (((3 : Int) * l5) + (2 : Int))) = (1 : Int)) → yB D xm_c262 (yQv L P) L 46 [.ref 146, .int (xJ l1), .int (xJ l2), .int (xJ l3), .int (xJ (0 : Int)), .int (xJ (l5 + 1)), .double 0, .double 0] [] d e) ∧ (((d 168 (((3 : Int) * l5) + (2 : Int))) = (1 : Int)) → yB D xm_c262 (yQv L P) L 46 [.ref 146, .int (xJ l1), .int (xJ l2), .int (xJ l3), .int (xJ l4), .int (xJ (l5 + 1)), .double 0, .double 0] [] d e)))))))))))))))))))))) : yB D xm_c262 (yQv L P) L 46 [.ref 146, .int (xJ l1), .int (xJ l2), .int (xJ l3), .int (xJ l4), .int (xJ l5), .double 0, .double 0] [] d e := by
  refine yb_iload (x := l5) rfl rfl ?_
  refine yb_aload rfl rfl ?_
  refine yb_get (v := .int (xJ (d 146 (46 : Int)))) rfl (by decide) (by decide) (rfl) rfl ?_
  have r1 := h.1
  replace h := h.2
  have r2 := h.1
  replace h := h.2
  refine yb_icmp_ge (x := l5) (y := (d 146 (46 : Int))) rfl rfl r1 r2 (fun c => ?_) (fun c => ?_)
  · replace h := h.1 c
    refine yb_iload (x := l4) rfl rfl ?_
    have r3 := h.1
    replace h := h.2
    refine yb_if_eq (x := l4) rfl rfl r3 (fun c => ?_) (fun c => ?_)
    · replace h := h.1 c
      refine yb_iinc (x := l3) (n := 1) rfl rfl rfl rfl ?_
      refine yb_goto rfl rfl ?_
      refine yb_forget (dl := [.ref 146, .int (xJ l1), .int (xJ l2), .int (xJ (l3 + 1)), .double 0, .double 0, .double 0, .double 0]) ⟨Or.inl rfl, ⟨Or.inl rfl, ⟨Or.inl rfl, ⟨Or.inl rfl, ⟨Or.inr ⟨rfl, rfl⟩, ⟨Or.inr ⟨rfl, rfl⟩, ⟨Or.inl rfl, ⟨Or.inl rfl, trivial⟩⟩⟩⟩⟩⟩⟩⟩ ?_
      exact h
    · replace h := h.2 c
      refine yb_aload rfl rfl ?_
      refine yb_iload (x := l1) rfl rfl ?_
      refine yb_push (v := 1) rfl ?_
      refine yb_iadd (x := l1) (y := (1 : Int)) rfl ?_
      refine yb_iload (x := l2) rfl rfl ?_
      refine yb_iload (x := l3) rfl rfl ?_
      refine yb_push (v := 1) rfl ?_
      refine yb_iadd (x := l3) (y := (1 : Int)) rfl ?_
      have r4 := h.1
      replace h := h.2
      have r5 := h.1
      replace h := h.2
      refine yb_callSi (As := [.int (xJ l2), .int (xJ (l3 + (1 : Int)))]) rfl rfl rfl rfl rfl rfl rfl rfl (by show (2 : Nat) ≤ 8; decide) (sp_4 (by omega) ⟨r4, r5⟩ ?_)
      show yB D xm_c262 _ L 112 [.ref 146, .int (xJ l1), .int (xJ l2), .int (xJ l3), .int (xJ l4), .int (xJ l5), .double 0, .double 0] [.int (xJ (max l2 (l3 + (1 : Int)))), .int (xJ (l1 + (1 : Int))), .ref 146] d e
      refine yb_callVv (As := [.int (xJ (l1 + (1 : Int))), .int (xJ (max l2 (l3 + (1 : Int))))]) (a := 146) rfl rfl rfl rfl rfl rfl rfl rfl (by decide) (by decide) (rfl) (by decide) (yV_mono h (fun d6 e7 h => ?_))
      refine yb_iinc (x := l3) (n := 1) rfl rfl rfl rfl ?_
      refine yb_goto rfl rfl ?_
      refine yb_forget (dl := [.ref 146, .int (xJ l1), .int (xJ l2), .int (xJ (l3 + 1)), .double 0, .double 0, .double 0, .double 0]) ⟨Or.inl rfl, ⟨Or.inl rfl, ⟨Or.inl rfl, ⟨Or.inl rfl, ⟨Or.inr ⟨rfl, rfl⟩, ⟨Or.inr ⟨rfl, rfl⟩, ⟨Or.inl rfl, ⟨Or.inl rfl, trivial⟩⟩⟩⟩⟩⟩⟩⟩ ?_
      exact h
  · replace h := h.2 c
    refine yb_aload rfl rfl ?_
    refine yb_get (v := .ref 168) rfl (by decide) (by decide) (rfl) rfl ?_
    refine yb_push (v := 3) rfl ?_
    refine yb_iload (x := l5) rfl rfl ?_
    refine yb_imul (x := (3 : Int)) (y := l5) rfl ?_
    have r8 := h.1
    replace h := h.2
    refine yb_iald (j := ((3 : Int) * l5)) rfl xd_A168 (by decide) r8 (v := (d 168 ((3 : Int) * l5))) rfl ?_
    refine yb_istore rfl rfl rfl ?_
    refine yb_aload rfl rfl ?_
    refine yb_get (v := .ref 168) rfl (by decide) (by decide) (rfl) rfl ?_
    refine yb_push (v := 3) rfl ?_
    refine yb_iload (x := l5) rfl rfl ?_
    refine yb_imul (x := (3 : Int)) (y := l5) rfl ?_
    refine yb_push (v := 1) rfl ?_
    refine yb_iadd (x := ((3 : Int) * l5)) (y := (1 : Int)) rfl ?_
    have r9 := h.1
    replace h := h.2
    refine yb_iald (j := (((3 : Int) * l5) + (1 : Int))) rfl xd_A168 (by decide) r9 (v := (d 168 (((3 : Int) * l5) + (1 : Int)))) rfl ?_
    refine yb_istore rfl rfl rfl ?_
    refine yb_iload (x := (d 168 ((3 : Int) * l5))) rfl rfl ?_
    refine yb_iload (x := (d 168 (((3 : Int) * l5) + (1 : Int)))) rfl rfl ?_
    have r10 := h.1
    replace h := h.2
    have r11 := h.1
    replace h := h.2
    refine yb_callSi (As := [.int (xJ (d 168 ((3 : Int) * l5))), .int (xJ (d 168 (((3 : Int) * l5) + (1 : Int))))]) rfl rfl rfl rfl rfl rfl rfl rfl (by decide) (sp_4 (by omega) ⟨r10, r11⟩ ?_)
    show yB D xm_c262 _ L 69 [.ref 146, .int (xJ l1), .int (xJ l2), .int (xJ l3), .int (xJ l4), .int (xJ l5), .int (xJ (d 168 ((3 : Int) * l5))), .int (xJ (d 168 (((3 : Int) * l5) + (1 : Int))))] [.int (xJ (max (d 168 ((3 : Int) * l5)) (d 168 (((3 : Int) * l5) + (1 : Int)))))] d e
    refine yb_iload (x := l1) rfl rfl ?_
    have r12 := h.1
    replace h := h.2
    refine yb_icmp_ne (x := (max (d 168 ((3 : Int) * l5)) (d 168 (((3 : Int) * l5) + (1 : Int))))) (y := l1) rfl rfl (by omega) r12 (fun c => ?_) (fun c => ?_)
    · replace h := h.1 c
      refine yb_iinc (x := l5) (n := 1) rfl rfl rfl rfl ?_
      refine yb_goto rfl rfl ?_
      refine yb_forget (dl := [.ref 146, .int (xJ l1), .int (xJ l2), .int (xJ l3), .int (xJ l4), .int (xJ (l5 + 1)), .double 0, .double 0]) ⟨Or.inl rfl, ⟨Or.inl rfl, ⟨Or.inl rfl, ⟨Or.inl rfl, ⟨Or.inl rfl, ⟨Or.inl rfl, ⟨Or.inr ⟨rfl, rfl⟩, ⟨Or.inr ⟨rfl, rfl⟩, trivial⟩⟩⟩⟩⟩⟩⟩⟩ ?_
      exact h
    · replace h := h.2 c
      refine yb_aload rfl rfl ?_
      refine yb_get (v := .ref 169) rfl (by decide) (by decide) (rfl) rfl ?_
      refine yb_iload (x := (d 168 ((3 : Int) * l5))) rfl rfl ?_
      have r13 := h.1
      replace h := h.2
      refine yb_iald (j := (d 168 ((3 : Int) * l5))) rfl xd_A169 (by decide) r13 (v := (d 169 (d 168 ((3 : Int) * l5)))) rfl ?_
      refine yb_aload rfl rfl ?_
      refine yb_get (v := .ref 169) rfl (by decide) (by decide) (rfl) rfl ?_
      refine yb_iload (x := (d 168 (((3 : Int) * l5) + (1 : Int)))) rfl rfl ?_
      have r14 := h.1
      replace h := h.2
      refine yb_iald (j := (d 168 (((3 : Int) * l5) + (1 : Int)))) rfl xd_A169 (by decide) r14 (v := (d 169 (d 168 (((3 : Int) * l5) + (1 : Int))))) rfl ?_
      have r15 := h.1
      replace h := h.2
      have r16 := h.1
      replace h := h.2
      refine yb_icmp_ne (x := (d 169 (d 168 ((3 : Int) * l5)))) (y := (d 169 (d 168 (((3 : Int) * l5) + (1 : Int))))) rfl rfl r15 r16 (fun c => ?_) (fun c => ?_)
      · replace h := h.1 c
        refine yb_push (v := 0) rfl ?_
        refine yb_aload rfl rfl ?_
        refine yb_get (v := .ref 168) rfl (by decide) (by decide) (rfl) rfl ?_
        refine yb_push (v := 3) rfl ?_
        refine yb_iload (x := l5) rfl rfl ?_
        refine yb_imul (x := (3 : Int)) (y := l5) rfl ?_
        refine yb_push (v := 2) rfl ?_
        refine yb_iadd (x := ((3 : Int) * l5)) (y := (2 : Int)) rfl ?_
        have r17 := h.1
        replace h := h.2
        refine yb_iald (j := (((3 : Int) * l5) + (2 : Int))) rfl xd_A168 (by decide) r17 (v := (d 168 (((3 : Int) * l5) + (2 : Int)))) rfl ?_
        refine yb_push (v := 1) rfl ?_
        have r18 := h.1
        replace h := h.2
        refine yb_icmp_ne (x := (d 168 (((3 : Int) * l5) + (2 : Int)))) (y := (1 : Int)) rfl rfl r18 (by decide) (fun c => ?_) (fun c => ?_)
        · replace h := h.1 c
          refine yb_push (v := 0) rfl ?_
          refine yb_icmp_eq (x := (0 : Int)) (y := (0 : Int)) rfl rfl (by decide) (by decide) (fun _ => ?_) (fun c => absurd (by decide) c)
          refine yb_iinc (x := l5) (n := 1) rfl rfl rfl rfl ?_
          refine yb_goto rfl rfl ?_
          refine yb_forget (dl := [.ref 146, .int (xJ l1), .int (xJ l2), .int (xJ l3), .int (xJ l4), .int (xJ (l5 + 1)), .double 0, .double 0]) ⟨Or.inl rfl, ⟨Or.inl rfl, ⟨Or.inl rfl, ⟨Or.inl rfl, ⟨Or.inl rfl, ⟨Or.inl rfl, ⟨Or.inr ⟨rfl, rfl⟩, ⟨Or.inr ⟨rfl, rfl⟩, trivial⟩⟩⟩⟩⟩⟩⟩⟩ ?_
          exact h
        · replace h := h.2 c
          refine yb_push (v := 1) rfl ?_
          refine yb_goto rfl rfl ?_
          refine yb_icmp_eq (x := (0 : Int)) (y := (1 : Int)) rfl rfl (by decide) (by decide) (fun c => absurd c (by decide)) (fun _ => ?_)
          refine yb_push (v := 0) rfl ?_
          refine yb_istore rfl rfl rfl ?_
          refine yb_iinc (x := l5) (n := 1) rfl rfl rfl rfl ?_
          refine yb_goto rfl rfl ?_
          refine yb_forget (dl := [.ref 146, .int (xJ l1), .int (xJ l2), .int (xJ l3), .int (xJ (0 : Int)), .int (xJ (l5 + 1)), .double 0, .double 0]) ⟨Or.inl rfl, ⟨Or.inl rfl, ⟨Or.inl rfl, ⟨Or.inl rfl, ⟨Or.inl rfl, ⟨Or.inl rfl, ⟨Or.inr ⟨rfl, rfl⟩, ⟨Or.inr ⟨rfl, rfl⟩, trivial⟩⟩⟩⟩⟩⟩⟩⟩ ?_
          exact h
      · replace h := h.2 c
        refine yb_push (v := 1) rfl ?_
        refine yb_goto rfl rfl ?_
        refine yb_aload rfl rfl ?_
        refine yb_get (v := .ref 168) rfl (by decide) (by decide) (rfl) rfl ?_
        refine yb_push (v := 3) rfl ?_
        refine yb_iload (x := l5) rfl rfl ?_
        refine yb_imul (x := (3 : Int)) (y := l5) rfl ?_
        refine yb_push (v := 2) rfl ?_
        refine yb_iadd (x := ((3 : Int) * l5)) (y := (2 : Int)) rfl ?_
        have r19 := h.1
        replace h := h.2
        refine yb_iald (j := (((3 : Int) * l5) + (2 : Int))) rfl xd_A168 (by decide) r19 (v := (d 168 (((3 : Int) * l5) + (2 : Int)))) rfl ?_
        refine yb_push (v := 1) rfl ?_
        have r20 := h.1
        replace h := h.2
        refine yb_icmp_ne (x := (d 168 (((3 : Int) * l5) + (2 : Int)))) (y := (1 : Int)) rfl rfl r20 (by decide) (fun c => ?_) (fun c => ?_)
        · replace h := h.1 c
          refine yb_push (v := 0) rfl ?_
          refine yb_icmp_eq (x := (1 : Int)) (y := (0 : Int)) rfl rfl (by decide) (by decide) (fun c => absurd c (by decide)) (fun _ => ?_)
          refine yb_push (v := 0) rfl ?_
          refine yb_istore rfl rfl rfl ?_
          refine yb_iinc (x := l5) (n := 1) rfl rfl rfl rfl ?_
          refine yb_goto rfl rfl ?_
          refine yb_forget (dl := [.ref 146, .int (xJ l1), .int (xJ l2), .int (xJ l3), .int (xJ (0 : Int)), .int (xJ (l5 + 1)), .double 0, .double 0]) ⟨Or.inl rfl, ⟨Or.inl rfl, ⟨Or.inl rfl, ⟨Or.inl rfl, ⟨Or.inl rfl, ⟨Or.inl rfl, ⟨Or.inr ⟨rfl, rfl⟩, ⟨Or.inr ⟨rfl, rfl⟩, trivial⟩⟩⟩⟩⟩⟩⟩⟩ ?_
          exact h
        · replace h := h.2 c
          refine yb_push (v := 1) rfl ?_
          refine yb_goto rfl rfl ?_
          refine yb_icmp_eq (x := (1 : Int)) (y := (1 : Int)) rfl rfl (by decide) (by decide) (fun _ => ?_) (fun c => absurd (by decide) c)
          refine yb_iinc (x := l5) (n := 1) rfl rfl rfl rfl ?_
          refine yb_goto rfl rfl ?_
          refine yb_forget (dl := [.ref 146, .int (xJ l1), .int (xJ l2), .int (xJ l3), .int (xJ l4), .int (xJ (l5 + 1)), .double 0, .double 0]) ⟨Or.inl rfl, ⟨Or.inl rfl, ⟨Or.inl rfl, ⟨Or.inl rfl, ⟨Or.inl rfl, ⟨Or.inl rfl, ⟨Or.inr ⟨rfl, rfl⟩, ⟨Or.inr ⟨rfl, rfl⟩, trivial⟩⟩⟩⟩⟩⟩⟩⟩ ?_
          exact h
theorem yk_263_0 {D L : Nat} {P : Int → xh_D → xd_E → Prop} {d : xh_D} {e : xd_E}    (h : ((-2147483648 ≤ (d 146 (1 : Int)) ∧ (d 146 (1 : Int)) < 2147483648) ∧ (((¬ (d 146 (1 : Int)) = 0) → yV D 262 L [.ref 146, .int (xJ (0 : Int)), .int (xJ (0 : Int))] (xs (xs d 146 (8 : Int) (0 : Int)) 146 (49 : Int) (1000000 : Int)) e (fun d2 e3 => ((-2147483648 ≤ (d2 146 (49 : Int)) ∧ (d2 146 (49 : Int)) < 2147483648) ∧ (((¬ (d2 146 (49 : Int)) = (1000000 : Int)) → yB D xm_c263 (yQi L P) L 29 [.ref 146, .int (xJ (0 : Int))] [] (xs d2 146 (7 : Int) (0 : Int)) e3) ∧ (((d2 146 (49 : Int)) = (1000000 : Int)) → P (-2 : Int) d2 e3))))) ∧ (((d 146 (1 : Int)) = 0) → P (0 : Int) (xs (xs d 146 (8 : Int) (0 : Int)) 146 (7 : Int) (0 : Int)) e)))) : yB D xm_c263 (yQi L P) L 0 [.ref 146, .double 0] [] d e := by
  refine yb_aload rfl rfl ?_
  refine yb_push (v := 0) rfl ?_
  refine yb_put (z := (0 : Int)) (k := 8) rfl rfl (by decide) (by decide) (rfl) (Nat.le_of_ble_eq_true rfl) rfl (rfl) ?_
  refine yb_aload rfl rfl ?_
  refine yb_get (v := .int (xJ (d 146 (1 : Int)))) rfl (by decide) (by decide) (rfl) rfl ?_
  have r1 := h.1
  replace h := h.2
  refine yb_if_ne (x := (d 146 (1 : Int))) rfl rfl r1 (fun c => ?_) (fun c => ?_)
  · replace h := h.1 c
    refine yb_aload rfl rfl ?_
    refine yb_push (v := 1000000) rfl ?_
    refine yb_put (z := (1000000 : Int)) (k := 49) rfl rfl (by decide) (by decide) (rfl) (Nat.le_of_ble_eq_true rfl) rfl (rfl) ?_
    refine yb_aload rfl rfl ?_
    refine yb_push (v := 0) rfl ?_
    refine yb_push (v := 0) rfl ?_
    refine yb_callVv (As := [.int (xJ (0 : Int)), .int (xJ (0 : Int))]) (a := 146) rfl rfl rfl rfl rfl rfl rfl rfl (by decide) (by decide) (rfl) (by decide) (yV_mono h (fun d2 e3 h => ?_))
    refine yb_aload rfl rfl ?_
    refine yb_get (v := .int (xJ (d2 146 (49 : Int)))) rfl (by decide) (by decide) (rfl) rfl ?_
    refine yb_push (v := 1000000) rfl ?_
    have r4 := h.1
    replace h := h.2
    refine yb_icmp_ne (x := (d2 146 (49 : Int))) (y := (1000000 : Int)) rfl rfl r4 (by decide) (fun c => ?_) (fun c => ?_)
    · replace h := h.1 c
      refine yb_aload rfl rfl ?_
      refine yb_push (v := 0) rfl ?_
      refine yb_put (z := (0 : Int)) (k := 7) rfl rfl (by decide) (by decide) (rfl) (Nat.le_of_ble_eq_true rfl) rfl (rfl) ?_
      refine yb_push (v := 0) rfl ?_
      refine yb_istore rfl rfl rfl ?_
      exact h
    · replace h := h.2 c
      refine yb_push (v := (-2)) rfl ?_
      exact yb_ret rfl h
  · replace h := h.2 c
    refine yb_aload rfl rfl ?_
    refine yb_push (v := 0) rfl ?_
    refine yb_put (z := (0 : Int)) (k := 7) rfl rfl (by decide) (by decide) (rfl) (Nat.le_of_ble_eq_true rfl) rfl (rfl) ?_
    refine yb_push (v := 0) rfl ?_
    exact yb_ret rfl h
theorem yk_263_29 {D L : Nat} {P : Int → xh_D → xd_E → Prop} {d : xh_D} {e : xd_E}  {l1 : Int}  (hD : 1 ≤ D) (h : ((-2147483648 ≤ l1 ∧ l1 < 2147483648) ∧ ((-2147483648 ≤ (d 146 (1 : Int)) ∧ (d 146 (1 : Int)) < 2147483648) ∧ ((((d 146 (1 : Int)) ≤ l1) → P (d 146 (49 : Int)) d e) ∧ ((¬ (d 146 (1 : Int)) ≤ l1) → ((0 ≤ l1 ∧ l1 < 9) ∧ ((0 ≤ (d 146 (7 : Int)) ∧ (d 146 (7 : Int)) < 20) ∧ yB D xm_c263 (yQi L P) L 29 [.ref 146, .int (xJ (l1 + 1))] [] (xs (xs d 151 (d 146 (7 : Int)) (d 170 l1)) 146 (7 : Int) ((d 146 (7 : Int)) + 1)) e))))))) : yB D xm_c263 (yQi L P) L 29 [.ref 146, .int (xJ l1)] [] d e := by
  refine yb_iload (x := l1) rfl rfl ?_
  refine yb_aload rfl rfl ?_
  refine yb_get (v := .int (xJ (d 146 (1 : Int)))) rfl (by decide) (by decide) (rfl) rfl ?_
  have r1 := h.1
  replace h := h.2
  have r2 := h.1
  replace h := h.2
  refine yb_icmp_ge (x := l1) (y := (d 146 (1 : Int))) rfl rfl r1 r2 (fun c => ?_) (fun c => ?_)
  · replace h := h.1 c
    refine yb_aload rfl rfl ?_
    refine yb_get (v := .int (xJ (d 146 (49 : Int)))) rfl (by decide) (by decide) (rfl) rfl ?_
    exact yb_ret rfl h
  · replace h := h.2 c
    refine yb_aload rfl rfl ?_
    refine yb_aload rfl rfl ?_
    refine yb_get (v := .ref 170) rfl (by decide) (by decide) (rfl) rfl ?_
    refine yb_iload (x := l1) rfl rfl ?_
    have r3 := h.1
    replace h := h.2
    refine yb_iald (j := l1) rfl xd_A170 (by decide) r3 (v := (d 170 l1)) rfl ?_
    have r4 := h.1
    replace h := h.2
    refine yb_callVv (As := [.int (xJ (d 170 l1))]) (a := 146) rfl rfl rfl rfl rfl rfl rfl rfl (by decide) (by decide) (rfl) (by decide) (sp_183 (by omega) r4 ?_)
    show yB D xm_c263 _ L 39 [.ref 146, .int (xJ l1)] [] (xs (xs d 151 (d 146 (7 : Int)) (d 170 l1)) 146 (7 : Int) ((d 146 (7 : Int)) + 1)) e
    refine yb_iinc (x := l1) (n := 1) rfl rfl rfl rfl ?_
    refine yb_goto rfl rfl ?_
    exact h
theorem yk_264_0 {D L : Nat} {P : Int → xh_D → xd_E → Prop} {d : xh_D} {e : xd_E} {a1 : Int}   (hD : 2 ≤ D) (h : ((-2147483648 ≤ a1 ∧ a1 < 2147483648) ∧ ((0 ≤ (d 146 (1 : Int)) ∧ (d 146 (1 : Int)) ≤ 9) ∧ (((0 ≤ a1 ∧ a1 < (d 146 (1 : Int))) → yB D xm_c264 (yQi L P) L 17 [.ref 146, .int (xJ a1), .int (xJ (-1 : Int)), .int (xJ (1000000 : Int)), .int (xJ (0 : Int)), .int (xJ (-1 : Int)), .double 0, .double 0, .double 0, .double 0] [] (xs d 146 (8 : Int) (0 : Int)) e) ∧ (¬ (0 ≤ a1 ∧ a1 < (d 146 (1 : Int))) → P (-2 : Int) (xs d 146 (8 : Int) (0 : Int)) e))))) : yB D xm_c264 (yQi L P) L 0 [.ref 146, .int (xJ a1), .double 0, .double 0, .double 0, .double 0, .double 0, .double 0, .double 0, .double 0] [] d e := by
  refine yb_aload rfl rfl ?_
  refine yb_push (v := 0) rfl ?_
  refine yb_put (z := (0 : Int)) (k := 8) rfl rfl (by decide) (by decide) (rfl) (Nat.le_of_ble_eq_true rfl) rfl (rfl) ?_
  refine yb_aload rfl rfl ?_
  refine yb_iload (x := a1) rfl rfl ?_
  have r1 := h.1
  replace h := h.2
  have r2 := h.1
  replace h := h.2
  refine yb_callVz (As := [.int (xJ a1)]) (a := 146) rfl rfl rfl rfl rfl rfl rfl rfl (by decide) (by decide) (rfl) (by decide) (sp_184 (by omega) ⟨r1, r2⟩ (fun c => ?_) (fun c => ?_))
  · replace h := h.1 c
    show yB D xm_c264 _ L 6 [.ref 146, .int (xJ a1), .double 0, .double 0, .double 0, .double 0, .double 0, .double 0, .double 0, .double 0] [.int (xJ (1 : Int))] (xs d 146 (8 : Int) (0 : Int)) e
    refine yb_if_ne (x := (1 : Int)) rfl rfl (by decide) (fun _ => ?_) (fun c => absurd c (by decide))
    refine yb_push (v := (-1)) rfl ?_
    refine yb_istore rfl rfl rfl ?_
    refine yb_push (v := 1000000) rfl ?_
    refine yb_istore rfl rfl rfl ?_
    refine yb_push (v := 0) rfl ?_
    refine yb_istore rfl rfl rfl ?_
    refine yb_push (v := (-1)) rfl ?_
    refine yb_istore rfl rfl rfl ?_
    exact h
  · replace h := h.2 c
    show yB D xm_c264 _ L 6 [.ref 146, .int (xJ a1), .double 0, .double 0, .double 0, .double 0, .double 0, .double 0, .double 0, .double 0] [.int (xJ (0 : Int))] (xs d 146 (8 : Int) (0 : Int)) e
    refine yb_if_ne (x := (0 : Int)) rfl rfl (by decide) (fun c => absurd (by decide) c) (fun _ => ?_)
    refine yb_push (v := (-2)) rfl ?_
    exact yb_ret rfl h
theorem yk_264_17 {D L : Nat} {P : Int → xh_D → xd_E → Prop} {d : xh_D} {e : xd_E}  {l1 : Int} {l2 : Int} {l3 : Int} {l4 : Int} {l5 : Int}  (hD : 1 ≤ D) (h : ((-2147483648 ≤ l5 ∧ l5 < 2147483648) ∧ ((-2147483648 ≤ (d 146 (1 : Int)) ∧ (d 146 (1 : Int)) < 2147483648) ∧ ((((d 146 (1 : Int)) ≤ l5) → P l2 (xs (xs (xs (xs (xs d 146 (7 : Int) (0 : Int)) 151 (0 : Int) l3) 146 (7 : Int) ((0 : Int) + 1)) 151 ((0 : Int) + 1) l4) 146 (7 : Int) (((0 : Int) + 1) + 1)) e) ∧ ((¬ (d 146 (1 : Int)) ≤ l5) → ((-2147483648 ≤ l1 ∧ l1 < 2147483648) ∧ (((¬ l5 = l1) → (((¬ l5 = (-1 : Int)) → ((0 ≤ (((9 : Int) * l1) + l5) ∧ (((9 : Int) * l1) + l5) < 81) ∧ (((l5 = (-1 : Int)) → yB D xm_c264 (yQi L P) L 57 [.ref 146, .int (xJ l1), .int (xJ l2), .int (xJ l3), .int (xJ l4), .int (xJ l5), .int (xJ (d 148 (((9 : Int) * l1) + l5))), .int (xJ (0 : Int)), .int (xJ (0 : Int)), .int (xJ (0 : Int))] [] d e) ∧ ((¬ l5 = (-1 : Int)) → yB D xm_c264 (yQi L P) L 57 [.ref 146, .int (xJ l1), .int (xJ l2), .int (xJ l3), .int (xJ l4), .int (xJ l5), .int (xJ (d 148 (((9 : Int) * l1) + l5))), .int (xJ (0 : Int)), .int (xJ (0 : Int)), .int (xJ (0 : Int))] [] (xs d 148 (((9 : Int) * l1) + l5) (9 : Int)) e)))) ∧ ((l5 = (-1 : Int)) → (((l5 = (-1 : Int)) → yB D xm_c264 (yQi L P) L 57 [.ref 146, .int (xJ l1), .int (xJ l2), .int (xJ l3), .int (xJ l4), .int (xJ l5), .int (xJ (0 : Int)), .int (xJ (0 : Int)), .int (xJ (0 : Int)), .int (xJ (0 : Int))] [] d e) ∧ ((¬ l5 = (-1 : Int)) → ((0 ≤ (((9 : Int) * l1) + l5) ∧ (((9 : Int) * l1) + l5) < 81) ∧ yB D xm_c264 (yQi L P) L 57 [.ref 146, .int (xJ l1), .int (xJ l2), .int (xJ l3), .int (xJ l4), .int (xJ l5), .int (xJ (0 : Int)), .int (xJ (0 : Int)), .int (xJ (0 : Int)), .int (xJ (0 : Int))] [] (xs d 148 (((9 : Int) * l1) + l5) (9 : Int)) e)))))) ∧ ((l5 = l1) → yB D xm_c264 (yQi L P) L 17 [.ref 146, .int (xJ l1), .int (xJ l2), .int (xJ l3), .int (xJ l4), .int (xJ (l5 + 1)), .double 0, .double 0, .double 0, .double 0] [] d e)))))))) : yB D xm_c264 (yQi L P) L 17 [.ref 146, .int (xJ l1), .int (xJ l2), .int (xJ l3), .int (xJ l4), .int (xJ l5), .double 0, .double 0, .double 0, .double 0] [] d e := by
  refine yb_iload (x := l5) rfl rfl ?_
  refine yb_aload rfl rfl ?_
  refine yb_get (v := .int (xJ (d 146 (1 : Int)))) rfl (by decide) (by decide) (rfl) rfl ?_
  have r1 := h.1
  replace h := h.2
  have r2 := h.1
  replace h := h.2
  refine yb_icmp_ge (x := l5) (y := (d 146 (1 : Int))) rfl rfl r1 r2 (fun c => ?_) (fun c => ?_)
  · replace h := h.1 c
    refine yb_aload rfl rfl ?_
    refine yb_push (v := 0) rfl ?_
    refine yb_put (z := (0 : Int)) (k := 7) rfl rfl (by decide) (by decide) (rfl) (Nat.le_of_ble_eq_true rfl) rfl (rfl) ?_
    refine yb_aload rfl rfl ?_
    refine yb_iload (x := l3) rfl rfl ?_
    refine yb_callVv (As := [.int (xJ l3)]) (a := 146) rfl rfl rfl rfl rfl rfl rfl rfl (by decide) (by decide) (rfl) (by decide) (sp_183 (by omega) (by show (0 ≤ (0 : Int) ∧ (0 : Int) < 20); decide) ?_)
    show yB D xm_c264 _ L 118 [.ref 146, .int (xJ l1), .int (xJ l2), .int (xJ l3), .int (xJ l4), .int (xJ l5), .double 0, .double 0, .double 0, .double 0] [] (xs (xs (xs d 146 (7 : Int) (0 : Int)) 151 (0 : Int) l3) 146 (7 : Int) ((0 : Int) + 1)) e
    refine yb_aload rfl rfl ?_
    refine yb_iload (x := l4) rfl rfl ?_
    refine yb_callVv (As := [.int (xJ l4)]) (a := 146) rfl rfl rfl rfl rfl rfl rfl rfl (by decide) (by decide) (rfl) (by decide) (sp_183 (by omega) (by show (0 ≤ ((0 : Int) + 1) ∧ ((0 : Int) + 1) < 20); decide) ?_)
    show yB D xm_c264 _ L 121 [.ref 146, .int (xJ l1), .int (xJ l2), .int (xJ l3), .int (xJ l4), .int (xJ l5), .double 0, .double 0, .double 0, .double 0] [] (xs (xs (xs (xs (xs d 146 (7 : Int) (0 : Int)) 151 (0 : Int) l3) 146 (7 : Int) ((0 : Int) + 1)) 151 ((0 : Int) + 1) l4) 146 (7 : Int) (((0 : Int) + 1) + 1)) e
    refine yb_iload (x := l2) rfl rfl ?_
    exact yb_ret rfl h
  · replace h := h.2 c
    refine yb_iload (x := l5) rfl rfl ?_
    refine yb_iload (x := l1) rfl rfl ?_
    have r3 := h.1
    replace h := h.2
    refine yb_icmp_ne (x := l5) (y := l1) rfl rfl r1 r3 (fun c => ?_) (fun c => ?_)
    · replace h := h.1 c
      refine yb_iload (x := l5) rfl rfl ?_
      refine yb_push (v := (-1)) rfl ?_
      refine yb_icmp_ne (x := l5) (y := (-1 : Int)) rfl rfl r1 (by decide) (fun c => ?_) (fun c => ?_)
      · replace h := h.1 c
        refine yb_aload rfl rfl ?_
        refine yb_get (v := .ref 148) rfl (by decide) (by decide) (rfl) rfl ?_
        refine yb_push (v := 9) rfl ?_
        refine yb_iload (x := l1) rfl rfl ?_
        refine yb_imul (x := (9 : Int)) (y := l1) rfl ?_
        refine yb_iload (x := l5) rfl rfl ?_
        refine yb_iadd (x := ((9 : Int) * l1)) (y := l5) rfl ?_
        have r4 := h.1
        replace h := h.2
        refine yb_iald (j := (((9 : Int) * l1) + l5)) rfl xd_A148 (by decide) r4 (v := (d 148 (((9 : Int) * l1) + l5))) rfl ?_
        refine yb_istore rfl rfl rfl ?_
        refine yb_iload (x := l5) rfl rfl ?_
        refine yb_push (v := (-1)) rfl ?_
        refine yb_icmp_eq (x := l5) (y := (-1 : Int)) rfl rfl r1 (by decide) (fun c => ?_) (fun c => ?_)
        · replace h := h.1 c
          refine yb_push (v := 0) rfl ?_
          refine yb_istore rfl rfl rfl ?_
          refine yb_push (v := 0) rfl ?_
          refine yb_istore rfl rfl rfl ?_
          refine yb_push (v := 0) rfl ?_
          refine yb_istore rfl rfl rfl ?_
          exact h
        · replace h := h.2 c
          refine yb_aload rfl rfl ?_
          refine yb_get (v := .ref 148) rfl (by decide) (by decide) (rfl) rfl ?_
          refine yb_push (v := 9) rfl ?_
          refine yb_iload (x := l1) rfl rfl ?_
          refine yb_imul (x := (9 : Int)) (y := l1) rfl ?_
          refine yb_iload (x := l5) rfl rfl ?_
          refine yb_iadd (x := ((9 : Int) * l1)) (y := l5) rfl ?_
          refine yb_push (v := 9) rfl ?_
          refine yb_iast (j := (((9 : Int) * l1) + l5)) (x := (9 : Int)) rfl xd_A148 (by decide) r4 ?_
          refine yb_push (v := 0) rfl ?_
          refine yb_istore rfl rfl rfl ?_
          refine yb_push (v := 0) rfl ?_
          refine yb_istore rfl rfl rfl ?_
          refine yb_push (v := 0) rfl ?_
          refine yb_istore rfl rfl rfl ?_
          exact h
      · replace h := h.2 c
        refine yb_push (v := 0) rfl ?_
        refine yb_goto rfl rfl ?_
        refine yb_istore rfl rfl rfl ?_
        refine yb_iload (x := l5) rfl rfl ?_
        refine yb_push (v := (-1)) rfl ?_
        refine yb_icmp_eq (x := l5) (y := (-1 : Int)) rfl rfl r1 (by decide) (fun c => ?_) (fun c => ?_)
        · replace h := h.1 c
          refine yb_push (v := 0) rfl ?_
          refine yb_istore rfl rfl rfl ?_
          refine yb_push (v := 0) rfl ?_
          refine yb_istore rfl rfl rfl ?_
          refine yb_push (v := 0) rfl ?_
          refine yb_istore rfl rfl rfl ?_
          exact h
        · replace h := h.2 c
          refine yb_aload rfl rfl ?_
          refine yb_get (v := .ref 148) rfl (by decide) (by decide) (rfl) rfl ?_
          refine yb_push (v := 9) rfl ?_
          refine yb_iload (x := l1) rfl rfl ?_
          refine yb_imul (x := (9 : Int)) (y := l1) rfl ?_
          refine yb_iload (x := l5) rfl rfl ?_
          refine yb_iadd (x := ((9 : Int) * l1)) (y := l5) rfl ?_
          refine yb_push (v := 9) rfl ?_
          have r5 := h.1
          replace h := h.2
          refine yb_iast (j := (((9 : Int) * l1) + l5)) (x := (9 : Int)) rfl xd_A148 (by decide) r5 ?_
          refine yb_push (v := 0) rfl ?_
          refine yb_istore rfl rfl rfl ?_
          refine yb_push (v := 0) rfl ?_
          refine yb_istore rfl rfl rfl ?_
          refine yb_push (v := 0) rfl ?_
          refine yb_istore rfl rfl rfl ?_
          exact h
    · replace h := h.2 c
      refine yb_goto rfl rfl ?_
      refine yb_iinc (x := l5) (n := 1) rfl rfl rfl rfl ?_
      refine yb_goto rfl rfl ?_
      exact h
theorem yk_264_57 {D L : Nat} {P : Int → xh_D → xd_E → Prop} {d : xh_D} {e : xd_E}  {l1 : Int} {l2 : Int} {l3 : Int} {l4 : Int} {l5 : Int} {l6 : Int} {l7 : Int} {l8 : Int} {l9 : Int}  (h : ((-2147483648 ≤ l9 ∧ l9 < 2147483648) ∧ ((((9 : Int) ≤ l9) → ((-2147483648 ≤ l5 ∧ l5 < 2147483648) ∧ (((l5 = (-1 : Int)) → yB D xm_c264 (yQi L P) L 94 [.ref 146, .int (xJ l1), .int (xJ l2), .int (xJ l3), .int (xJ l4), .int (xJ l5), .double 0, .int (xJ l7), .int (xJ l8), .double 0] [] d e) ∧ ((¬ l5 = (-1 : Int)) → ((0 ≤ (((9 : Int) * l1) + l5) ∧ (((9 : Int) * l1) + l5) < 81) ∧ yB D xm_c264 (yQi L P) L 94 [.ref 146, .int (xJ l1), .int (xJ l2), .int (xJ l3), .int (xJ l4), .int (xJ l5), .double 0, .int (xJ l7), .int (xJ l8), .double 0] [] (xs d 148 (((9 : Int) * l1) + l5) l6) e))))) ∧ ((¬ (9 : Int) ≤ l9) → yV D 219 L [.ref 146, .ref 147, .int (xJ ((d 147 (81 : Int)) + l9))] d e (fun d4 e5 => yB D xm_c264 (yQi L P) L 57 [.ref 146, .int (xJ l1), .int (xJ l2), .int (xJ l3), .int (xJ l4), .int (xJ l5), .int (xJ l6), .int (xJ (l7 + (d4 146 (26 : Int)))), .int (xJ (l8 + (d4 146 (27 : Int)))), .int (xJ (l9 + 1))] [] d4 e5))))) : yB D xm_c264 (yQi L P) L 57 [.ref 146, .int (xJ l1), .int (xJ l2), .int (xJ l3), .int (xJ l4), .int (xJ l5), .int (xJ l6), .int (xJ l7), .int (xJ l8), .int (xJ l9)] [] d e := by
  refine yb_iload (x := l9) rfl rfl ?_
  refine yb_push (v := 9) rfl ?_
  have r1 := h.1
  replace h := h.2
  refine yb_icmp_ge (x := l9) (y := (9 : Int)) rfl rfl r1 (by decide) (fun c => ?_) (fun c => ?_)
  · replace h := h.1 c
    refine yb_iload (x := l5) rfl rfl ?_
    refine yb_push (v := (-1)) rfl ?_
    have r2 := h.1
    replace h := h.2
    refine yb_icmp_eq (x := l5) (y := (-1 : Int)) rfl rfl r2 (by decide) (fun c => ?_) (fun c => ?_)
    · replace h := h.1 c
      refine yb_forget (dl := [.ref 146, .int (xJ l1), .int (xJ l2), .int (xJ l3), .int (xJ l4), .int (xJ l5), .double 0, .int (xJ l7), .int (xJ l8), .double 0]) ⟨Or.inl rfl, ⟨Or.inl rfl, ⟨Or.inl rfl, ⟨Or.inl rfl, ⟨Or.inl rfl, ⟨Or.inl rfl, ⟨Or.inr ⟨rfl, rfl⟩, ⟨Or.inl rfl, ⟨Or.inl rfl, ⟨Or.inr ⟨rfl, rfl⟩, trivial⟩⟩⟩⟩⟩⟩⟩⟩⟩⟩ ?_
      exact h
    · replace h := h.2 c
      refine yb_aload rfl rfl ?_
      refine yb_get (v := .ref 148) rfl (by decide) (by decide) (rfl) rfl ?_
      refine yb_push (v := 9) rfl ?_
      refine yb_iload (x := l1) rfl rfl ?_
      refine yb_imul (x := (9 : Int)) (y := l1) rfl ?_
      refine yb_iload (x := l5) rfl rfl ?_
      refine yb_iadd (x := ((9 : Int) * l1)) (y := l5) rfl ?_
      refine yb_iload (x := l6) rfl rfl ?_
      have r3 := h.1
      replace h := h.2
      refine yb_iast (j := (((9 : Int) * l1) + l5)) (x := l6) rfl xd_A148 (by decide) r3 ?_
      refine yb_forget (dl := [.ref 146, .int (xJ l1), .int (xJ l2), .int (xJ l3), .int (xJ l4), .int (xJ l5), .double 0, .int (xJ l7), .int (xJ l8), .double 0]) ⟨Or.inl rfl, ⟨Or.inl rfl, ⟨Or.inl rfl, ⟨Or.inl rfl, ⟨Or.inl rfl, ⟨Or.inl rfl, ⟨Or.inr ⟨rfl, rfl⟩, ⟨Or.inl rfl, ⟨Or.inl rfl, ⟨Or.inr ⟨rfl, rfl⟩, trivial⟩⟩⟩⟩⟩⟩⟩⟩⟩⟩ ?_
      exact h
  · replace h := h.2 c
    refine yb_aload rfl rfl ?_
    refine yb_aload rfl rfl ?_
    refine yb_get (v := .ref 147) rfl (by decide) (by decide) (rfl) rfl ?_
    refine yb_aload rfl rfl ?_
    refine yb_get (v := .ref 147) rfl (by decide) (by decide) (rfl) rfl ?_
    refine yb_push (v := 81) rfl ?_
    refine yb_iald (j := (81 : Int)) rfl xd_A147 (by decide) (by decide) (v := (d 147 (81 : Int))) rfl ?_
    refine yb_iload (x := l9) rfl rfl ?_
    refine yb_iadd (x := (d 147 (81 : Int))) (y := l9) rfl ?_
    refine yb_callVv (As := [.ref 147, .int (xJ ((d 147 (81 : Int)) + l9))]) (a := 146) rfl rfl rfl rfl rfl rfl rfl rfl (by decide) (by decide) (rfl) (by decide) (yV_mono h (fun d4 e5 h => ?_))
    refine yb_iload (x := l7) rfl rfl ?_
    refine yb_aload rfl rfl ?_
    refine yb_get (v := .int (xJ (d4 146 (26 : Int)))) rfl (by decide) (by decide) (rfl) rfl ?_
    refine yb_iadd (x := l7) (y := (d4 146 (26 : Int))) rfl ?_
    refine yb_istore rfl rfl rfl ?_
    refine yb_iload (x := l8) rfl rfl ?_
    refine yb_aload rfl rfl ?_
    refine yb_get (v := .int (xJ (d4 146 (27 : Int)))) rfl (by decide) (by decide) (rfl) rfl ?_
    refine yb_iadd (x := l8) (y := (d4 146 (27 : Int))) rfl ?_
    refine yb_istore rfl rfl rfl ?_
    refine yb_iinc (x := l9) (n := 1) rfl rfl rfl rfl ?_
    refine yb_goto rfl rfl ?_
    exact h
theorem yk_264_94 {D L : Nat} {P : Int → xh_D → xd_E → Prop} {d : xh_D} {e : xd_E}  {l1 : Int} {l2 : Int} {l3 : Int} {l4 : Int} {l5 : Int} {l7 : Int} {l8 : Int}  (h : ((-2147483648 ≤ l7 ∧ l7 < 2147483648) ∧ ((-2147483648 ≤ l3 ∧ l3 < 2147483648) ∧ (((l3 < l7) → yB D xm_c264 (yQi L P) L 17 [.ref 146, .int (xJ l1), .int (xJ l2), .int (xJ l3), .int (xJ l4), .int (xJ (l5 + 1)), .double 0, .double 0, .double 0, .double 0] [] d e) ∧ ((¬ l3 < l7) → (((¬ l7 = l3) → yB D xm_c264 (yQi L P) L 17 [.ref 146, .int (xJ l1), .int (xJ l5), .int (xJ l7), .int (xJ l8), .int (xJ (l5 + 1)), .double 0, .double 0, .double 0, .double 0] [] d e) ∧ ((l7 = l3) → ((-2147483648 ≤ l8 ∧ l8 < 2147483648) ∧ ((-2147483648 ≤ l4 ∧ l4 < 2147483648) ∧ (((l8 < l4) → yB D xm_c264 (yQi L P) L 17 [.ref 146, .int (xJ l1), .int (xJ l5), .int (xJ l7), .int (xJ l8), .int (xJ (l5 + 1)), .double 0, .double 0, .double 0, .double 0] [] d e) ∧ ((¬ l8 < l4) → yB D xm_c264 (yQi L P) L 17 [.ref 146, .int (xJ l1), .int (xJ l2), .int (xJ l3), .int (xJ l4), .int (xJ (l5 + 1)), .double 0, .double 0, .double 0, .double 0] [] d e))))))))))) : yB D xm_c264 (yQi L P) L 94 [.ref 146, .int (xJ l1), .int (xJ l2), .int (xJ l3), .int (xJ l4), .int (xJ l5), .double 0, .int (xJ l7), .int (xJ l8), .double 0] [] d e := by
  refine yb_iload (x := l7) rfl rfl ?_
  refine yb_iload (x := l3) rfl rfl ?_
  have r1 := h.1
  replace h := h.2
  have r2 := h.1
  replace h := h.2
  refine yb_icmp_gt (x := l7) (y := l3) rfl rfl r1 r2 (fun c => ?_) (fun c => ?_)
  · replace h := h.1 c
    refine yb_iinc (x := l5) (n := 1) rfl rfl rfl rfl ?_
    refine yb_goto rfl rfl ?_
    refine yb_forget (dl := [.ref 146, .int (xJ l1), .int (xJ l2), .int (xJ l3), .int (xJ l4), .int (xJ (l5 + 1)), .double 0, .double 0, .double 0, .double 0]) ⟨Or.inl rfl, ⟨Or.inl rfl, ⟨Or.inl rfl, ⟨Or.inl rfl, ⟨Or.inl rfl, ⟨Or.inl rfl, ⟨Or.inl rfl, ⟨Or.inr ⟨rfl, rfl⟩, ⟨Or.inr ⟨rfl, rfl⟩, ⟨Or.inl rfl, trivial⟩⟩⟩⟩⟩⟩⟩⟩⟩⟩ ?_
    exact h
  · replace h := h.2 c
    refine yb_iload (x := l7) rfl rfl ?_
    refine yb_iload (x := l3) rfl rfl ?_
    refine yb_icmp_ne (x := l7) (y := l3) rfl rfl r1 r2 (fun c => ?_) (fun c => ?_)
    · replace h := h.1 c
      refine yb_iload (x := l5) rfl rfl ?_
      refine yb_istore rfl rfl rfl ?_
      refine yb_iload (x := l7) rfl rfl ?_
      refine yb_istore rfl rfl rfl ?_
      refine yb_iload (x := l8) rfl rfl ?_
      refine yb_istore rfl rfl rfl ?_
      refine yb_iinc (x := l5) (n := 1) rfl rfl rfl rfl ?_
      refine yb_goto rfl rfl ?_
      refine yb_forget (dl := [.ref 146, .int (xJ l1), .int (xJ l5), .int (xJ l7), .int (xJ l8), .int (xJ (l5 + 1)), .double 0, .double 0, .double 0, .double 0]) ⟨Or.inl rfl, ⟨Or.inl rfl, ⟨Or.inl rfl, ⟨Or.inl rfl, ⟨Or.inl rfl, ⟨Or.inl rfl, ⟨Or.inl rfl, ⟨Or.inr ⟨rfl, rfl⟩, ⟨Or.inr ⟨rfl, rfl⟩, ⟨Or.inl rfl, trivial⟩⟩⟩⟩⟩⟩⟩⟩⟩⟩ ?_
      exact h
    · replace h := h.2 c
      refine yb_iload (x := l8) rfl rfl ?_
      refine yb_iload (x := l4) rfl rfl ?_
      have r3 := h.1
      replace h := h.2
      have r4 := h.1
      replace h := h.2
      refine yb_icmp_lt (x := l8) (y := l4) rfl rfl r3 r4 (fun c => ?_) (fun c => ?_)
      · replace h := h.1 c
        refine yb_iload (x := l5) rfl rfl ?_
        refine yb_istore rfl rfl rfl ?_
        refine yb_iload (x := l7) rfl rfl ?_
        refine yb_istore rfl rfl rfl ?_
        refine yb_iload (x := l8) rfl rfl ?_
        refine yb_istore rfl rfl rfl ?_
        refine yb_iinc (x := l5) (n := 1) rfl rfl rfl rfl ?_
        refine yb_goto rfl rfl ?_
        refine yb_forget (dl := [.ref 146, .int (xJ l1), .int (xJ l5), .int (xJ l7), .int (xJ l8), .int (xJ (l5 + 1)), .double 0, .double 0, .double 0, .double 0]) ⟨Or.inl rfl, ⟨Or.inl rfl, ⟨Or.inl rfl, ⟨Or.inl rfl, ⟨Or.inl rfl, ⟨Or.inl rfl, ⟨Or.inl rfl, ⟨Or.inr ⟨rfl, rfl⟩, ⟨Or.inr ⟨rfl, rfl⟩, ⟨Or.inl rfl, trivial⟩⟩⟩⟩⟩⟩⟩⟩⟩⟩ ?_
        exact h
      · replace h := h.2 c
        refine yb_goto rfl rfl ?_
        refine yb_iinc (x := l5) (n := 1) rfl rfl rfl rfl ?_
        refine yb_goto rfl rfl ?_
        refine yb_forget (dl := [.ref 146, .int (xJ l1), .int (xJ l2), .int (xJ l3), .int (xJ l4), .int (xJ (l5 + 1)), .double 0, .double 0, .double 0, .double 0]) ⟨Or.inl rfl, ⟨Or.inl rfl, ⟨Or.inl rfl, ⟨Or.inl rfl, ⟨Or.inl rfl, ⟨Or.inl rfl, ⟨Or.inl rfl, ⟨Or.inr ⟨rfl, rfl⟩, ⟨Or.inr ⟨rfl, rfl⟩, ⟨Or.inl rfl, trivial⟩⟩⟩⟩⟩⟩⟩⟩⟩⟩ ?_
        exact h
theorem yk_265_0 {D L : Nat} {P1 P0 : xh_D → xd_E → Prop} {d : xh_D} {e : xd_E} {a1 : Int} {a2 : Int}   (hD : 3 ≤ D) (h : ((-2147483648 ≤ a1 ∧ a1 < 2147483648) ∧ ((-2147483648 ≤ a2 ∧ a2 < 2147483648) ∧ ((0 ≤ (d 146 (1 : Int)) ∧ (d 146 (1 : Int)) ≤ 9) ∧ ((((0 ≤ a1 ∧ a1 < (d 146 (1 : Int))) ∧ (0 ≤ a2 ∧ a2 < (d 146 (1 : Int))) ∧ ¬ a1 = a2) → yV D 226 L [.ref 146, .ref 147] (xs d 146 (8 : Int) (0 : Int)) e (fun d4 e5 => ((0 ≤ a1 ∧ a1 < 9) ∧ ((0 ≤ a2 ∧ a2 < 9) ∧ P1 (xs (xs d4 147 a1 (d4 147 a2)) 147 a2 (d4 147 a1)) e5)))) ∧ (¬ ((0 ≤ a1 ∧ a1 < (d 146 (1 : Int))) ∧ (0 ≤ a2 ∧ a2 < (d 146 (1 : Int))) ∧ ¬ a1 = a2) → P0 (xs d 146 (8 : Int) (0 : Int)) e)))))) : yB D xm_c265 (yQz L P1 P0) L 0 [.ref 146, .int (xJ a1), .int (xJ a2)] [] d e := by
  refine yb_aload rfl rfl ?_
  refine yb_push (v := 0) rfl ?_
  refine yb_put (z := (0 : Int)) (k := 8) rfl rfl (by decide) (by decide) (rfl) (Nat.le_of_ble_eq_true rfl) rfl (rfl) ?_
  refine yb_aload rfl rfl ?_
  refine yb_iload (x := a1) rfl rfl ?_
  refine yb_iload (x := a2) rfl rfl ?_
  have r1 := h.1
  replace h := h.2
  have r2 := h.1
  replace h := h.2
  have r3 := h.1
  replace h := h.2
  refine yb_callVz (As := [.int (xJ a1), .int (xJ a2)]) (a := 146) rfl rfl rfl rfl rfl rfl rfl rfl (by decide) (by decide) (rfl) (by decide) (sp_185 (by omega) ⟨r1, r2, r3⟩ (fun c => ?_) (fun c => ?_))
  · replace h := h.1 c
    show yB D xm_c265 _ L 7 [.ref 146, .int (xJ a1), .int (xJ a2)] [.int (xJ (1 : Int))] (xs d 146 (8 : Int) (0 : Int)) e
    refine yb_if_ne (x := (1 : Int)) rfl rfl (by decide) (fun _ => ?_) (fun c => absurd c (by decide))
    refine yb_aload rfl rfl ?_
    refine yb_aload rfl rfl ?_
    refine yb_get (v := .ref 147) rfl (by decide) (by decide) (rfl) rfl ?_
    refine yb_callVv (As := [.ref 147]) (a := 146) rfl rfl rfl rfl rfl rfl rfl rfl (by decide) (by decide) (rfl) (by decide) (yV_mono h (fun d4 e5 h => ?_))
    refine yb_aload rfl rfl ?_
    refine yb_get (v := .ref 147) rfl (by decide) (by decide) (rfl) rfl ?_
    refine yb_iload (x := a1) rfl rfl ?_
    refine yb_iload (x := a2) rfl rfl ?_
    have r6 := h.1
    replace h := h.2
    have r7 := h.1
    replace h := h.2
    refine yb_callSv (As := [.ref 147, .int (xJ a1), .int (xJ a2)]) rfl rfl rfl rfl rfl rfl rfl rfl (by decide) (sp_232_147 (by omega) ⟨r6, r7⟩ ?_)
    show yB D xm_c265 _ L 19 [.ref 146, .int (xJ a1), .int (xJ a2)] [] (xs (xs d4 147 a1 (d4 147 a2)) 147 a2 (d4 147 a1)) e5
    refine yb_push (v := 1) rfl ?_
    exact yb_ret1 rfl h
  · replace h := h.2 c
    show yB D xm_c265 _ L 7 [.ref 146, .int (xJ a1), .int (xJ a2)] [.int (xJ (0 : Int))] (xs d 146 (8 : Int) (0 : Int)) e
    refine yb_if_ne (x := (0 : Int)) rfl rfl (by decide) (fun c => absurd (by decide) c) (fun _ => ?_)
    refine yb_push (v := 0) rfl ?_
    exact yb_ret0 rfl h
theorem yk_267_147_0 {D L : Nat} {P1 P0 : xh_D → xd_E → Prop} {d : xh_D} {e : xd_E} {a2 : Int} {a3 : Int}   (hD : 1 ≤ D) (h : ((-2147483648 ≤ a2 ∧ a2 < 2147483648) ∧ ((-2147483648 ≤ a3 ∧ a3 < 2147483648) ∧ (((¬ a2 = a3) → yB D xm_c267 (yQz L P1 P0) L 24 [.ref 146, .ref 147, .int (xJ a2), .int (xJ a3), .int (xJ ((d 171 (0 : Int)) + (1 : Int))), .double 0, .double 0] [] d e) ∧ ((a2 = a3) → ((0 ≤ (a2 - (1 : Int)) ∧ (a2 - (1 : Int)) < 4) ∧ ((0 ≤ (d 171 (a2 - (1 : Int))) ∧ (d 171 (a2 - (1 : Int))) < 9) ∧ ((0 ≤ (d 171 (0 : Int)) ∧ (d 171 (0 : Int)) < 9) ∧ ((0 ≤ (d 147 (d 171 (a2 - (1 : Int)))) ∧ (d 147 (d 171 (a2 - (1 : Int)))) < 9) ∧ ((0 ≤ (d 147 (d 171 (0 : Int))) ∧ (d 147 (d 171 (0 : Int))) < 9) ∧ ((-2147483648 ≤ (d 149 (9 * (d 171 (a2 - (1 : Int))) + (d 147 (d 171 (a2 - (1 : Int)))))) ∧ (d 149 (9 * (d 171 (a2 - (1 : Int))) + (d 147 (d 171 (a2 - (1 : Int)))))) < 2147483648) ∧ ((-2147483648 ≤ (d 149 (9 * (d 171 (a2 - (1 : Int))) + (d 147 (d 171 (0 : Int))))) ∧ (d 149 (9 * (d 171 (a2 - (1 : Int))) + (d 147 (d 171 (0 : Int))))) < 2147483648) ∧ ((((d 149 (9 * (d 171 (a2 - (1 : Int))) + (d 147 (d 171 (a2 - (1 : Int)))))) < (d 149 (9 * (d 171 (a2 - (1 : Int))) + (d 147 (d 171 (0 : Int)))))) → P1 d e) ∧ (¬ ((d 149 (9 * (d 171 (a2 - (1 : Int))) + (d 147 (d 171 (a2 - (1 : Int)))))) < (d 149 (9 * (d 171 (a2 - (1 : Int))) + (d 147 (d 171 (0 : Int)))))) → P0 d e)))))))))))))) : yB D xm_c267 (yQz L P1 P0) L 0 [.ref 146, .ref 147, .int (xJ a2), .int (xJ a3), .double 0, .double 0, .double 0] [] d e := by
  refine yb_iload (x := a2) rfl rfl ?_
  refine yb_iload (x := a3) rfl rfl ?_
  have r1 := h.1
  replace h := h.2
  have r2 := h.1
  replace h := h.2
  refine yb_icmp_ne (x := a2) (y := a3) rfl rfl r1 r2 (fun c => ?_) (fun c => ?_)
  · replace h := h.1 c
    refine yb_aload rfl rfl ?_
    refine yb_get (v := .ref 171) rfl (by decide) (by decide) (rfl) rfl ?_
    refine yb_push (v := 0) rfl ?_
    refine yb_iald (j := (0 : Int)) rfl xd_A171 (by decide) (by decide) (v := (d 171 (0 : Int))) rfl ?_
    refine yb_push (v := 1) rfl ?_
    refine yb_iadd (x := (d 171 (0 : Int))) (y := (1 : Int)) rfl ?_
    refine yb_istore rfl rfl rfl ?_
    exact h
  · replace h := h.2 c
    refine yb_aload rfl rfl ?_
    refine yb_aload rfl rfl ?_
    refine yb_aload rfl rfl ?_
    refine yb_get (v := .ref 171) rfl (by decide) (by decide) (rfl) rfl ?_
    refine yb_iload (x := a2) rfl rfl ?_
    refine yb_push (v := 1) rfl ?_
    refine yb_isub (x := a2) (y := (1 : Int)) rfl ?_
    have r3 := h.1
    replace h := h.2
    refine yb_iald (j := (a2 - (1 : Int))) rfl xd_A171 (by decide) r3 (v := (d 171 (a2 - (1 : Int)))) rfl ?_
    refine yb_aload rfl rfl ?_
    refine yb_get (v := .ref 171) rfl (by decide) (by decide) (rfl) rfl ?_
    refine yb_push (v := 0) rfl ?_
    refine yb_iald (j := (0 : Int)) rfl xd_A171 (by decide) (by decide) (v := (d 171 (0 : Int))) rfl ?_
    have r4 := h.1
    replace h := h.2
    have r5 := h.1
    replace h := h.2
    have r6 := h.1
    replace h := h.2
    have r7 := h.1
    replace h := h.2
    have r8 := h.1
    replace h := h.2
    have r9 := h.1
    replace h := h.2
    refine yb_callVz (As := [.ref 147, .int (xJ (d 171 (a2 - (1 : Int)))), .int (xJ (d 171 (0 : Int)))]) (a := 146) rfl rfl rfl rfl rfl rfl rfl rfl (by decide) (by decide) (rfl) (by decide) (sp_266_147 (by omega) ⟨r4, r5, r6, r7, r8, r9⟩ (fun c => ?_) (fun c => ?_))
    · replace h := h.1 c
      show yB D xm_c267 _ L 16 [.ref 146, .ref 147, .int (xJ a2), .int (xJ a3), .double 0, .double 0, .double 0] [.int (xJ (1 : Int))] d e
      exact yb_ret1 rfl h
    · replace h := h.2 c
      show yB D xm_c267 _ L 16 [.ref 146, .ref 147, .int (xJ a2), .int (xJ a3), .double 0, .double 0, .double 0] [.int (xJ (0 : Int))] d e
      exact yb_ret0 rfl h
theorem yk_267_147_24 {D L : Nat} {P1 P0 : xh_D → xd_E → Prop} {d : xh_D} {e : xd_E}  {l2 : Int} {l3 : Int} {l4 : Int}  (h : ((-2147483648 ≤ l4 ∧ l4 < 2147483648) ∧ ((-2147483648 ≤ (d 146 (1 : Int)) ∧ (d 146 (1 : Int)) < 2147483648) ∧ ((((d 146 (1 : Int)) ≤ l4) → P0 d e) ∧ ((¬ (d 146 (1 : Int)) ≤ l4) → yB D xm_c267 (yQz L P1 P0) L 32 [.ref 146, .ref 147, .int (xJ l2), .int (xJ l3), .int (xJ l4), .int (xJ (0 : Int)), .int (xJ (0 : Int))] [] d e))))) : yB D xm_c267 (yQz L P1 P0) L 24 [.ref 146, .ref 147, .int (xJ l2), .int (xJ l3), .int (xJ l4), .double 0, .double 0] [] d e := by
  refine yb_iload (x := l4) rfl rfl ?_
  refine yb_aload rfl rfl ?_
  refine yb_get (v := .int (xJ (d 146 (1 : Int)))) rfl (by decide) (by decide) (rfl) rfl ?_
  have r1 := h.1
  replace h := h.2
  have r2 := h.1
  replace h := h.2
  refine yb_icmp_ge (x := l4) (y := (d 146 (1 : Int))) rfl rfl r1 r2 (fun c => ?_) (fun c => ?_)
  · replace h := h.1 c
    refine yb_push (v := 0) rfl ?_
    exact yb_ret0 rfl h
  · replace h := h.2 c
    refine yb_push (v := 0) rfl ?_
    refine yb_istore rfl rfl rfl ?_
    refine yb_push (v := 0) rfl ?_
    refine yb_istore rfl rfl rfl ?_
    exact h
theorem yk_267_147_32 {D L : Nat} {P1 P0 : xh_D → xd_E → Prop} {d : xh_D} {e : xd_E}  {l2 : Int} {l3 : Int} {l4 : Int} {l5 : Int} {l6 : Int}  (hD : 1 ≤ D) (h : ((-2147483648 ≤ l6 ∧ l6 < 2147483648) ∧ ((-2147483648 ≤ l2 ∧ l2 < 2147483648) ∧ (((l2 ≤ l6) → ((-2147483648 ≤ l5 ∧ l5 < 2147483648) ∧ (((¬ l5 = 0) → yB D xm_c267 (yQz L P1 P0) L 24 [.ref 146, .ref 147, .int (xJ l2), .int (xJ l3), .int (xJ (l4 + 1)), .double 0, .double 0] [] d e) ∧ ((l5 = 0) → ((0 ≤ (l2 - (1 : Int)) ∧ (l2 - (1 : Int)) < 4) ∧ ((0 ≤ (d 171 (l2 - (1 : Int))) ∧ (d 171 (l2 - (1 : Int))) < 9) ∧ ((0 ≤ l4 ∧ l4 < 9) ∧ ((0 ≤ (d 147 (d 171 (l2 - (1 : Int)))) ∧ (d 147 (d 171 (l2 - (1 : Int)))) < 9) ∧ ((0 ≤ (d 147 l4) ∧ (d 147 l4) < 9) ∧ ((-2147483648 ≤ (d 149 (9 * (d 171 (l2 - (1 : Int))) + (d 147 (d 171 (l2 - (1 : Int)))))) ∧ (d 149 (9 * (d 171 (l2 - (1 : Int))) + (d 147 (d 171 (l2 - (1 : Int)))))) < 2147483648) ∧ ((-2147483648 ≤ (d 149 (9 * (d 171 (l2 - (1 : Int))) + (d 147 l4))) ∧ (d 149 (9 * (d 171 (l2 - (1 : Int))) + (d 147 l4))) < 2147483648) ∧ ((((d 149 (9 * (d 171 (l2 - (1 : Int))) + (d 147 (d 171 (l2 - (1 : Int)))))) < (d 149 (9 * (d 171 (l2 - (1 : Int))) + (d 147 l4)))) → ((0 ≤ l2 ∧ l2 < 4) ∧ yZ D 267 L [.ref 146, .ref 147, .int (xJ (l2 + (1 : Int))), .int (xJ l3)] (xs d 171 l2 l4) e (fun d12 e13 => P1 d12 e13) (fun d12 e13 => yB D xm_c267 (yQz L P1 P0) L 24 [.ref 146, .ref 147, .int (xJ l2), .int (xJ l3), .int (xJ (l4 + 1)), .double 0, .double 0] [] d12 e13))) ∧ (¬ ((d 149 (9 * (d 171 (l2 - (1 : Int))) + (d 147 (d 171 (l2 - (1 : Int)))))) < (d 149 (9 * (d 171 (l2 - (1 : Int))) + (d 147 l4)))) → yB D xm_c267 (yQz L P1 P0) L 24 [.ref 146, .ref 147, .int (xJ l2), .int (xJ l3), .int (xJ (l4 + 1)), .double 0, .double 0] [] d e))))))))))))) ∧ ((¬ l2 ≤ l6) → ((-2147483648 ≤ l5 ∧ l5 < 2147483648) ∧ (((¬ l5 = 0) → yB D xm_c267 (yQz L P1 P0) L 32 [.ref 146, .ref 147, .int (xJ l2), .int (xJ l3), .int (xJ l4), .int (xJ (1 : Int)), .int (xJ (l6 + 1))] [] d e) ∧ ((l5 = 0) → ((0 ≤ l6 ∧ l6 < 4) ∧ ((-2147483648 ≤ (d 171 l6) ∧ (d 171 l6) < 2147483648) ∧ ((-2147483648 ≤ l4 ∧ l4 < 2147483648) ∧ (((¬ (d 171 l6) = l4) → yB D xm_c267 (yQz L P1 P0) L 32 [.ref 146, .ref 147, .int (xJ l2), .int (xJ l3), .int (xJ l4), .int (xJ (0 : Int)), .int (xJ (l6 + 1))] [] d e) ∧ (((d 171 l6) = l4) → yB D xm_c267 (yQz L P1 P0) L 32 [.ref 146, .ref 147, .int (xJ l2), .int (xJ l3), .int (xJ l4), .int (xJ (1 : Int)), .int (xJ (l6 + 1))] [] d e))))))))))))) : yB D xm_c267 (yQz L P1 P0) L 32 [.ref 146, .ref 147, .int (xJ l2), .int (xJ l3), .int (xJ l4), .int (xJ l5), .int (xJ l6)] [] d e := by
  refine yb_iload (x := l6) rfl rfl ?_
  refine yb_iload (x := l2) rfl rfl ?_
  have r1 := h.1
  replace h := h.2
  have r2 := h.1
  replace h := h.2
  refine yb_icmp_ge (x := l6) (y := l2) rfl rfl r1 r2 (fun c => ?_) (fun c => ?_)
  · replace h := h.1 c
    refine yb_iload (x := l5) rfl rfl ?_
    have r3 := h.1
    replace h := h.2
    refine yb_if_ne (x := l5) rfl rfl r3 (fun c => ?_) (fun c => ?_)
    · replace h := h.1 c
      refine yb_iinc (x := l4) (n := 1) rfl rfl rfl rfl ?_
      refine yb_goto rfl rfl ?_
      refine yb_forget (dl := [.ref 146, .ref 147, .int (xJ l2), .int (xJ l3), .int (xJ (l4 + 1)), .double 0, .double 0]) ⟨Or.inl rfl, ⟨Or.inl rfl, ⟨Or.inl rfl, ⟨Or.inl rfl, ⟨Or.inl rfl, ⟨Or.inr ⟨rfl, rfl⟩, ⟨Or.inr ⟨rfl, rfl⟩, trivial⟩⟩⟩⟩⟩⟩⟩ ?_
      exact h
    · replace h := h.2 c
      refine yb_aload rfl rfl ?_
      refine yb_aload rfl rfl ?_
      refine yb_aload rfl rfl ?_
      refine yb_get (v := .ref 171) rfl (by decide) (by decide) (rfl) rfl ?_
      refine yb_iload (x := l2) rfl rfl ?_
      refine yb_push (v := 1) rfl ?_
      refine yb_isub (x := l2) (y := (1 : Int)) rfl ?_
      have r4 := h.1
      replace h := h.2
      refine yb_iald (j := (l2 - (1 : Int))) rfl xd_A171 (by decide) r4 (v := (d 171 (l2 - (1 : Int)))) rfl ?_
      refine yb_iload (x := l4) rfl rfl ?_
      have r5 := h.1
      replace h := h.2
      have r6 := h.1
      replace h := h.2
      have r7 := h.1
      replace h := h.2
      have r8 := h.1
      replace h := h.2
      have r9 := h.1
      replace h := h.2
      have r10 := h.1
      replace h := h.2
      refine yb_callVz (As := [.ref 147, .int (xJ (d 171 (l2 - (1 : Int)))), .int (xJ l4)]) (a := 146) rfl rfl rfl rfl rfl rfl rfl rfl (by decide) (by decide) (rfl) (by decide) (sp_266_147 (by omega) ⟨r5, r6, r7, r8, r9, r10⟩ (fun c => ?_) (fun c => ?_))
      · replace h := h.1 c
        show yB D xm_c267 _ L 61 [.ref 146, .ref 147, .int (xJ l2), .int (xJ l3), .int (xJ l4), .int (xJ l5), .int (xJ l6)] [.int (xJ (1 : Int))] d e
        refine yb_if_ne (x := (1 : Int)) rfl rfl (by decide) (fun _ => ?_) (fun c => absurd c (by decide))
        refine yb_aload rfl rfl ?_
        refine yb_get (v := .ref 171) rfl (by decide) (by decide) (rfl) rfl ?_
        refine yb_iload (x := l2) rfl rfl ?_
        refine yb_iload (x := l4) rfl rfl ?_
        have r11 := h.1
        replace h := h.2
        refine yb_iast (j := l2) (x := l4) rfl xd_A171 (by decide) r11 ?_
        refine yb_aload rfl rfl ?_
        refine yb_aload rfl rfl ?_
        refine yb_iload (x := l2) rfl rfl ?_
        refine yb_push (v := 1) rfl ?_
        refine yb_iadd (x := l2) (y := (1 : Int)) rfl ?_
        refine yb_iload (x := l3) rfl rfl ?_
        refine yb_callVz (As := [.ref 147, .int (xJ (l2 + (1 : Int))), .int (xJ l3)]) (a := 146) rfl rfl rfl rfl rfl rfl rfl rfl (by decide) (by decide) (rfl) (by decide) (yZ_mono h (fun d12 e13 h => ?_) (fun d12 e13 h => ?_))
        · refine yb_if_eq (x := (1 : Int)) rfl rfl (by decide) (fun c => absurd c (by decide)) (fun _ => ?_)
          refine yb_push (v := 1) rfl ?_
          exact yb_ret1 rfl h
        · refine yb_if_eq (x := (0 : Int)) rfl rfl (by decide) (fun _ => ?_) (fun c => absurd (by decide) c)
          refine yb_iinc (x := l4) (n := 1) rfl rfl rfl rfl ?_
          refine yb_goto rfl rfl ?_
          refine yb_forget (dl := [.ref 146, .ref 147, .int (xJ l2), .int (xJ l3), .int (xJ (l4 + 1)), .double 0, .double 0]) ⟨Or.inl rfl, ⟨Or.inl rfl, ⟨Or.inl rfl, ⟨Or.inl rfl, ⟨Or.inl rfl, ⟨Or.inr ⟨rfl, rfl⟩, ⟨Or.inr ⟨rfl, rfl⟩, trivial⟩⟩⟩⟩⟩⟩⟩ ?_
          exact h
      · replace h := h.2 c
        show yB D xm_c267 _ L 61 [.ref 146, .ref 147, .int (xJ l2), .int (xJ l3), .int (xJ l4), .int (xJ l5), .int (xJ l6)] [.int (xJ (0 : Int))] d e
        refine yb_if_ne (x := (0 : Int)) rfl rfl (by decide) (fun c => absurd (by decide) c) (fun _ => ?_)
        refine yb_goto rfl rfl ?_
        refine yb_iinc (x := l4) (n := 1) rfl rfl rfl rfl ?_
        refine yb_goto rfl rfl ?_
        refine yb_forget (dl := [.ref 146, .ref 147, .int (xJ l2), .int (xJ l3), .int (xJ (l4 + 1)), .double 0, .double 0]) ⟨Or.inl rfl, ⟨Or.inl rfl, ⟨Or.inl rfl, ⟨Or.inl rfl, ⟨Or.inl rfl, ⟨Or.inr ⟨rfl, rfl⟩, ⟨Or.inr ⟨rfl, rfl⟩, trivial⟩⟩⟩⟩⟩⟩⟩ ?_
        exact h
  · replace h := h.2 c
    refine yb_iload (x := l5) rfl rfl ?_
    have r14 := h.1
    replace h := h.2
    refine yb_if_ne (x := l5) rfl rfl r14 (fun c => ?_) (fun c => ?_)
    · replace h := h.1 c
      refine yb_push (v := 1) rfl ?_
      refine yb_goto rfl rfl ?_
      refine yb_istore rfl rfl rfl ?_
      refine yb_iinc (x := l6) (n := 1) rfl rfl rfl rfl ?_
      refine yb_goto rfl rfl ?_
      exact h
    · replace h := h.2 c
      refine yb_aload rfl rfl ?_
      refine yb_get (v := .ref 171) rfl (by decide) (by decide) (rfl) rfl ?_
      refine yb_iload (x := l6) rfl rfl ?_
      have r15 := h.1
      replace h := h.2
      refine yb_iald (j := l6) rfl xd_A171 (by decide) r15 (v := (d 171 l6)) rfl ?_
      refine yb_iload (x := l4) rfl rfl ?_
      have r16 := h.1
      replace h := h.2
      have r17 := h.1
      replace h := h.2
      refine yb_icmp_ne (x := (d 171 l6)) (y := l4) rfl rfl r16 r17 (fun c => ?_) (fun c => ?_)
      · replace h := h.1 c
        refine yb_push (v := 0) rfl ?_
        refine yb_istore rfl rfl rfl ?_
        refine yb_iinc (x := l6) (n := 1) rfl rfl rfl rfl ?_
        refine yb_goto rfl rfl ?_
        exact h
      · replace h := h.2 c
        refine yb_push (v := 1) rfl ?_
        refine yb_goto rfl rfl ?_
        refine yb_istore rfl rfl rfl ?_
        refine yb_iinc (x := l6) (n := 1) rfl rfl rfl rfl ?_
        refine yb_goto rfl rfl ?_
        exact h
theorem yk_267_162_0 {D L : Nat} {P1 P0 : xh_D → xd_E → Prop} {d : xh_D} {e : xd_E} {a2 : Int} {a3 : Int}   (hD : 1 ≤ D) (h : ((-2147483648 ≤ a2 ∧ a2 < 2147483648) ∧ ((-2147483648 ≤ a3 ∧ a3 < 2147483648) ∧ (((¬ a2 = a3) → yB D xm_c267 (yQz L P1 P0) L 24 [.ref 146, .ref 162, .int (xJ a2), .int (xJ a3), .int (xJ ((d 171 (0 : Int)) + (1 : Int))), .double 0, .double 0] [] d e) ∧ ((a2 = a3) → ((0 ≤ (a2 - (1 : Int)) ∧ (a2 - (1 : Int)) < 4) ∧ ((0 ≤ (d 171 (a2 - (1 : Int))) ∧ (d 171 (a2 - (1 : Int))) < 9) ∧ ((0 ≤ (d 171 (0 : Int)) ∧ (d 171 (0 : Int)) < 9) ∧ ((0 ≤ (d 162 (d 171 (a2 - (1 : Int)))) ∧ (d 162 (d 171 (a2 - (1 : Int)))) < 9) ∧ ((0 ≤ (d 162 (d 171 (0 : Int))) ∧ (d 162 (d 171 (0 : Int))) < 9) ∧ ((-2147483648 ≤ (d 149 (9 * (d 171 (a2 - (1 : Int))) + (d 162 (d 171 (a2 - (1 : Int)))))) ∧ (d 149 (9 * (d 171 (a2 - (1 : Int))) + (d 162 (d 171 (a2 - (1 : Int)))))) < 2147483648) ∧ ((-2147483648 ≤ (d 149 (9 * (d 171 (a2 - (1 : Int))) + (d 162 (d 171 (0 : Int))))) ∧ (d 149 (9 * (d 171 (a2 - (1 : Int))) + (d 162 (d 171 (0 : Int))))) < 2147483648) ∧ ((((d 149 (9 * (d 171 (a2 - (1 : Int))) + (d 162 (d 171 (a2 - (1 : Int)))))) < (d 149 (9 * (d 171 (a2 - (1 : Int))) + (d 162 (d 171 (0 : Int)))))) → P1 d e) ∧ (¬ ((d 149 (9 * (d 171 (a2 - (1 : Int))) + (d 162 (d 171 (a2 - (1 : Int)))))) < (d 149 (9 * (d 171 (a2 - (1 : Int))) + (d 162 (d 171 (0 : Int)))))) → P0 d e)))))))))))))) : yB D xm_c267 (yQz L P1 P0) L 0 [.ref 146, .ref 162, .int (xJ a2), .int (xJ a3), .double 0, .double 0, .double 0] [] d e := by
  refine yb_iload (x := a2) rfl rfl ?_
  refine yb_iload (x := a3) rfl rfl ?_
  have r1 := h.1
  replace h := h.2
  have r2 := h.1
  replace h := h.2
  refine yb_icmp_ne (x := a2) (y := a3) rfl rfl r1 r2 (fun c => ?_) (fun c => ?_)
  · replace h := h.1 c
    refine yb_aload rfl rfl ?_
    refine yb_get (v := .ref 171) rfl (by decide) (by decide) (rfl) rfl ?_
    refine yb_push (v := 0) rfl ?_
    refine yb_iald (j := (0 : Int)) rfl xd_A171 (by decide) (by decide) (v := (d 171 (0 : Int))) rfl ?_
    refine yb_push (v := 1) rfl ?_
    refine yb_iadd (x := (d 171 (0 : Int))) (y := (1 : Int)) rfl ?_
    refine yb_istore rfl rfl rfl ?_
    exact h
  · replace h := h.2 c
    refine yb_aload rfl rfl ?_
    refine yb_aload rfl rfl ?_
    refine yb_aload rfl rfl ?_
    refine yb_get (v := .ref 171) rfl (by decide) (by decide) (rfl) rfl ?_
    refine yb_iload (x := a2) rfl rfl ?_
    refine yb_push (v := 1) rfl ?_
    refine yb_isub (x := a2) (y := (1 : Int)) rfl ?_
    have r3 := h.1
    replace h := h.2
    refine yb_iald (j := (a2 - (1 : Int))) rfl xd_A171 (by decide) r3 (v := (d 171 (a2 - (1 : Int)))) rfl ?_
    refine yb_aload rfl rfl ?_
    refine yb_get (v := .ref 171) rfl (by decide) (by decide) (rfl) rfl ?_
    refine yb_push (v := 0) rfl ?_
    refine yb_iald (j := (0 : Int)) rfl xd_A171 (by decide) (by decide) (v := (d 171 (0 : Int))) rfl ?_
    have r4 := h.1
    replace h := h.2
    have r5 := h.1
    replace h := h.2
    have r6 := h.1
    replace h := h.2
    have r7 := h.1
    replace h := h.2
    have r8 := h.1
    replace h := h.2
    have r9 := h.1
    replace h := h.2
    refine yb_callVz (As := [.ref 162, .int (xJ (d 171 (a2 - (1 : Int)))), .int (xJ (d 171 (0 : Int)))]) (a := 146) rfl rfl rfl rfl rfl rfl rfl rfl (by decide) (by decide) (rfl) (by decide) (sp_266_162 (by omega) ⟨r4, r5, r6, r7, r8, r9⟩ (fun c => ?_) (fun c => ?_))
    · replace h := h.1 c
      show yB D xm_c267 _ L 16 [.ref 146, .ref 162, .int (xJ a2), .int (xJ a3), .double 0, .double 0, .double 0] [.int (xJ (1 : Int))] d e
      exact yb_ret1 rfl h
    · replace h := h.2 c
      show yB D xm_c267 _ L 16 [.ref 146, .ref 162, .int (xJ a2), .int (xJ a3), .double 0, .double 0, .double 0] [.int (xJ (0 : Int))] d e
      exact yb_ret0 rfl h
theorem yk_267_162_24 {D L : Nat} {P1 P0 : xh_D → xd_E → Prop} {d : xh_D} {e : xd_E}  {l2 : Int} {l3 : Int} {l4 : Int}  (h : ((-2147483648 ≤ l4 ∧ l4 < 2147483648) ∧ ((-2147483648 ≤ (d 146 (1 : Int)) ∧ (d 146 (1 : Int)) < 2147483648) ∧ ((((d 146 (1 : Int)) ≤ l4) → P0 d e) ∧ ((¬ (d 146 (1 : Int)) ≤ l4) → yB D xm_c267 (yQz L P1 P0) L 32 [.ref 146, .ref 162, .int (xJ l2), .int (xJ l3), .int (xJ l4), .int (xJ (0 : Int)), .int (xJ (0 : Int))] [] d e))))) : yB D xm_c267 (yQz L P1 P0) L 24 [.ref 146, .ref 162, .int (xJ l2), .int (xJ l3), .int (xJ l4), .double 0, .double 0] [] d e := by
  refine yb_iload (x := l4) rfl rfl ?_
  refine yb_aload rfl rfl ?_
  refine yb_get (v := .int (xJ (d 146 (1 : Int)))) rfl (by decide) (by decide) (rfl) rfl ?_
  have r1 := h.1
  replace h := h.2
  have r2 := h.1
  replace h := h.2
  refine yb_icmp_ge (x := l4) (y := (d 146 (1 : Int))) rfl rfl r1 r2 (fun c => ?_) (fun c => ?_)
  · replace h := h.1 c
    refine yb_push (v := 0) rfl ?_
    exact yb_ret0 rfl h
  · replace h := h.2 c
    refine yb_push (v := 0) rfl ?_
    refine yb_istore rfl rfl rfl ?_
    refine yb_push (v := 0) rfl ?_
    refine yb_istore rfl rfl rfl ?_
    exact h
theorem yk_267_162_32 {D L : Nat} {P1 P0 : xh_D → xd_E → Prop} {d : xh_D} {e : xd_E}  {l2 : Int} {l3 : Int} {l4 : Int} {l5 : Int} {l6 : Int}  (hD : 1 ≤ D) (h : ((-2147483648 ≤ l6 ∧ l6 < 2147483648) ∧ ((-2147483648 ≤ l2 ∧ l2 < 2147483648) ∧ (((l2 ≤ l6) → ((-2147483648 ≤ l5 ∧ l5 < 2147483648) ∧ (((¬ l5 = 0) → yB D xm_c267 (yQz L P1 P0) L 24 [.ref 146, .ref 162, .int (xJ l2), .int (xJ l3), .int (xJ (l4 + 1)), .double 0, .double 0] [] d e) ∧ ((l5 = 0) → ((0 ≤ (l2 - (1 : Int)) ∧ (l2 - (1 : Int)) < 4) ∧ ((0 ≤ (d 171 (l2 - (1 : Int))) ∧ (d 171 (l2 - (1 : Int))) < 9) ∧ ((0 ≤ l4 ∧ l4 < 9) ∧ ((0 ≤ (d 162 (d 171 (l2 - (1 : Int)))) ∧ (d 162 (d 171 (l2 - (1 : Int)))) < 9) ∧ ((0 ≤ (d 162 l4) ∧ (d 162 l4) < 9) ∧ ((-2147483648 ≤ (d 149 (9 * (d 171 (l2 - (1 : Int))) + (d 162 (d 171 (l2 - (1 : Int)))))) ∧ (d 149 (9 * (d 171 (l2 - (1 : Int))) + (d 162 (d 171 (l2 - (1 : Int)))))) < 2147483648) ∧ ((-2147483648 ≤ (d 149 (9 * (d 171 (l2 - (1 : Int))) + (d 162 l4))) ∧ (d 149 (9 * (d 171 (l2 - (1 : Int))) + (d 162 l4))) < 2147483648) ∧ ((((d 149 (9 * (d 171 (l2 - (1 : Int))) + (d 162 (d 171 (l2 - (1 : Int)))))) < (d 149 (9 * (d 171 (l2 - (1 : Int))) + (d 162 l4)))) → ((0 ≤ l2 ∧ l2 < 4) ∧ yZ D 267 L [.ref 146, .ref 162, .int (xJ (l2 + (1 : Int))), .int (xJ l3)] (xs d 171 l2 l4) e (fun d12 e13 => P1 d12 e13) (fun d12 e13 => yB D xm_c267 (yQz L P1 P0) L 24 [.ref 146, .ref 162, .int (xJ l2), .int (xJ l3), .int (xJ (l4 + 1)), .double 0, .double 0] [] d12 e13))) ∧ (¬ ((d 149 (9 * (d 171 (l2 - (1 : Int))) + (d 162 (d 171 (l2 - (1 : Int)))))) < (d 149 (9 * (d 171 (l2 - (1 : Int))) + (d 162 l4)))) → yB D xm_c267 (yQz L P1 P0) L 24 [.ref 146, .ref 162, .int (xJ l2), .int (xJ l3), .int (xJ (l4 + 1)), .double 0, .double 0] [] d e))))))))))))) ∧ ((¬ l2 ≤ l6) → ((-2147483648 ≤ l5 ∧ l5 < 2147483648) ∧ (((¬ l5 = 0) → yB D xm_c267 (yQz L P1 P0) L 32 [.ref 146, .ref 162, .int (xJ l2), .int (xJ l3), .int (xJ l4), .int (xJ (1 : Int)), .int (xJ (l6 + 1))] [] d e) ∧ ((l5 = 0) → ((0 ≤ l6 ∧ l6 < 4) ∧ ((-2147483648 ≤ (d 171 l6) ∧ (d 171 l6) < 2147483648) ∧ ((-2147483648 ≤ l4 ∧ l4 < 2147483648) ∧ (((¬ (d 171 l6) = l4) → yB D xm_c267 (yQz L P1 P0) L 32 [.ref 146, .ref 162, .int (xJ l2), .int (xJ l3), .int (xJ l4), .int (xJ (0 : Int)), .int (xJ (l6 + 1))] [] d e) ∧ (((d 171 l6) = l4) → yB D xm_c267 (yQz L P1 P0) L 32 [.ref 146, .ref 162, .int (xJ l2), .int (xJ l3), .int (xJ l4), .int (xJ (1 : Int)), .int (xJ (l6 + 1))] [] d e))))))))))))) : yB D xm_c267 (yQz L P1 P0) L 32 [.ref 146, .ref 162, .int (xJ l2), .int (xJ l3), .int (xJ l4), .int (xJ l5), .int (xJ l6)] [] d e := by
  refine yb_iload (x := l6) rfl rfl ?_
  refine yb_iload (x := l2) rfl rfl ?_
  have r1 := h.1
  replace h := h.2
  have r2 := h.1
  replace h := h.2
  refine yb_icmp_ge (x := l6) (y := l2) rfl rfl r1 r2 (fun c => ?_) (fun c => ?_)
  · replace h := h.1 c
    refine yb_iload (x := l5) rfl rfl ?_
    have r3 := h.1
    replace h := h.2
    refine yb_if_ne (x := l5) rfl rfl r3 (fun c => ?_) (fun c => ?_)
    · replace h := h.1 c
      refine yb_iinc (x := l4) (n := 1) rfl rfl rfl rfl ?_
      refine yb_goto rfl rfl ?_
      refine yb_forget (dl := [.ref 146, .ref 162, .int (xJ l2), .int (xJ l3), .int (xJ (l4 + 1)), .double 0, .double 0]) ⟨Or.inl rfl, ⟨Or.inl rfl, ⟨Or.inl rfl, ⟨Or.inl rfl, ⟨Or.inl rfl, ⟨Or.inr ⟨rfl, rfl⟩, ⟨Or.inr ⟨rfl, rfl⟩, trivial⟩⟩⟩⟩⟩⟩⟩ ?_
      exact h
    · replace h := h.2 c
      refine yb_aload rfl rfl ?_
      refine yb_aload rfl rfl ?_
      refine yb_aload rfl rfl ?_
      refine yb_get (v := .ref 171) rfl (by decide) (by decide) (rfl) rfl ?_
      refine yb_iload (x := l2) rfl rfl ?_
      refine yb_push (v := 1) rfl ?_
      refine yb_isub (x := l2) (y := (1 : Int)) rfl ?_
      have r4 := h.1
      replace h := h.2
      refine yb_iald (j := (l2 - (1 : Int))) rfl xd_A171 (by decide) r4 (v := (d 171 (l2 - (1 : Int)))) rfl ?_
      refine yb_iload (x := l4) rfl rfl ?_
      have r5 := h.1
      replace h := h.2
      have r6 := h.1
      replace h := h.2
      have r7 := h.1
      replace h := h.2
      have r8 := h.1
      replace h := h.2
      have r9 := h.1
      replace h := h.2
      have r10 := h.1
      replace h := h.2
      refine yb_callVz (As := [.ref 162, .int (xJ (d 171 (l2 - (1 : Int)))), .int (xJ l4)]) (a := 146) rfl rfl rfl rfl rfl rfl rfl rfl (by decide) (by decide) (rfl) (by decide) (sp_266_162 (by omega) ⟨r5, r6, r7, r8, r9, r10⟩ (fun c => ?_) (fun c => ?_))
      · replace h := h.1 c
        show yB D xm_c267 _ L 61 [.ref 146, .ref 162, .int (xJ l2), .int (xJ l3), .int (xJ l4), .int (xJ l5), .int (xJ l6)] [.int (xJ (1 : Int))] d e
        refine yb_if_ne (x := (1 : Int)) rfl rfl (by decide) (fun _ => ?_) (fun c => absurd c (by decide))
        refine yb_aload rfl rfl ?_
        refine yb_get (v := .ref 171) rfl (by decide) (by decide) (rfl) rfl ?_
        refine yb_iload (x := l2) rfl rfl ?_
        refine yb_iload (x := l4) rfl rfl ?_
        have r11 := h.1
        replace h := h.2
        refine yb_iast (j := l2) (x := l4) rfl xd_A171 (by decide) r11 ?_
        refine yb_aload rfl rfl ?_
        refine yb_aload rfl rfl ?_
        refine yb_iload (x := l2) rfl rfl ?_
        refine yb_push (v := 1) rfl ?_
        refine yb_iadd (x := l2) (y := (1 : Int)) rfl ?_
        refine yb_iload (x := l3) rfl rfl ?_
        refine yb_callVz (As := [.ref 162, .int (xJ (l2 + (1 : Int))), .int (xJ l3)]) (a := 146) rfl rfl rfl rfl rfl rfl rfl rfl (by decide) (by decide) (rfl) (by decide) (yZ_mono h (fun d12 e13 h => ?_) (fun d12 e13 h => ?_))
        · refine yb_if_eq (x := (1 : Int)) rfl rfl (by decide) (fun c => absurd c (by decide)) (fun _ => ?_)
          refine yb_push (v := 1) rfl ?_
          exact yb_ret1 rfl h
        · refine yb_if_eq (x := (0 : Int)) rfl rfl (by decide) (fun _ => ?_) (fun c => absurd (by decide) c)
          refine yb_iinc (x := l4) (n := 1) rfl rfl rfl rfl ?_
          refine yb_goto rfl rfl ?_
          refine yb_forget (dl := [.ref 146, .ref 162, .int (xJ l2), .int (xJ l3), .int (xJ (l4 + 1)), .double 0, .double 0]) ⟨Or.inl rfl, ⟨Or.inl rfl, ⟨Or.inl rfl, ⟨Or.inl rfl, ⟨Or.inl rfl, ⟨Or.inr ⟨rfl, rfl⟩, ⟨Or.inr ⟨rfl, rfl⟩, trivial⟩⟩⟩⟩⟩⟩⟩ ?_
          exact h
      · replace h := h.2 c
        show yB D xm_c267 _ L 61 [.ref 146, .ref 162, .int (xJ l2), .int (xJ l3), .int (xJ l4), .int (xJ l5), .int (xJ l6)] [.int (xJ (0 : Int))] d e
        refine yb_if_ne (x := (0 : Int)) rfl rfl (by decide) (fun c => absurd (by decide) c) (fun _ => ?_)
        refine yb_goto rfl rfl ?_
        refine yb_iinc (x := l4) (n := 1) rfl rfl rfl rfl ?_
        refine yb_goto rfl rfl ?_
        refine yb_forget (dl := [.ref 146, .ref 162, .int (xJ l2), .int (xJ l3), .int (xJ (l4 + 1)), .double 0, .double 0]) ⟨Or.inl rfl, ⟨Or.inl rfl, ⟨Or.inl rfl, ⟨Or.inl rfl, ⟨Or.inl rfl, ⟨Or.inr ⟨rfl, rfl⟩, ⟨Or.inr ⟨rfl, rfl⟩, trivial⟩⟩⟩⟩⟩⟩⟩ ?_
        exact h
  · replace h := h.2 c
    refine yb_iload (x := l5) rfl rfl ?_
    have r14 := h.1
    replace h := h.2
    refine yb_if_ne (x := l5) rfl rfl r14 (fun c => ?_) (fun c => ?_)
    · replace h := h.1 c
      refine yb_push (v := 1) rfl ?_
      refine yb_goto rfl rfl ?_
      refine yb_istore rfl rfl rfl ?_
      refine yb_iinc (x := l6) (n := 1) rfl rfl rfl rfl ?_
      refine yb_goto rfl rfl ?_
      exact h
    · replace h := h.2 c
      refine yb_aload rfl rfl ?_
      refine yb_get (v := .ref 171) rfl (by decide) (by decide) (rfl) rfl ?_
      refine yb_iload (x := l6) rfl rfl ?_
      have r15 := h.1
      replace h := h.2
      refine yb_iald (j := l6) rfl xd_A171 (by decide) r15 (v := (d 171 l6)) rfl ?_
      refine yb_iload (x := l4) rfl rfl ?_
      have r16 := h.1
      replace h := h.2
      have r17 := h.1
      replace h := h.2
      refine yb_icmp_ne (x := (d 171 l6)) (y := l4) rfl rfl r16 r17 (fun c => ?_) (fun c => ?_)
      · replace h := h.1 c
        refine yb_push (v := 0) rfl ?_
        refine yb_istore rfl rfl rfl ?_
        refine yb_iinc (x := l6) (n := 1) rfl rfl rfl rfl ?_
        refine yb_goto rfl rfl ?_
        exact h
      · replace h := h.2 c
        refine yb_push (v := 1) rfl ?_
        refine yb_goto rfl rfl ?_
        refine yb_istore rfl rfl rfl ?_
        refine yb_iinc (x := l6) (n := 1) rfl rfl rfl rfl ?_
        refine yb_goto rfl rfl ?_
        exact h
theorem yk_268_147_0 {D L : Nat} {P1 P0 : xh_D → xd_E → Prop} {d : xh_D} {e : xd_E}    (h : yB D xm_c268 (yQz L P1 P0) L 2 [.ref 146, .ref 147, .int (xJ (2 : Int)), .double 0] [] d e) : yB D xm_c268 (yQz L P1 P0) L 0 [.ref 146, .ref 147, .double 0, .double 0] [] d e := by
  refine yb_push (v := 2) rfl ?_
  refine yb_istore rfl rfl rfl ?_
  exact h
theorem yk_268_147_2 {D L : Nat} {P1 P0 : xh_D → xd_E → Prop} {d : xh_D} {e : xd_E}  {l2 : Int}  (h : ((-2147483648 ≤ l2 ∧ l2 < 2147483648) ∧ ((((4 : Int) < l2) → P0 d e) ∧ ((¬ (4 : Int) < l2) → yB D xm_c268 (yQz L P1 P0) L 10 [.ref 146, .ref 147, .int (xJ l2), .int (xJ (0 : Int))] [] (xs d 146 (51 : Int) l2) e)))) : yB D xm_c268 (yQz L P1 P0) L 2 [.ref 146, .ref 147, .int (xJ l2), .double 0] [] d e := by
  refine yb_iload (x := l2) rfl rfl ?_
  refine yb_push (v := 4) rfl ?_
  have r1 := h.1
  replace h := h.2
  refine yb_icmp_gt (x := l2) (y := (4 : Int)) rfl rfl r1 (by decide) (fun c => ?_) (fun c => ?_)
  · replace h := h.1 c
    refine yb_push (v := 0) rfl ?_
    exact yb_ret0 rfl h
  · replace h := h.2 c
    refine yb_aload rfl rfl ?_
    refine yb_iload (x := l2) rfl rfl ?_
    refine yb_put (z := l2) (k := 51) rfl rfl (by decide) (by decide) (rfl) (Nat.le_of_ble_eq_true rfl) rfl (rfl) ?_
    refine yb_push (v := 0) rfl ?_
    refine yb_istore rfl rfl rfl ?_
    exact h
theorem yk_268_147_10 {D L : Nat} {P1 P0 : xh_D → xd_E → Prop} {d : xh_D} {e : xd_E}  {l2 : Int} {l3 : Int}  (h : ((-2147483648 ≤ l3 ∧ l3 < 2147483648) ∧ ((-2147483648 ≤ (d 146 (1 : Int)) ∧ (d 146 (1 : Int)) < 2147483648) ∧ ((((d 146 (1 : Int)) ≤ l3) → yB D xm_c268 (yQz L P1 P0) L 2 [.ref 146, .ref 147, .int (xJ (l2 + 1)), .double 0] [] d e) ∧ ((¬ (d 146 (1 : Int)) ≤ l3) → yZ D 267 L [.ref 146, .ref 147, .int (xJ (1 : Int)), .int (xJ l2)] (xs d 171 (0 : Int) l3) e (fun d3 e4 => P1 d3 e4) (fun d3 e4 => yB D xm_c268 (yQz L P1 P0) L 10 [.ref 146, .ref 147, .int (xJ l2), .int (xJ (l3 + 1))] [] d3 e4)))))) : yB D xm_c268 (yQz L P1 P0) L 10 [.ref 146, .ref 147, .int (xJ l2), .int (xJ l3)] [] d e := by
  refine yb_iload (x := l3) rfl rfl ?_
  refine yb_aload rfl rfl ?_
  refine yb_get (v := .int (xJ (d 146 (1 : Int)))) rfl (by decide) (by decide) (rfl) rfl ?_
  have r1 := h.1
  replace h := h.2
  have r2 := h.1
  replace h := h.2
  refine yb_icmp_ge (x := l3) (y := (d 146 (1 : Int))) rfl rfl r1 r2 (fun c => ?_) (fun c => ?_)
  · replace h := h.1 c
    refine yb_iinc (x := l2) (n := 1) rfl rfl rfl rfl ?_
    refine yb_goto rfl rfl ?_
    refine yb_forget (dl := [.ref 146, .ref 147, .int (xJ (l2 + 1)), .double 0]) ⟨Or.inl rfl, ⟨Or.inl rfl, ⟨Or.inl rfl, ⟨Or.inr ⟨rfl, rfl⟩, trivial⟩⟩⟩⟩ ?_
    exact h
  · replace h := h.2 c
    refine yb_aload rfl rfl ?_
    refine yb_get (v := .ref 171) rfl (by decide) (by decide) (rfl) rfl ?_
    refine yb_push (v := 0) rfl ?_
    refine yb_iload (x := l3) rfl rfl ?_
    refine yb_iast (j := (0 : Int)) (x := l3) rfl xd_A171 (by decide) (by decide) ?_
    refine yb_aload rfl rfl ?_
    refine yb_aload rfl rfl ?_
    refine yb_push (v := 1) rfl ?_
    refine yb_iload (x := l2) rfl rfl ?_
    refine yb_callVz (As := [.ref 147, .int (xJ (1 : Int)), .int (xJ l2)]) (a := 146) rfl rfl rfl rfl rfl rfl rfl rfl (by decide) (by decide) (rfl) (by decide) (yZ_mono h (fun d3 e4 h => ?_) (fun d3 e4 h => ?_))
    · refine yb_if_eq (x := (1 : Int)) rfl rfl (by decide) (fun c => absurd c (by decide)) (fun _ => ?_)
      refine yb_push (v := 1) rfl ?_
      exact yb_ret1 rfl h
    · refine yb_if_eq (x := (0 : Int)) rfl rfl (by decide) (fun _ => ?_) (fun c => absurd (by decide) c)
      refine yb_iinc (x := l3) (n := 1) rfl rfl rfl rfl ?_
      refine yb_goto rfl rfl ?_
      exact h
theorem yk_268_162_0 {D L : Nat} {P1 P0 : xh_D → xd_E → Prop} {d : xh_D} {e : xd_E}    (h : yB D xm_c268 (yQz L P1 P0) L 2 [.ref 146, .ref 162, .int (xJ (2 : Int)), .double 0] [] d e) : yB D xm_c268 (yQz L P1 P0) L 0 [.ref 146, .ref 162, .double 0, .double 0] [] d e := by
  refine yb_push (v := 2) rfl ?_
  refine yb_istore rfl rfl rfl ?_
  exact h
theorem yk_268_162_2 {D L : Nat} {P1 P0 : xh_D → xd_E → Prop} {d : xh_D} {e : xd_E}  {l2 : Int}  (h : ((-2147483648 ≤ l2 ∧ l2 < 2147483648) ∧ ((((4 : Int) < l2) → P0 d e) ∧ ((¬ (4 : Int) < l2) → yB D xm_c268 (yQz L P1 P0) L 10 [.ref 146, .ref 162, .int (xJ l2), .int (xJ (0 : Int))] [] (xs d 146 (51 : Int) l2) e)))) : yB D xm_c268 (yQz L P1 P0) L 2 [.ref 146, .ref 162, .int (xJ l2), .double 0] [] d e := by
  refine yb_iload (x := l2) rfl rfl ?_
  refine yb_push (v := 4) rfl ?_
  have r1 := h.1
  replace h := h.2
  refine yb_icmp_gt (x := l2) (y := (4 : Int)) rfl rfl r1 (by decide) (fun c => ?_) (fun c => ?_)
  · replace h := h.1 c
    refine yb_push (v := 0) rfl ?_
    exact yb_ret0 rfl h
  · replace h := h.2 c
    refine yb_aload rfl rfl ?_
    refine yb_iload (x := l2) rfl rfl ?_
    refine yb_put (z := l2) (k := 51) rfl rfl (by decide) (by decide) (rfl) (Nat.le_of_ble_eq_true rfl) rfl (rfl) ?_
    refine yb_push (v := 0) rfl ?_
    refine yb_istore rfl rfl rfl ?_
    exact h
theorem yk_268_162_10 {D L : Nat} {P1 P0 : xh_D → xd_E → Prop} {d : xh_D} {e : xd_E}  {l2 : Int} {l3 : Int}  (h : ((-2147483648 ≤ l3 ∧ l3 < 2147483648) ∧ ((-2147483648 ≤ (d 146 (1 : Int)) ∧ (d 146 (1 : Int)) < 2147483648) ∧ ((((d 146 (1 : Int)) ≤ l3) → yB D xm_c268 (yQz L P1 P0) L 2 [.ref 146, .ref 162, .int (xJ (l2 + 1)), .double 0] [] d e) ∧ ((¬ (d 146 (1 : Int)) ≤ l3) → yZ D 267 L [.ref 146, .ref 162, .int (xJ (1 : Int)), .int (xJ l2)] (xs d 171 (0 : Int) l3) e (fun d3 e4 => P1 d3 e4) (fun d3 e4 => yB D xm_c268 (yQz L P1 P0) L 10 [.ref 146, .ref 162, .int (xJ l2), .int (xJ (l3 + 1))] [] d3 e4)))))) : yB D xm_c268 (yQz L P1 P0) L 10 [.ref 146, .ref 162, .int (xJ l2), .int (xJ l3)] [] d e := by
  refine yb_iload (x := l3) rfl rfl ?_
  refine yb_aload rfl rfl ?_
  refine yb_get (v := .int (xJ (d 146 (1 : Int)))) rfl (by decide) (by decide) (rfl) rfl ?_
  have r1 := h.1
  replace h := h.2
  have r2 := h.1
  replace h := h.2
  refine yb_icmp_ge (x := l3) (y := (d 146 (1 : Int))) rfl rfl r1 r2 (fun c => ?_) (fun c => ?_)
  · replace h := h.1 c
    refine yb_iinc (x := l2) (n := 1) rfl rfl rfl rfl ?_
    refine yb_goto rfl rfl ?_
    refine yb_forget (dl := [.ref 146, .ref 162, .int (xJ (l2 + 1)), .double 0]) ⟨Or.inl rfl, ⟨Or.inl rfl, ⟨Or.inl rfl, ⟨Or.inr ⟨rfl, rfl⟩, trivial⟩⟩⟩⟩ ?_
    exact h
  · replace h := h.2 c
    refine yb_aload rfl rfl ?_
    refine yb_get (v := .ref 171) rfl (by decide) (by decide) (rfl) rfl ?_
    refine yb_push (v := 0) rfl ?_
    refine yb_iload (x := l3) rfl rfl ?_
    refine yb_iast (j := (0 : Int)) (x := l3) rfl xd_A171 (by decide) (by decide) ?_
    refine yb_aload rfl rfl ?_
    refine yb_aload rfl rfl ?_
    refine yb_push (v := 1) rfl ?_
    refine yb_iload (x := l2) rfl rfl ?_
    refine yb_callVz (As := [.ref 162, .int (xJ (1 : Int)), .int (xJ l2)]) (a := 146) rfl rfl rfl rfl rfl rfl rfl rfl (by decide) (by decide) (rfl) (by decide) (yZ_mono h (fun d3 e4 h => ?_) (fun d3 e4 h => ?_))
    · refine yb_if_eq (x := (1 : Int)) rfl rfl (by decide) (fun c => absurd c (by decide)) (fun _ => ?_)
      refine yb_push (v := 1) rfl ?_
      exact yb_ret1 rfl h
    · refine yb_if_eq (x := (0 : Int)) rfl rfl (by decide) (fun _ => ?_) (fun c => absurd (by decide) c)
      refine yb_iinc (x := l3) (n := 1) rfl rfl rfl rfl ?_
      refine yb_goto rfl rfl ?_
      exact h
theorem yk_269_147_0 {D L : Nat} {P : xh_D → xd_E → Prop} {d : xh_D} {e : xd_E}    (h : ((0 ≤ (d 171 (0 : Int)) ∧ (d 171 (0 : Int)) < 353) ∧ yB D xm_c269 (yQv L P) L 9 [.ref 146, .ref 147, .int (xJ (d 147 (d 171 (0 : Int)))), .int (xJ (0 : Int))] [] d e)) : yB D xm_c269 (yQv L P) L 0 [.ref 146, .ref 147, .double 0, .double 0] [] d e := by
  refine yb_aload rfl rfl ?_
  refine yb_aload rfl rfl ?_
  refine yb_get (v := .ref 171) rfl (by decide) (by decide) (rfl) rfl ?_
  refine yb_push (v := 0) rfl ?_
  refine yb_iald (j := (0 : Int)) rfl xd_A171 (by decide) (by decide) (v := (d 171 (0 : Int))) rfl ?_
  have r1 := h.1
  replace h := h.2
  refine yb_iald (j := (d 171 (0 : Int))) rfl xd_A147 (by decide) r1 (v := (d 147 (d 171 (0 : Int)))) rfl ?_
  refine yb_istore rfl rfl rfl ?_
  refine yb_push (v := 0) rfl ?_
  refine yb_istore rfl rfl rfl ?_
  exact h
theorem yk_269_147_9 {D L : Nat} {P : xh_D → xd_E → Prop} {d : xh_D} {e : xd_E}  {l2 : Int} {l3 : Int}  (h : ((-2147483648 ≤ (l3 + (1 : Int)) ∧ (l3 + (1 : Int)) < 2147483648) ∧ ((-2147483648 ≤ (d 146 (51 : Int)) ∧ (d 146 (51 : Int)) < 2147483648) ∧ ((((d 146 (51 : Int)) ≤ (l3 + (1 : Int))) → ((0 ≤ ((d 146 (51 : Int)) - (1 : Int)) ∧ ((d 146 (51 : Int)) - (1 : Int)) < 4) ∧ ((0 ≤ (d 171 ((d 146 (51 : Int)) - (1 : Int))) ∧ (d 171 ((d 146 (51 : Int)) - (1 : Int))) < 353) ∧ P (xs d 147 (d 171 ((d 146 (51 : Int)) - (1 : Int))) l2) e))) ∧ ((¬ (d 146 (51 : Int)) ≤ (l3 + (1 : Int))) → ((0 ≤ l3 ∧ l3 < 4) ∧ ((0 ≤ (l3 + (1 : Int)) ∧ (l3 + (1 : Int)) < 4) ∧ ((0 ≤ (d 171 (l3 + (1 : Int))) ∧ (d 171 (l3 + (1 : Int))) < 353) ∧ ((0 ≤ (d 171 l3) ∧ (d 171 l3) < 353) ∧ yB D xm_c269 (yQv L P) L 9 [.ref 146, .ref 147, .int (xJ l2), .int (xJ (l3 + 1))] [] (xs d 147 (d 171 l3) (d 147 (d 171 (l3 + (1 : Int))))) e))))))))) : yB D xm_c269 (yQv L P) L 9 [.ref 146, .ref 147, .int (xJ l2), .int (xJ l3)] [] d e := by
  refine yb_iload (x := l3) rfl rfl ?_
  refine yb_push (v := 1) rfl ?_
  refine yb_iadd (x := l3) (y := (1 : Int)) rfl ?_
  refine yb_aload rfl rfl ?_
  refine yb_get (v := .int (xJ (d 146 (51 : Int)))) rfl (by decide) (by decide) (rfl) rfl ?_
  have r1 := h.1
  replace h := h.2
  have r2 := h.1
  replace h := h.2
  refine yb_icmp_ge (x := (l3 + (1 : Int))) (y := (d 146 (51 : Int))) rfl rfl r1 r2 (fun c => ?_) (fun c => ?_)
  · replace h := h.1 c
    refine yb_aload rfl rfl ?_
    refine yb_aload rfl rfl ?_
    refine yb_get (v := .ref 171) rfl (by decide) (by decide) (rfl) rfl ?_
    refine yb_aload rfl rfl ?_
    refine yb_get (v := .int (xJ (d 146 (51 : Int)))) rfl (by decide) (by decide) (rfl) rfl ?_
    refine yb_push (v := 1) rfl ?_
    refine yb_isub (x := (d 146 (51 : Int))) (y := (1 : Int)) rfl ?_
    have r3 := h.1
    replace h := h.2
    refine yb_iald (j := ((d 146 (51 : Int)) - (1 : Int))) rfl xd_A171 (by decide) r3 (v := (d 171 ((d 146 (51 : Int)) - (1 : Int)))) rfl ?_
    refine yb_iload (x := l2) rfl rfl ?_
    have r4 := h.1
    replace h := h.2
    refine yb_iast (j := (d 171 ((d 146 (51 : Int)) - (1 : Int)))) (x := l2) rfl xd_A147 (by decide) r4 ?_
    exact yb_retv rfl h
  · replace h := h.2 c
    refine yb_aload rfl rfl ?_
    refine yb_aload rfl rfl ?_
    refine yb_get (v := .ref 171) rfl (by decide) (by decide) (rfl) rfl ?_
    refine yb_iload (x := l3) rfl rfl ?_
    have r5 := h.1
    replace h := h.2
    refine yb_iald (j := l3) rfl xd_A171 (by decide) r5 (v := (d 171 l3)) rfl ?_
    refine yb_aload rfl rfl ?_
    refine yb_aload rfl rfl ?_
    refine yb_get (v := .ref 171) rfl (by decide) (by decide) (rfl) rfl ?_
    refine yb_iload (x := l3) rfl rfl ?_
    refine yb_push (v := 1) rfl ?_
    refine yb_iadd (x := l3) (y := (1 : Int)) rfl ?_
    have r6 := h.1
    replace h := h.2
    refine yb_iald (j := (l3 + (1 : Int))) rfl xd_A171 (by decide) r6 (v := (d 171 (l3 + (1 : Int)))) rfl ?_
    have r7 := h.1
    replace h := h.2
    refine yb_iald (j := (d 171 (l3 + (1 : Int)))) rfl xd_A147 (by decide) r7 (v := (d 147 (d 171 (l3 + (1 : Int))))) rfl ?_
    have r8 := h.1
    replace h := h.2
    refine yb_iast (j := (d 171 l3)) (x := (d 147 (d 171 (l3 + (1 : Int))))) rfl xd_A147 (by decide) r8 ?_
    refine yb_iinc (x := l3) (n := 1) rfl rfl rfl rfl ?_
    refine yb_goto rfl rfl ?_
    exact h
theorem yk_269_162_0 {D L : Nat} {P : xh_D → xd_E → Prop} {d : xh_D} {e : xd_E}    (h : ((0 ≤ (d 171 (0 : Int)) ∧ (d 171 (0 : Int)) < 353) ∧ yB D xm_c269 (yQv L P) L 9 [.ref 146, .ref 162, .int (xJ (d 162 (d 171 (0 : Int)))), .int (xJ (0 : Int))] [] d e)) : yB D xm_c269 (yQv L P) L 0 [.ref 146, .ref 162, .double 0, .double 0] [] d e := by
  refine yb_aload rfl rfl ?_
  refine yb_aload rfl rfl ?_
  refine yb_get (v := .ref 171) rfl (by decide) (by decide) (rfl) rfl ?_
  refine yb_push (v := 0) rfl ?_
  refine yb_iald (j := (0 : Int)) rfl xd_A171 (by decide) (by decide) (v := (d 171 (0 : Int))) rfl ?_
  have r1 := h.1
  replace h := h.2
  refine yb_iald (j := (d 171 (0 : Int))) rfl xd_A162 (by decide) r1 (v := (d 162 (d 171 (0 : Int)))) rfl ?_
  refine yb_istore rfl rfl rfl ?_
  refine yb_push (v := 0) rfl ?_
  refine yb_istore rfl rfl rfl ?_
  exact h
theorem yk_269_162_9 {D L : Nat} {P : xh_D → xd_E → Prop} {d : xh_D} {e : xd_E}  {l2 : Int} {l3 : Int}  (h : ((-2147483648 ≤ (l3 + (1 : Int)) ∧ (l3 + (1 : Int)) < 2147483648) ∧ ((-2147483648 ≤ (d 146 (51 : Int)) ∧ (d 146 (51 : Int)) < 2147483648) ∧ ((((d 146 (51 : Int)) ≤ (l3 + (1 : Int))) → ((0 ≤ ((d 146 (51 : Int)) - (1 : Int)) ∧ ((d 146 (51 : Int)) - (1 : Int)) < 4) ∧ ((0 ≤ (d 171 ((d 146 (51 : Int)) - (1 : Int))) ∧ (d 171 ((d 146 (51 : Int)) - (1 : Int))) < 353) ∧ P (xs d 162 (d 171 ((d 146 (51 : Int)) - (1 : Int))) l2) e))) ∧ ((¬ (d 146 (51 : Int)) ≤ (l3 + (1 : Int))) → ((0 ≤ l3 ∧ l3 < 4) ∧ ((0 ≤ (l3 + (1 : Int)) ∧ (l3 + (1 : Int)) < 4) ∧ ((0 ≤ (d 171 (l3 + (1 : Int))) ∧ (d 171 (l3 + (1 : Int))) < 353) ∧ ((0 ≤ (d 171 l3) ∧ (d 171 l3) < 353) ∧ yB D xm_c269 (yQv L P) L 9 [.ref 146, .ref 162, .int (xJ l2), .int (xJ (l3 + 1))] [] (xs d 162 (d 171 l3) (d 162 (d 171 (l3 + (1 : Int))))) e))))))))) : yB D xm_c269 (yQv L P) L 9 [.ref 146, .ref 162, .int (xJ l2), .int (xJ l3)] [] d e := by
  refine yb_iload (x := l3) rfl rfl ?_
  refine yb_push (v := 1) rfl ?_
  refine yb_iadd (x := l3) (y := (1 : Int)) rfl ?_
  refine yb_aload rfl rfl ?_
  refine yb_get (v := .int (xJ (d 146 (51 : Int)))) rfl (by decide) (by decide) (rfl) rfl ?_
  have r1 := h.1
  replace h := h.2
  have r2 := h.1
  replace h := h.2
  refine yb_icmp_ge (x := (l3 + (1 : Int))) (y := (d 146 (51 : Int))) rfl rfl r1 r2 (fun c => ?_) (fun c => ?_)
  · replace h := h.1 c
    refine yb_aload rfl rfl ?_
    refine yb_aload rfl rfl ?_
    refine yb_get (v := .ref 171) rfl (by decide) (by decide) (rfl) rfl ?_
    refine yb_aload rfl rfl ?_
    refine yb_get (v := .int (xJ (d 146 (51 : Int)))) rfl (by decide) (by decide) (rfl) rfl ?_
    refine yb_push (v := 1) rfl ?_
    refine yb_isub (x := (d 146 (51 : Int))) (y := (1 : Int)) rfl ?_
    have r3 := h.1
    replace h := h.2
    refine yb_iald (j := ((d 146 (51 : Int)) - (1 : Int))) rfl xd_A171 (by decide) r3 (v := (d 171 ((d 146 (51 : Int)) - (1 : Int)))) rfl ?_
    refine yb_iload (x := l2) rfl rfl ?_
    have r4 := h.1
    replace h := h.2
    refine yb_iast (j := (d 171 ((d 146 (51 : Int)) - (1 : Int)))) (x := l2) rfl xd_A162 (by decide) r4 ?_
    exact yb_retv rfl h
  · replace h := h.2 c
    refine yb_aload rfl rfl ?_
    refine yb_aload rfl rfl ?_
    refine yb_get (v := .ref 171) rfl (by decide) (by decide) (rfl) rfl ?_
    refine yb_iload (x := l3) rfl rfl ?_
    have r5 := h.1
    replace h := h.2
    refine yb_iald (j := l3) rfl xd_A171 (by decide) r5 (v := (d 171 l3)) rfl ?_
    refine yb_aload rfl rfl ?_
    refine yb_aload rfl rfl ?_
    refine yb_get (v := .ref 171) rfl (by decide) (by decide) (rfl) rfl ?_
    refine yb_iload (x := l3) rfl rfl ?_
    refine yb_push (v := 1) rfl ?_
    refine yb_iadd (x := l3) (y := (1 : Int)) rfl ?_
    have r6 := h.1
    replace h := h.2
    refine yb_iald (j := (l3 + (1 : Int))) rfl xd_A171 (by decide) r6 (v := (d 171 (l3 + (1 : Int)))) rfl ?_
    have r7 := h.1
    replace h := h.2
    refine yb_iald (j := (d 171 (l3 + (1 : Int)))) rfl xd_A162 (by decide) r7 (v := (d 162 (d 171 (l3 + (1 : Int))))) rfl ?_
    have r8 := h.1
    replace h := h.2
    refine yb_iast (j := (d 171 l3)) (x := (d 162 (d 171 (l3 + (1 : Int))))) rfl xd_A162 (by decide) r8 ?_
    refine yb_iinc (x := l3) (n := 1) rfl rfl rfl rfl ?_
    refine yb_goto rfl rfl ?_
    exact h
theorem yk_270_0 {D L : Nat} {P : Int → xh_D → xd_E → Prop} {d : xh_D} {e : xd_E}    (h : yZ D 268 L [.ref 146, .ref 147] d e (fun d1 e2 => yB D xm_c270 (yQi L P) L 12 [.ref 146, .int (xJ (0 : Int))] [] (xs d1 146 (7 : Int) (0 : Int)) e2) (fun d1 e2 => P (-2 : Int) d1 e2)) : yB D xm_c270 (yQi L P) L 0 [.ref 146, .double 0] [] d e := by
  refine yb_aload rfl rfl ?_
  refine yb_aload rfl rfl ?_
  refine yb_get (v := .ref 147) rfl (by decide) (by decide) (rfl) rfl ?_
  refine yb_callVz (As := [.ref 147]) (a := 146) rfl rfl rfl rfl rfl rfl rfl rfl (by decide) (by decide) (rfl) (by decide) (yZ_mono h (fun d1 e2 h => ?_) (fun d1 e2 h => ?_))
  · refine yb_if_ne (x := (1 : Int)) rfl rfl (by decide) (fun _ => ?_) (fun c => absurd c (by decide))
    refine yb_aload rfl rfl ?_
    refine yb_push (v := 0) rfl ?_
    refine yb_put (z := (0 : Int)) (k := 7) rfl rfl (by decide) (by decide) (rfl) (Nat.le_of_ble_eq_true rfl) rfl (rfl) ?_
    refine yb_push (v := 0) rfl ?_
    refine yb_istore rfl rfl rfl ?_
    exact h
  · refine yb_if_ne (x := (0 : Int)) rfl rfl (by decide) (fun c => absurd (by decide) c) (fun _ => ?_)
    refine yb_push (v := (-2)) rfl ?_
    exact yb_ret rfl h
theorem yk_270_12 {D L : Nat} {P : Int → xh_D → xd_E → Prop} {d : xh_D} {e : xd_E}  {l1 : Int}  (hD : 1 ≤ D) (h : ((-2147483648 ≤ l1 ∧ l1 < 2147483648) ∧ ((-2147483648 ≤ (d 146 (51 : Int)) ∧ (d 146 (51 : Int)) < 2147483648) ∧ ((((d 146 (51 : Int)) ≤ l1) → P (d 146 (51 : Int)) d e) ∧ ((¬ (d 146 (51 : Int)) ≤ l1) → ((0 ≤ l1 ∧ l1 < 4) ∧ ((0 ≤ (d 146 (7 : Int)) ∧ (d 146 (7 : Int)) < 20) ∧ yB D xm_c270 (yQi L P) L 12 [.ref 146, .int (xJ (l1 + 1))] [] (xs (xs d 151 (d 146 (7 : Int)) (d 171 l1)) 146 (7 : Int) ((d 146 (7 : Int)) + 1)) e))))))) : yB D xm_c270 (yQi L P) L 12 [.ref 146, .int (xJ l1)] [] d e := by
  refine yb_iload (x := l1) rfl rfl ?_
  refine yb_aload rfl rfl ?_
  refine yb_get (v := .int (xJ (d 146 (51 : Int)))) rfl (by decide) (by decide) (rfl) rfl ?_
  have r1 := h.1
  replace h := h.2
  have r2 := h.1
  replace h := h.2
  refine yb_icmp_ge (x := l1) (y := (d 146 (51 : Int))) rfl rfl r1 r2 (fun c => ?_) (fun c => ?_)
  · replace h := h.1 c
    refine yb_aload rfl rfl ?_
    refine yb_get (v := .int (xJ (d 146 (51 : Int)))) rfl (by decide) (by decide) (rfl) rfl ?_
    exact yb_ret rfl h
  · replace h := h.2 c
    refine yb_aload rfl rfl ?_
    refine yb_aload rfl rfl ?_
    refine yb_get (v := .ref 171) rfl (by decide) (by decide) (rfl) rfl ?_
    refine yb_iload (x := l1) rfl rfl ?_
    have r3 := h.1
    replace h := h.2
    refine yb_iald (j := l1) rfl xd_A171 (by decide) r3 (v := (d 171 l1)) rfl ?_
    have r4 := h.1
    replace h := h.2
    refine yb_callVv (As := [.int (xJ (d 171 l1))]) (a := 146) rfl rfl rfl rfl rfl rfl rfl rfl (by decide) (by decide) (rfl) (by decide) (sp_183 (by omega) r4 ?_)
    show yB D xm_c270 _ L 22 [.ref 146, .int (xJ l1)] [] (xs (xs d 151 (d 146 (7 : Int)) (d 171 l1)) 146 (7 : Int) ((d 146 (7 : Int)) + 1)) e
    refine yb_iinc (x := l1) (n := 1) rfl rfl rfl rfl ?_
    refine yb_goto rfl rfl ?_
    exact h
theorem yk_271_0 {D L : Nat} {P : Int → xh_D → xd_E → Prop} {d : xh_D} {e : xd_E}    (h : yC D 270 L [.ref 146] (xs d 146 (8 : Int) (0 : Int)) e (fun x1 d2 e3 => P x1 d2 e3)) : yB D xm_c271 (yQi L P) L 0 [.ref 146] [] d e := by
  refine yb_aload rfl rfl ?_
  refine yb_push (v := 0) rfl ?_
  refine yb_put (z := (0 : Int)) (k := 8) rfl rfl (by decide) (by decide) (rfl) (Nat.le_of_ble_eq_true rfl) rfl (rfl) ?_
  refine yb_aload rfl rfl ?_
  refine yb_callVi (As := []) (a := 146) rfl rfl rfl rfl rfl rfl rfl rfl (by decide) (by decide) (rfl) (by decide) (yC_mono h (fun x1 d2 e3 h => ?_))
  exact yb_ret rfl h
theorem yk_272_0 {D L : Nat} {P : Int → xh_D → xd_E → Prop} {d : xh_D} {e : xd_E}    (h : yC D 270 L [.ref 146] (xs d 146 (8 : Int) (0 : Int)) e (fun x1 d2 e3 => ((-2147483648 ≤ x1 ∧ x1 < 2147483648) ∧ (((0 ≤ x1) → yV D 226 L [.ref 146, .ref 147] d2 e3 (fun d5 e6 => yV D 269 L [.ref 146, .ref 147] d5 e6 (fun d7 e8 => P x1 d7 e8))) ∧ ((¬ 0 ≤ x1) → P x1 d2 e3))))) : yB D xm_c272 (yQi L P) L 0 [.ref 146, .double 0] [] d e := by
  refine yb_aload rfl rfl ?_
  refine yb_push (v := 0) rfl ?_
  refine yb_put (z := (0 : Int)) (k := 8) rfl rfl (by decide) (by decide) (rfl) (Nat.le_of_ble_eq_true rfl) rfl (rfl) ?_
  refine yb_aload rfl rfl ?_
  refine yb_callVi (As := []) (a := 146) rfl rfl rfl rfl rfl rfl rfl rfl (by decide) (by decide) (rfl) (by decide) (yC_mono h (fun x1 d2 e3 h => ?_))
  refine yb_istore rfl rfl rfl ?_
  refine yb_iload (x := x1) rfl rfl ?_
  have r4 := h.1
  replace h := h.2
  refine yb_if_ge (x := x1) rfl rfl r4 (fun c => ?_) (fun c => ?_)
  · replace h := h.1 c
    refine yb_aload rfl rfl ?_
    refine yb_aload rfl rfl ?_
    refine yb_get (v := .ref 147) rfl (by decide) (by decide) (rfl) rfl ?_
    refine yb_callVv (As := [.ref 147]) (a := 146) rfl rfl rfl rfl rfl rfl rfl rfl (by decide) (by decide) (rfl) (by decide) (yV_mono h (fun d5 e6 h => ?_))
    refine yb_aload rfl rfl ?_
    refine yb_aload rfl rfl ?_
    refine yb_get (v := .ref 147) rfl (by decide) (by decide) (rfl) rfl ?_
    refine yb_callVv (As := [.ref 147]) (a := 146) rfl rfl rfl rfl rfl rfl rfl rfl (by decide) (by decide) (rfl) (by decide) (yV_mono h (fun d7 e8 h => ?_))
    refine yb_iload (x := x1) rfl rfl ?_
    exact yb_ret rfl h
  · replace h := h.2 c
    refine yb_iload (x := x1) rfl rfl ?_
    exact yb_ret rfl h
theorem yk_273_0 {D L : Nat} {P : Int → xh_D → xd_E → Prop} {d : xh_D} {e : xd_E}    (h : yV D 225 L [.ref 147, .ref 162, .int (xJ (0 : Int))] (xs d 146 (8 : Int) (0 : Int)) e (fun d1 e2 => yB D xm_c273 (yQi L P) L 11 [.ref 146, .int (xJ (0 : Int)), .double 0] [] d1 e2)) : yB D xm_c273 (yQi L P) L 0 [.ref 146, .double 0, .double 0] [] d e := by
  refine yb_aload rfl rfl ?_
  refine yb_push (v := 0) rfl ?_
  refine yb_put (z := (0 : Int)) (k := 8) rfl rfl (by decide) (by decide) (rfl) (Nat.le_of_ble_eq_true rfl) rfl (rfl) ?_
  refine yb_aload rfl rfl ?_
  refine yb_get (v := .ref 147) rfl (by decide) (by decide) (rfl) rfl ?_
  refine yb_aload rfl rfl ?_
  refine yb_get (v := .ref 162) rfl (by decide) (by decide) (rfl) rfl ?_
  refine yb_push (v := 0) rfl ?_
  refine yb_callSv (As := [.ref 147, .ref 162, .int (xJ (0 : Int))]) rfl rfl rfl rfl rfl rfl rfl rfl (by decide) (yV_mono h (fun d1 e2 h => ?_))
  refine yb_push (v := 0) rfl ?_
  refine yb_istore rfl rfl rfl ?_
  exact h
theorem yk_273_11 {D L : Nat} {P : Int → xh_D → xd_E → Prop} {d : xh_D} {e : xd_E}  {l1 : Int}  (h : yZ D 268 L [.ref 146, .ref 162] d e (fun d1 e2 => yV D 269 L [.ref 146, .ref 162] d1 e2 (fun d3 e4 => yB D xm_c273 (yQi L P) L 11 [.ref 146, .int (xJ (l1 + 1)), .double 0] [] d3 e4)) (fun d1 e2 => yB D xm_c273 (yQi L P) L 27 [.ref 146, .int (xJ l1), .int (xJ (0 : Int))] [] (xs d1 146 (7 : Int) (0 : Int)) e2)) : yB D xm_c273 (yQi L P) L 11 [.ref 146, .int (xJ l1), .double 0] [] d e := by
  refine yb_aload rfl rfl ?_
  refine yb_aload rfl rfl ?_
  refine yb_get (v := .ref 162) rfl (by decide) (by decide) (rfl) rfl ?_
  refine yb_callVz (As := [.ref 162]) (a := 146) rfl rfl rfl rfl rfl rfl rfl rfl (by decide) (by decide) (rfl) (by decide) (yZ_mono h (fun d1 e2 h => ?_) (fun d1 e2 h => ?_))
  · refine yb_if_eq (x := (1 : Int)) rfl rfl (by decide) (fun c => absurd c (by decide)) (fun _ => ?_)
    refine yb_aload rfl rfl ?_
    refine yb_aload rfl rfl ?_
    refine yb_get (v := .ref 162) rfl (by decide) (by decide) (rfl) rfl ?_
    refine yb_callVv (As := [.ref 162]) (a := 146) rfl rfl rfl rfl rfl rfl rfl rfl (by decide) (by decide) (rfl) (by decide) (yV_mono h (fun d3 e4 h => ?_))
    refine yb_iinc (x := l1) (n := 1) rfl rfl rfl rfl ?_
    refine yb_goto rfl rfl ?_
    exact h
  · refine yb_if_eq (x := (0 : Int)) rfl rfl (by decide) (fun _ => ?_) (fun c => absurd (by decide) c)
    refine yb_aload rfl rfl ?_
    refine yb_push (v := 0) rfl ?_
    refine yb_put (z := (0 : Int)) (k := 7) rfl rfl (by decide) (by decide) (rfl) (Nat.le_of_ble_eq_true rfl) rfl (rfl) ?_
    refine yb_push (v := 0) rfl ?_
    refine yb_istore rfl rfl rfl ?_
    exact h
theorem yk_273_27 {D L : Nat} {P : Int → xh_D → xd_E → Prop} {d : xh_D} {e : xd_E}  {l1 : Int} {l2 : Int}  (hD : 1 ≤ D) (h : ((-2147483648 ≤ l2 ∧ l2 < 2147483648) ∧ ((-2147483648 ≤ (d 146 (1 : Int)) ∧ (d 146 (1 : Int)) < 2147483648) ∧ ((((d 146 (1 : Int)) ≤ l2) → P l1 d e) ∧ ((¬ (d 146 (1 : Int)) ≤ l2) → ((0 ≤ l2 ∧ l2 < 353) ∧ ((0 ≤ (d 146 (7 : Int)) ∧ (d 146 (7 : Int)) < 20) ∧ yB D xm_c273 (yQi L P) L 27 [.ref 146, .int (xJ l1), .int (xJ (l2 + 1))] [] (xs (xs d 151 (d 146 (7 : Int)) (d 162 l2)) 146 (7 : Int) ((d 146 (7 : Int)) + 1)) e))))))) : yB D xm_c273 (yQi L P) L 27 [.ref 146, .int (xJ l1), .int (xJ l2)] [] d e := by
  refine yb_iload (x := l2) rfl rfl ?_
  refine yb_aload rfl rfl ?_
  refine yb_get (v := .int (xJ (d 146 (1 : Int)))) rfl (by decide) (by decide) (rfl) rfl ?_
  have r1 := h.1
  replace h := h.2
  have r2 := h.1
  replace h := h.2
  refine yb_icmp_ge (x := l2) (y := (d 146 (1 : Int))) rfl rfl r1 r2 (fun c => ?_) (fun c => ?_)
  · replace h := h.1 c
    refine yb_iload (x := l1) rfl rfl ?_
    exact yb_ret rfl h
  · replace h := h.2 c
    refine yb_aload rfl rfl ?_
    refine yb_aload rfl rfl ?_
    refine yb_get (v := .ref 162) rfl (by decide) (by decide) (rfl) rfl ?_
    refine yb_iload (x := l2) rfl rfl ?_
    have r3 := h.1
    replace h := h.2
    refine yb_iald (j := l2) rfl xd_A162 (by decide) r3 (v := (d 162 l2)) rfl ?_
    have r4 := h.1
    replace h := h.2
    refine yb_callVv (As := [.int (xJ (d 162 l2))]) (a := 146) rfl rfl rfl rfl rfl rfl rfl rfl (by decide) (by decide) (rfl) (by decide) (sp_183 (by omega) r4 ?_)
    show yB D xm_c273 _ L 37 [.ref 146, .int (xJ l1), .int (xJ l2)] [] (xs (xs d 151 (d 146 (7 : Int)) (d 162 l2)) 146 (7 : Int) ((d 146 (7 : Int)) + 1)) e
    refine yb_iinc (x := l2) (n := 1) rfl rfl rfl rfl ?_
    refine yb_goto rfl rfl ?_
    exact h
theorem yk_274_0 {D L : Nat} {P : Int → xh_D → xd_E → Prop} {d : xh_D} {e : xd_E}    (h : yB D xm_c274 (yQi L P) L 7 [.ref 146, .int (xJ (0 : Int)), .int (xJ (0 : Int)), .double 0, .double 0] [] (xs d 146 (8 : Int) (0 : Int)) e) : yB D xm_c274 (yQi L P) L 0 [.ref 146, .double 0, .double 0, .double 0, .double 0] [] d e := by
  refine yb_aload rfl rfl ?_
  refine yb_push (v := 0) rfl ?_
  refine yb_put (z := (0 : Int)) (k := 8) rfl rfl (by decide) (by decide) (rfl) (Nat.le_of_ble_eq_true rfl) rfl (rfl) ?_
  refine yb_push (v := 0) rfl ?_
  refine yb_istore rfl rfl rfl ?_
  refine yb_push (v := 0) rfl ?_
  refine yb_istore rfl rfl rfl ?_
  exact h
theorem yk_274_7 {D L : Nat} {P : Int → xh_D → xd_E → Prop} {d : xh_D} {e : xd_E}  {l1 : Int} {l2 : Int}  (h : ((-2147483648 ≤ l2 ∧ l2 < 2147483648) ∧ ((-2147483648 ≤ (d 146 (1 : Int)) ∧ (d 146 (1 : Int)) < 2147483648) ∧ ((((d 146 (1 : Int)) ≤ l2) → yB D xm_c274 (yQi L P) L 29 [.ref 146, .int (xJ l1), .int (xJ (1 : Int)), .double 0, .double 0] [] d e) ∧ ((¬ (d 146 (1 : Int)) ≤ l2) → ((0 ≤ l2 ∧ l2 < 353) ∧ ((0 ≤ (((9 : Int) * l2) + (d 147 l2)) ∧ (((9 : Int) * l2) + (d 147 l2)) < 81) ∧ (∀ v5, v5 = (l1 + (d 149 (((9 : Int) * l2) + (d 147 l2)))) → yB D xm_c274 (yQi L P) L 7 [.ref 146, .int (xJ v5), .int (xJ (l2 + 1)), .double 0, .double 0] [] d e)))))))) : yB D xm_c274 (yQi L P) L 7 [.ref 146, .int (xJ l1), .int (xJ l2), .double 0, .double 0] [] d e := by
  refine yb_iload (x := l2) rfl rfl ?_
  refine yb_aload rfl rfl ?_
  refine yb_get (v := .int (xJ (d 146 (1 : Int)))) rfl (by decide) (by decide) (rfl) rfl ?_
  have r1 := h.1
  replace h := h.2
  have r2 := h.1
  replace h := h.2
  refine yb_icmp_ge (x := l2) (y := (d 146 (1 : Int))) rfl rfl r1 r2 (fun c => ?_) (fun c => ?_)
  · replace h := h.1 c
    refine yb_push (v := 1) rfl ?_
    refine yb_istore rfl rfl rfl ?_
    exact h
  · replace h := h.2 c
    refine yb_iload (x := l1) rfl rfl ?_
    refine yb_aload rfl rfl ?_
    refine yb_get (v := .ref 149) rfl (by decide) (by decide) (rfl) rfl ?_
    refine yb_push (v := 9) rfl ?_
    refine yb_iload (x := l2) rfl rfl ?_
    refine yb_imul (x := (9 : Int)) (y := l2) rfl ?_
    refine yb_aload rfl rfl ?_
    refine yb_get (v := .ref 147) rfl (by decide) (by decide) (rfl) rfl ?_
    refine yb_iload (x := l2) rfl rfl ?_
    have r3 := h.1
    replace h := h.2
    refine yb_iald (j := l2) rfl xd_A147 (by decide) r3 (v := (d 147 l2)) rfl ?_
    refine yb_iadd (x := ((9 : Int) * l2)) (y := (d 147 l2)) rfl ?_
    have r4 := h.1
    replace h := h.2
    refine yb_iald (j := (((9 : Int) * l2) + (d 147 l2))) rfl xd_A149 (by decide) r4 (v := (d 149 (((9 : Int) * l2) + (d 147 l2)))) rfl ?_
    refine yb_iadd (x := l1) (y := (d 149 (((9 : Int) * l2) + (d 147 l2)))) rfl ?_
    replace h := h _ rfl
    refine yb_istore rfl rfl rfl ?_
    refine yb_iinc (x := l2) (n := 1) rfl rfl rfl rfl ?_
    refine yb_goto rfl rfl ?_
    exact h
theorem yk_274_29 {D L : Nat} {P : Int → xh_D → xd_E → Prop} {d : xh_D} {e : xd_E}  {l1 : Int} {l2 : Int}  (hD : 1 ≤ D) (h : ((-2147483648 ≤ l2 ∧ l2 < 2147483648) ∧ ((((xi_shl (1 : Int) (d 146 (1 : Int))) ≤ l2) → ((0 ≤ ((xi_shl (1 : Int) (d 146 (1 : Int))) - (1 : Int)) ∧ ((xi_shl (1 : Int) (d 146 (1 : Int))) - (1 : Int)) < 512) ∧ P l1 (xs (xs (xs d 146 (7 : Int) (0 : Int)) 151 (0 : Int) (d 172 ((xi_shl (1 : Int) (d 146 (1 : Int))) - (1 : Int)))) 146 (7 : Int) ((0 : Int) + 1)) e)) ∧ ((¬ (xi_shl (1 : Int) (d 146 (1 : Int))) ≤ l2) → ((0 ≤ l2 ∧ l2 < 512) ∧ yB D xm_c274 (yQi L P) L 47 [.ref 146, .int (xJ l1), .int (xJ l2), .int (xJ ((xp_bc l2) - (1 : Int))), .int (xJ (0 : Int))] [] (xs d 172 l2 (-1 : Int)) e))))) : yB D xm_c274 (yQi L P) L 29 [.ref 146, .int (xJ l1), .int (xJ l2), .double 0, .double 0] [] d e := by
  refine yb_iload (x := l2) rfl rfl ?_
  refine yb_push (v := 1) rfl ?_
  refine yb_aload rfl rfl ?_
  refine yb_get (v := .int (xJ (d 146 (1 : Int)))) rfl (by decide) (by decide) (rfl) rfl ?_
  refine yb_ishl (x := (1 : Int)) (y := (d 146 (1 : Int))) rfl ?_
  have r1 := h.1
  replace h := h.2
  refine yb_icmp_ge (x := l2) (y := (xi_shl (1 : Int) (d 146 (1 : Int)))) rfl rfl r1 (xJ_rng _) (fun c => ?_) (fun c => ?_)
  · replace h := h.1 c
    refine yb_aload rfl rfl ?_
    refine yb_push (v := 0) rfl ?_
    refine yb_put (z := (0 : Int)) (k := 7) rfl rfl (by decide) (by decide) (rfl) (Nat.le_of_ble_eq_true rfl) rfl (rfl) ?_
    refine yb_aload rfl rfl ?_
    refine yb_aload rfl rfl ?_
    refine yb_get (v := .ref 172) rfl (by decide) (by decide) (rfl) rfl ?_
    refine yb_push (v := 1) rfl ?_
    refine yb_aload rfl rfl ?_
    refine yb_get (v := .int (xJ (d 146 (1 : Int)))) rfl (by decide) (by decide) (rfl) rfl ?_
    refine yb_ishl (x := (1 : Int)) (y := (d 146 (1 : Int))) rfl ?_
    refine yb_push (v := 1) rfl ?_
    refine yb_isub (x := (xi_shl (1 : Int) (d 146 (1 : Int)))) (y := (1 : Int)) rfl ?_
    have r2 := h.1
    replace h := h.2
    refine yb_iald (j := ((xi_shl (1 : Int) (d 146 (1 : Int))) - (1 : Int))) rfl xd_A172 (by decide) r2 (v := (d 172 ((xi_shl (1 : Int) (d 146 (1 : Int))) - (1 : Int)))) (xs_np (by decide)) ?_
    refine yb_callVv (As := [.int (xJ (d 172 ((xi_shl (1 : Int) (d 146 (1 : Int))) - (1 : Int))))]) (a := 146) rfl rfl rfl rfl rfl rfl rfl rfl (by decide) (by decide) (rfl) (by decide) (sp_183 (by omega) (by show (0 ≤ (0 : Int) ∧ (0 : Int) < 20); decide) ?_)
    show yB D xm_c274 _ L 104 [.ref 146, .int (xJ l1), .int (xJ l2), .double 0, .double 0] [] (xs (xs (xs d 146 (7 : Int) (0 : Int)) 151 (0 : Int) (d 172 ((xi_shl (1 : Int) (d 146 (1 : Int))) - (1 : Int)))) 146 (7 : Int) ((0 : Int) + 1)) e
    refine yb_iload (x := l1) rfl rfl ?_
    exact yb_ret rfl h
  · replace h := h.2 c
    refine yb_iload (x := l2) rfl rfl ?_
    refine yb_callSi (As := [.int (xJ l2)]) rfl rfl rfl rfl rfl rfl rfl rfl (by decide) (sp_0 (by omega) ?_)
    show yB D xm_c274 _ L 37 [.ref 146, .int (xJ l1), .int (xJ l2), .double 0, .double 0] [.int (xJ (xp_bc l2))] d e
    refine yb_push (v := 1) rfl ?_
    refine yb_isub (x := (xp_bc l2)) (y := (1 : Int)) rfl ?_
    refine yb_istore rfl rfl rfl ?_
    refine yb_aload rfl rfl ?_
    refine yb_get (v := .ref 172) rfl (by decide) (by decide) (rfl) rfl ?_
    refine yb_iload (x := l2) rfl rfl ?_
    refine yb_push (v := (-1)) rfl ?_
    have r3 := h.1
    replace h := h.2
    refine yb_iast (j := l2) (x := (-1 : Int)) rfl xd_A172 (by decide) r3 ?_
    refine yb_push (v := 0) rfl ?_
    refine yb_istore rfl rfl rfl ?_
    exact h
theorem yk_274_47 {D L : Nat} {P : Int → xh_D → xd_E → Prop} {d : xh_D} {e : xd_E}  {l1 : Int} {l2 : Int} {l3 : Int} {l4 : Int}  (hD : 1 ≤ D) (h : ((-2147483648 ≤ l4 ∧ l4 < 2147483648) ∧ ((-2147483648 ≤ (d 146 (1 : Int)) ∧ (d 146 (1 : Int)) < 2147483648) ∧ ((((d 146 (1 : Int)) ≤ l4) → yB D xm_c274 (yQi L P) L 29 [.ref 146, .int (xJ l1), .int (xJ (l2 + 1)), .double 0, .double 0] [] d e) ∧ ((¬ (d 146 (1 : Int)) ≤ l4) → (((xi_and (xi_shr l2 l4) (1 : Int) = 1) → ((0 ≤ l2 ∧ l2 < 512) ∧ ((0 ≤ (xi_and l2 (xi_xor (xi_shl (1 : Int) l4) (-1 : Int))) ∧ (xi_and l2 (xi_xor (xi_shl (1 : Int) l4) (-1 : Int))) < 512) ∧ ((0 ≤ l4 ∧ l4 < 353) ∧ ((0 ≤ (((9 : Int) * l3) + (d 147 l4)) ∧ (((9 : Int) * l3) + (d 147 l4)) < 81) ∧ ((-2147483648 ≤ (d 172 l2) ∧ (d 172 l2) < 2147483648) ∧ ((-2147483648 ≤ ((d 172 (xi_and l2 (xi_xor (xi_shl (1 : Int) l4) (-1 : Int)))) + (d 149 (((9 : Int) * l3) + (d 147 l4)))) ∧ ((d 172 (xi_and l2 (xi_xor (xi_shl (1 : Int) l4) (-1 : Int)))) + (d 149 (((9 : Int) * l3) + (d 147 l4)))) < 2147483648) ∧ yB D xm_c274 (yQi L P) L 47 [.ref 146, .int (xJ l1), .int (xJ l2), .int (xJ l3), .int (xJ (l4 + 1))] [] (xs d 172 l2 (max (d 172 l2) ((d 172 (xi_and l2 (xi_xor (xi_shl (1 : Int) l4) (-1 : Int)))) + (d 149 (((9 : Int) * l3) + (d 147 l4)))))) e))))))) ∧ (¬ (xi_and (xi_shr l2 l4) (1 : Int) = 1) → yB D xm_c274 (yQi L P) L 47 [.ref 146, .int (xJ l1), .int (xJ l2), .int (xJ l3), .int (xJ (l4 + 1))] [] d e))))))) : yB D xm_c274 (yQi L P) L 47 [.ref 146, .int (xJ l1), .int (xJ l2), .int (xJ l3), .int (xJ l4)] [] d e := by
  refine yb_iload (x := l4) rfl rfl ?_
  refine yb_aload rfl rfl ?_
  refine yb_get (v := .int (xJ (d 146 (1 : Int)))) rfl (by decide) (by decide) (rfl) rfl ?_
  have r1 := h.1
  replace h := h.2
  have r2 := h.1
  replace h := h.2
  refine yb_icmp_ge (x := l4) (y := (d 146 (1 : Int))) rfl rfl r1 r2 (fun c => ?_) (fun c => ?_)
  · replace h := h.1 c
    refine yb_iinc (x := l2) (n := 1) rfl rfl rfl rfl ?_
    refine yb_goto rfl rfl ?_
    refine yb_forget (dl := [.ref 146, .int (xJ l1), .int (xJ (l2 + 1)), .double 0, .double 0]) ⟨Or.inl rfl, ⟨Or.inl rfl, ⟨Or.inl rfl, ⟨Or.inr ⟨rfl, rfl⟩, ⟨Or.inr ⟨rfl, rfl⟩, trivial⟩⟩⟩⟩⟩ ?_
    exact h
  · replace h := h.2 c
    refine yb_iload (x := l2) rfl rfl ?_
    refine yb_iload (x := l4) rfl rfl ?_
    refine yb_callSz (As := [.int (xJ l2), .int (xJ l4)]) rfl rfl rfl rfl rfl rfl rfl rfl (by decide) (sp_181 (by omega) (fun c => ?_) (fun c => ?_))
    · replace h := h.1 c
      show yB D xm_c274 _ L 54 [.ref 146, .int (xJ l1), .int (xJ l2), .int (xJ l3), .int (xJ l4)] [.int (xJ (1 : Int))] d e
      refine yb_if_eq (x := (1 : Int)) rfl rfl (by decide) (fun c => absurd c (by decide)) (fun _ => ?_)
      refine yb_aload rfl rfl ?_
      refine yb_get (v := .ref 172) rfl (by decide) (by decide) (rfl) rfl ?_
      refine yb_iload (x := l2) rfl rfl ?_
      refine yb_aload rfl rfl ?_
      refine yb_get (v := .ref 172) rfl (by decide) (by decide) (rfl) rfl ?_
      refine yb_iload (x := l2) rfl rfl ?_
      have r3 := h.1
      replace h := h.2
      refine yb_iald (j := l2) rfl xd_A172 (by decide) r3 (v := (d 172 l2)) rfl ?_
      refine yb_aload rfl rfl ?_
      refine yb_get (v := .ref 172) rfl (by decide) (by decide) (rfl) rfl ?_
      refine yb_iload (x := l2) rfl rfl ?_
      refine yb_push (v := 1) rfl ?_
      refine yb_iload (x := l4) rfl rfl ?_
      refine yb_ishl (x := (1 : Int)) (y := l4) rfl ?_
      refine yb_push (v := (-1)) rfl ?_
      refine yb_ixor (x := (xi_shl (1 : Int) l4)) (y := (-1 : Int)) rfl ?_
      refine yb_iand (x := l2) (y := (xi_xor (xi_shl (1 : Int) l4) (-1 : Int))) rfl ?_
      have r4 := h.1
      replace h := h.2
      refine yb_iald (j := (xi_and l2 (xi_xor (xi_shl (1 : Int) l4) (-1 : Int)))) rfl xd_A172 (by decide) r4 (v := (d 172 (xi_and l2 (xi_xor (xi_shl (1 : Int) l4) (-1 : Int))))) rfl ?_
      refine yb_aload rfl rfl ?_
      refine yb_get (v := .ref 149) rfl (by decide) (by decide) (rfl) rfl ?_
      refine yb_push (v := 9) rfl ?_
      refine yb_iload (x := l3) rfl rfl ?_
      refine yb_imul (x := (9 : Int)) (y := l3) rfl ?_
      refine yb_aload rfl rfl ?_
      refine yb_get (v := .ref 147) rfl (by decide) (by decide) (rfl) rfl ?_
      refine yb_iload (x := l4) rfl rfl ?_
      have r5 := h.1
      replace h := h.2
      refine yb_iald (j := l4) rfl xd_A147 (by decide) r5 (v := (d 147 l4)) rfl ?_
      refine yb_iadd (x := ((9 : Int) * l3)) (y := (d 147 l4)) rfl ?_
      have r6 := h.1
      replace h := h.2
      refine yb_iald (j := (((9 : Int) * l3) + (d 147 l4))) rfl xd_A149 (by decide) r6 (v := (d 149 (((9 : Int) * l3) + (d 147 l4)))) rfl ?_
      refine yb_iadd (x := (d 172 (xi_and l2 (xi_xor (xi_shl (1 : Int) l4) (-1 : Int))))) (y := (d 149 (((9 : Int) * l3) + (d 147 l4)))) rfl ?_
      have r7 := h.1
      replace h := h.2
      have r8 := h.1
      replace h := h.2
      refine yb_callSi (As := [.int (xJ (d 172 l2)), .int (xJ ((d 172 (xi_and l2 (xi_xor (xi_shl (1 : Int) l4) (-1 : Int)))) + (d 149 (((9 : Int) * l3) + (d 147 l4)))))]) rfl rfl rfl rfl rfl rfl rfl rfl (by show (2 : Nat) ≤ 8; decide) (sp_4 (by omega) ⟨r7, r8⟩ ?_)
      show yB D xm_c274 _ L 85 [.ref 146, .int (xJ l1), .int (xJ l2), .int (xJ l3), .int (xJ l4)] [.int (xJ (max (d 172 l2) ((d 172 (xi_and l2 (xi_xor (xi_shl (1 : Int) l4) (-1 : Int)))) + (d 149 (((9 : Int) * l3) + (d 147 l4)))))), .int (xJ l2), .ref 172] d e
      refine yb_iast (j := l2) (x := (max (d 172 l2) ((d 172 (xi_and l2 (xi_xor (xi_shl (1 : Int) l4) (-1 : Int)))) + (d 149 (((9 : Int) * l3) + (d 147 l4)))))) rfl xd_A172 (by decide) r3 ?_
      refine yb_iinc (x := l4) (n := 1) rfl rfl rfl rfl ?_
      refine yb_goto rfl rfl ?_
      exact h
    · replace h := h.2 c
      show yB D xm_c274 _ L 54 [.ref 146, .int (xJ l1), .int (xJ l2), .int (xJ l3), .int (xJ l4)] [.int (xJ (0 : Int))] d e
      refine yb_if_eq (x := (0 : Int)) rfl rfl (by decide) (fun _ => ?_) (fun c => absurd (by decide) c)
      refine yb_iinc (x := l4) (n := 1) rfl rfl rfl rfl ?_
      refine yb_goto rfl rfl ?_
      exact h
theorem yk_275_0 {D L : Nat} {P : Int → xh_D → xd_E → Prop} {d : xh_D} {e : xd_E} {a1 : Int} {a2 : Int}   (hD : 2 ≤ D) (h : ((-2147483648 ≤ a1 ∧ a1 < 2147483648) ∧ ((0 ≤ (d 146 (1 : Int)) ∧ (d 146 (1 : Int)) ≤ 9) ∧ (((0 ≤ a1 ∧ a1 < (d 146 (1 : Int))) → ((-2147483648 ≤ a2 ∧ a2 < 2147483648) ∧ ((((0 : Int) ≤ a2 ∧ a2 ≤ (999 : Int)) → ((-2147483648 ≤ (d 146 (54 : Int)) ∧ (d 146 (54 : Int)) < 2147483648) ∧ (((¬ (d 146 (54 : Int)) = (10 : Int)) → ((0 ≤ ((2 : Int) * (d 146 (54 : Int))) ∧ ((2 : Int) * (d 146 (54 : Int))) < 20) ∧ ((0 ≤ (((2 : Int) * (d 146 (54 : Int))) + (1 : Int)) ∧ (((2 : Int) * (d 146 (54 : Int))) + (1 : Int)) < 20) ∧ P ((d 146 (54 : Int)) + (1 : Int)) (xs (xs (xs (xs d 146 (8 : Int) (0 : Int)) 173 ((2 : Int) * (d 146 (54 : Int))) a1) 173 (((2 : Int) * (d 146 (54 : Int))) + (1 : Int)) a2) 146 (54 : Int) ((d 146 (54 : Int)) + (1 : Int))) e))) ∧ (((d 146 (54 : Int)) = (10 : Int)) → P (-1 : Int) (xs d 146 (8 : Int) (0 : Int)) e)))) ∧ (¬ ((0 : Int) ≤ a2 ∧ a2 ≤ (999 : Int)) → P (-1 : Int) (xs d 146 (8 : Int) (0 : Int)) e)))) ∧ (¬ (0 ≤ a1 ∧ a1 < (d 146 (1 : Int))) → P (-1 : Int) (xs d 146 (8 : Int) (0 : Int)) e))))) : yB D xm_c275 (yQi L P) L 0 [.ref 146, .int (xJ a1), .int (xJ a2)] [] d e := by
  refine yb_aload rfl rfl ?_
  refine yb_push (v := 0) rfl ?_
  refine yb_put (z := (0 : Int)) (k := 8) rfl rfl (by decide) (by decide) (rfl) (Nat.le_of_ble_eq_true rfl) rfl (rfl) ?_
  refine yb_aload rfl rfl ?_
  refine yb_iload (x := a1) rfl rfl ?_
  have r1 := h.1
  replace h := h.2
  have r2 := h.1
  replace h := h.2
  refine yb_callVz (As := [.int (xJ a1)]) (a := 146) rfl rfl rfl rfl rfl rfl rfl rfl (by decide) (by decide) (rfl) (by decide) (sp_184 (by omega) ⟨r1, r2⟩ (fun c => ?_) (fun c => ?_))
  · replace h := h.1 c
    show yB D xm_c275 _ L 6 [.ref 146, .int (xJ a1), .int (xJ a2)] [.int (xJ (1 : Int))] (xs d 146 (8 : Int) (0 : Int)) e
    refine yb_if_eq (x := (1 : Int)) rfl rfl (by decide) (fun c => absurd c (by decide)) (fun _ => ?_)
    refine yb_iload (x := a2) rfl rfl ?_
    refine yb_push (v := 0) rfl ?_
    refine yb_push (v := 999) rfl ?_
    have r3 := h.1
    replace h := h.2
    refine yb_callSz (As := [.int (xJ a2), .int (xJ (0 : Int)), .int (xJ (999 : Int))]) rfl rfl rfl rfl rfl rfl rfl rfl (by decide) (sp_180 (by omega) ⟨r3, (by show (-2147483648 ≤ (0 : Int) ∧ (0 : Int) < 2147483648); decide), (by show (-2147483648 ≤ (999 : Int) ∧ (999 : Int) < 2147483648); decide)⟩ (fun c => ?_) (fun c => ?_))
    · replace h := h.1 c
      show yB D xm_c275 _ L 11 [.ref 146, .int (xJ a1), .int (xJ a2)] [.int (xJ (1 : Int))] (xs d 146 (8 : Int) (0 : Int)) e
      refine yb_if_eq (x := (1 : Int)) rfl rfl (by decide) (fun c => absurd c (by decide)) (fun _ => ?_)
      refine yb_aload rfl rfl ?_
      refine yb_get (v := .int (xJ (d 146 (54 : Int)))) rfl (by decide) (by decide) (rfl) rfl ?_
      refine yb_push (v := 10) rfl ?_
      have r4 := h.1
      replace h := h.2
      refine yb_icmp_ne (x := (d 146 (54 : Int))) (y := (10 : Int)) rfl rfl r4 (by decide) (fun c => ?_) (fun c => ?_)
      · replace h := h.1 c
        refine yb_aload rfl rfl ?_
        refine yb_get (v := .ref 173) rfl (by decide) (by decide) (rfl) rfl ?_
        refine yb_push (v := 2) rfl ?_
        refine yb_aload rfl rfl ?_
        refine yb_get (v := .int (xJ (d 146 (54 : Int)))) rfl (by decide) (by decide) (rfl) rfl ?_
        refine yb_imul (x := (2 : Int)) (y := (d 146 (54 : Int))) rfl ?_
        refine yb_iload (x := a1) rfl rfl ?_
        have r5 := h.1
        replace h := h.2
        refine yb_iast (j := ((2 : Int) * (d 146 (54 : Int)))) (x := a1) rfl xd_A173 (by decide) r5 ?_
        refine yb_aload rfl rfl ?_
        refine yb_get (v := .ref 173) rfl (by decide) (by decide) (rfl) rfl ?_
        refine yb_push (v := 2) rfl ?_
        refine yb_aload rfl rfl ?_
        refine yb_get (v := .int (xJ (d 146 (54 : Int)))) rfl (by decide) (by decide) (rfl) rfl ?_
        refine yb_imul (x := (2 : Int)) (y := (d 146 (54 : Int))) rfl ?_
        refine yb_push (v := 1) rfl ?_
        refine yb_iadd (x := ((2 : Int) * (d 146 (54 : Int)))) (y := (1 : Int)) rfl ?_
        refine yb_iload (x := a2) rfl rfl ?_
        have r6 := h.1
        replace h := h.2
        refine yb_iast (j := (((2 : Int) * (d 146 (54 : Int))) + (1 : Int))) (x := a2) rfl xd_A173 (by decide) r6 ?_
        refine yb_aload rfl rfl ?_
        refine yb_dup rfl rfl ?_
        refine yb_get (v := .int (xJ (d 146 (54 : Int)))) rfl (by decide) (by decide) (rfl) rfl ?_
        refine yb_push (v := 1) rfl ?_
        refine yb_iadd (x := (d 146 (54 : Int))) (y := (1 : Int)) rfl ?_
        refine yb_put (z := ((d 146 (54 : Int)) + (1 : Int))) (k := 54) rfl rfl (by decide) (by decide) (rfl) (Nat.le_of_ble_eq_true rfl) rfl (rfl) ?_
        refine yb_aload rfl rfl ?_
        refine yb_get (v := .int (xJ ((d 146 (54 : Int)) + (1 : Int)))) rfl (by decide) (by decide) (rfl) rfl ?_
        exact yb_ret rfl h
      · replace h := h.2 c
        refine yb_push (v := (-1)) rfl ?_
        exact yb_ret rfl h
    · replace h := h.2 c
      show yB D xm_c275 _ L 11 [.ref 146, .int (xJ a1), .int (xJ a2)] [.int (xJ (0 : Int))] (xs d 146 (8 : Int) (0 : Int)) e
      refine yb_if_eq (x := (0 : Int)) rfl rfl (by decide) (fun _ => ?_) (fun c => absurd (by decide) c)
      refine yb_push (v := (-1)) rfl ?_
      exact yb_ret rfl h
  · replace h := h.2 c
    show yB D xm_c275 _ L 6 [.ref 146, .int (xJ a1), .int (xJ a2)] [.int (xJ (0 : Int))] (xs d 146 (8 : Int) (0 : Int)) e
    refine yb_if_eq (x := (0 : Int)) rfl rfl (by decide) (fun _ => ?_) (fun c => absurd (by decide) c)
    refine yb_push (v := (-1)) rfl ?_
    exact yb_ret rfl h
theorem yk_276_0 {D L : Nat} {P : Int → xh_D → xd_E → Prop} {d : xh_D} {e : xd_E}    (h : P (d 146 (54 : Int)) (xs (xs d 146 (8 : Int) (0 : Int)) 146 (54 : Int) (0 : Int)) e) : yB D xm_c276 (yQi L P) L 0 [.ref 146, .double 0] [] d e := by
  refine yb_aload rfl rfl ?_
  refine yb_push (v := 0) rfl ?_
  refine yb_put (z := (0 : Int)) (k := 8) rfl rfl (by decide) (by decide) (rfl) (Nat.le_of_ble_eq_true rfl) rfl (rfl) ?_
  refine yb_aload rfl rfl ?_
  refine yb_get (v := .int (xJ (d 146 (54 : Int)))) rfl (by decide) (by decide) (rfl) rfl ?_
  refine yb_istore rfl rfl rfl ?_
  refine yb_aload rfl rfl ?_
  refine yb_push (v := 0) rfl ?_
  refine yb_put (z := (0 : Int)) (k := 54) rfl rfl (by decide) (by decide) (rfl) (Nat.le_of_ble_eq_true rfl) rfl (rfl) ?_
  refine yb_iload (x := (d 146 (54 : Int))) rfl rfl ?_
  exact yb_ret rfl h
theorem yk_277_0 {D L : Nat} {P : Int → xh_D → xd_E → Prop} {d : xh_D} {e : xd_E} {a1 : Int}   (h : ((0 ≤ ((2 : Int) * a1) ∧ ((2 : Int) * a1) < 20) ∧ ((0 ≤ (((2 : Int) * a1) + (1 : Int)) ∧ (((2 : Int) * a1) + (1 : Int)) < 20) ∧ ((0 ≤ (d 173 (((2 : Int) * a1) + (1 : Int))) ∧ (d 173 (((2 : Int) * a1) + (1 : Int))) < 2147483648) ∧ (∀ v4, v4 = ((d 173 (((2 : Int) * a1) + (1 : Int))) % (9 : Int)) → yB D xm_c277 (yQi L P) L 22 [.ref 146, .double 0, .int (xJ (d 173 ((2 : Int) * a1))), .int (xJ v4), .int (xJ (0 : Int)), .int (xJ (0 : Int))] [] d e))))) : yB D xm_c277 (yQi L P) L 0 [.ref 146, .int (xJ a1), .double 0, .double 0, .double 0, .double 0] [] d e := by
  refine yb_aload rfl rfl ?_
  refine yb_get (v := .ref 173) rfl (by decide) (by decide) (rfl) rfl ?_
  refine yb_push (v := 2) rfl ?_
  refine yb_iload (x := a1) rfl rfl ?_
  refine yb_imul (x := (2 : Int)) (y := a1) rfl ?_
  have r1 := h.1
  replace h := h.2
  refine yb_iald (j := ((2 : Int) * a1)) rfl xd_A173 (by decide) r1 (v := (d 173 ((2 : Int) * a1))) rfl ?_
  refine yb_istore rfl rfl rfl ?_
  refine yb_aload rfl rfl ?_
  refine yb_get (v := .ref 173) rfl (by decide) (by decide) (rfl) rfl ?_
  refine yb_push (v := 2) rfl ?_
  refine yb_iload (x := a1) rfl rfl ?_
  refine yb_imul (x := (2 : Int)) (y := a1) rfl ?_
  refine yb_push (v := 1) rfl ?_
  refine yb_iadd (x := ((2 : Int) * a1)) (y := (1 : Int)) rfl ?_
  have r2 := h.1
  replace h := h.2
  refine yb_iald (j := (((2 : Int) * a1) + (1 : Int))) rfl xd_A173 (by decide) r2 (v := (d 173 (((2 : Int) * a1) + (1 : Int)))) rfl ?_
  refine yb_push (v := 9) rfl ?_
  have r3 := h.1
  replace h := h.2
  refine yb_irem (x := (d 173 (((2 : Int) * a1) + (1 : Int)))) (y := (9 : Int)) rfl r3 (by decide) ?_
  replace h := h _ rfl
  refine yb_istore rfl rfl rfl ?_
  refine yb_push (v := 0) rfl ?_
  refine yb_istore rfl rfl rfl ?_
  refine yb_push (v := 0) rfl ?_
  refine yb_istore rfl rfl rfl ?_
  refine yb_forget (dl := [.ref 146, .double 0, .int (xJ (d 173 ((2 : Int) * a1))), .int (xJ ((d 173 (((2 : Int) * a1) + (1 : Int))) % (9 : Int))), .int (xJ (0 : Int)), .int (xJ (0 : Int))]) ⟨Or.inl rfl, ⟨Or.inr ⟨rfl, rfl⟩, ⟨Or.inl rfl, ⟨Or.inl rfl, ⟨Or.inl rfl, ⟨Or.inl rfl, trivial⟩⟩⟩⟩⟩⟩ ?_
  exact h
theorem yk_277_22 {D L : Nat} {P : Int → xh_D → xd_E → Prop} {d : xh_D} {e : xd_E}  {l2 : Int} {l3 : Int} {l4 : Int} {l5 : Int}  (hD : 2 ≤ D) (h : ((-2147483648 ≤ l5 ∧ l5 < 2147483648) ∧ ((-2147483648 ≤ (d 146 (1 : Int)) ∧ (d 146 (1 : Int)) < 2147483648) ∧ ((((d 146 (1 : Int)) ≤ l5) → P l4 d e) ∧ ((¬ (d 146 (1 : Int)) ≤ l5) → ((-2147483648 ≤ l2 ∧ l2 < 2147483648) ∧ (((l5 = l2) → yB D xm_c277 (yQi L P) L 22 [.ref 146, .double 0, .int (xJ l2), .int (xJ l3), .int (xJ l4), .int (xJ (l5 + 1))] [] d e) ∧ ((¬ l5 = l2) → ((0 ≤ l5 ∧ l5 < 353) ∧ ((-2147483648 ≤ (d 147 l5) ∧ (d 147 l5) < 2147483648) ∧ ((-2147483648 ≤ l3 ∧ l3 < 2147483648) ∧ ((((d 147 l5) = l3) → yB D xm_c277 (yQi L P) L 22 [.ref 146, .double 0, .int (xJ l2), .int (xJ l3), .int (xJ l4), .int (xJ (l5 + 1))] [] d e) ∧ ((¬ (d 147 l5) = l3) → ((0 ≤ ((9 : Int) + l5) ∧ ((9 : Int) + l5) < 353) ∧ ((0 ≤ ((9 : Int) + l2) ∧ ((9 : Int) + l2) < 353) ∧ ((0 ≤ (d 147 ((9 : Int) + l5)) ∧ (d 147 ((9 : Int) + l5)) < 9) ∧ ((0 ≤ (d 147 ((9 : Int) + l2)) ∧ (d 147 ((9 : Int) + l2)) < 9) ∧ ((((xp_apart (d 147 ((9 : Int) + l5)) (d 147 ((9 : Int) + l2))) ≤ (2 : Int)) → ((0 ≤ l2 ∧ l2 < 353) ∧ ((-2147483648 ≤ (d 147 l2) ∧ (d 147 l2) < 2147483648) ∧ (((¬ (d 147 l2) = l3) → yB D xm_c277 (yQi L P) L 22 [.ref 146, .double 0, .int (xJ l2), .int (xJ l3), .int (xJ (xi_or l4 (xi_shl (1 : Int) l5))), .int (xJ (l5 + 1))] [] d e) ∧ (((d 147 l2) = l3) → ((0 ≤ (((9 : Int) * l2) + l5) ∧ (((9 : Int) * l2) + l5) < 81) ∧ ((-2147483648 ≤ (d 148 (((9 : Int) * l2) + l5)) ∧ (d 148 (((9 : Int) * l2) + l5)) < 2147483648) ∧ (((¬ (d 148 (((9 : Int) * l2) + l5)) = 0) → yB D xm_c277 (yQi L P) L 22 [.ref 146, .double 0, .int (xJ l2), .int (xJ l3), .int (xJ (xi_or l4 (xi_shl (1 : Int) l5))), .int (xJ (l5 + 1))] [] d e) ∧ (((d 148 (((9 : Int) * l2) + l5)) = 0) → yB D xm_c277 (yQi L P) L 22 [.ref 146, .double 0, .int (xJ l2), .int (xJ l3), .int (xJ l4), .int (xJ (l5 + 1))] [] d e))))))))) ∧ ((¬ (xp_apart (d 147 ((9 : Int) + l5)) (d 147 ((9 : Int) + l2))) ≤ (2 : Int)) → yB D xm_c277 (yQi L P) L 22 [.ref 146, .double 0, .int (xJ l2), .int (xJ l3), .int (xJ l4), .int (xJ (l5 + 1))] [] d e))))))))))))))))))) : yB D xm_c277 (yQi L P) L 22 [.ref 146, .double 0, .int (xJ l2), .int (xJ l3), .int (xJ l4), .int (xJ l5)] [] d e := by
  refine yb_iload (x := l5) rfl rfl ?_
  refine yb_aload rfl rfl ?_
  refine yb_get (v := .int (xJ (d 146 (1 : Int)))) rfl (by decide) (by decide) (rfl) rfl ?_
  have r1 := h.1
  replace h := h.2
  have r2 := h.1
  replace h := h.2
  refine yb_icmp_ge (x := l5) (y := (d 146 (1 : Int))) rfl rfl r1 r2 (fun c => ?_) (fun c => ?_)
  · replace h := h.1 c
    refine yb_iload (x := l4) rfl rfl ?_
    exact yb_ret rfl h
  · replace h := h.2 c
    refine yb_iload (x := l5) rfl rfl ?_
    refine yb_iload (x := l2) rfl rfl ?_
    have r3 := h.1
    replace h := h.2
    refine yb_icmp_eq (x := l5) (y := l2) rfl rfl r1 r3 (fun c => ?_) (fun c => ?_)
    · replace h := h.1 c
      refine yb_iinc (x := l5) (n := 1) rfl rfl rfl rfl ?_
      refine yb_goto rfl rfl ?_
      exact h
    · replace h := h.2 c
      refine yb_aload rfl rfl ?_
      refine yb_get (v := .ref 147) rfl (by decide) (by decide) (rfl) rfl ?_
      refine yb_iload (x := l5) rfl rfl ?_
      have r4 := h.1
      replace h := h.2
      refine yb_iald (j := l5) rfl xd_A147 (by decide) r4 (v := (d 147 l5)) rfl ?_
      refine yb_iload (x := l3) rfl rfl ?_
      have r5 := h.1
      replace h := h.2
      have r6 := h.1
      replace h := h.2
      refine yb_icmp_eq (x := (d 147 l5)) (y := l3) rfl rfl r5 r6 (fun c => ?_) (fun c => ?_)
      · replace h := h.1 c
        refine yb_iinc (x := l5) (n := 1) rfl rfl rfl rfl ?_
        refine yb_goto rfl rfl ?_
        exact h
      · replace h := h.2 c
        refine yb_aload rfl rfl ?_
        refine yb_get (v := .ref 147) rfl (by decide) (by decide) (rfl) rfl ?_
        refine yb_push (v := 9) rfl ?_
        refine yb_iload (x := l5) rfl rfl ?_
        refine yb_iadd (x := (9 : Int)) (y := l5) rfl ?_
        have r7 := h.1
        replace h := h.2
        refine yb_iald (j := ((9 : Int) + l5)) rfl xd_A147 (by decide) r7 (v := (d 147 ((9 : Int) + l5))) rfl ?_
        refine yb_aload rfl rfl ?_
        refine yb_get (v := .ref 147) rfl (by decide) (by decide) (rfl) rfl ?_
        refine yb_push (v := 9) rfl ?_
        refine yb_iload (x := l2) rfl rfl ?_
        refine yb_iadd (x := (9 : Int)) (y := l2) rfl ?_
        have r8 := h.1
        replace h := h.2
        refine yb_iald (j := ((9 : Int) + l2)) rfl xd_A147 (by decide) r8 (v := (d 147 ((9 : Int) + l2))) rfl ?_
        have r9 := h.1
        replace h := h.2
        have r10 := h.1
        replace h := h.2
        refine yb_callSi (As := [.int (xJ (d 147 ((9 : Int) + l5))), .int (xJ (d 147 ((9 : Int) + l2)))]) rfl rfl rfl rfl rfl rfl rfl rfl (by decide) (sp_208 (by omega) ⟨r9, r10⟩ ?_)
        show yB D xm_c277 _ L 48 [.ref 146, .double 0, .int (xJ l2), .int (xJ l3), .int (xJ l4), .int (xJ l5)] [.int (xJ (xp_apart (d 147 ((9 : Int) + l5)) (d 147 ((9 : Int) + l2))))] d e
        refine yb_push (v := 2) rfl ?_
        refine yb_icmp_le (x := (xp_apart (d 147 ((9 : Int) + l5)) (d 147 ((9 : Int) + l2)))) (y := (2 : Int)) rfl rfl (xp_apart_r (by omega) (by omega)) (by decide) (fun c => ?_) (fun c => ?_)
        · replace h := h.1 c
          refine yb_aload rfl rfl ?_
          refine yb_get (v := .ref 147) rfl (by decide) (by decide) (rfl) rfl ?_
          refine yb_iload (x := l2) rfl rfl ?_
          have r11 := h.1
          replace h := h.2
          refine yb_iald (j := l2) rfl xd_A147 (by decide) r11 (v := (d 147 l2)) rfl ?_
          refine yb_iload (x := l3) rfl rfl ?_
          have r12 := h.1
          replace h := h.2
          refine yb_icmp_ne (x := (d 147 l2)) (y := l3) rfl rfl r12 r6 (fun c => ?_) (fun c => ?_)
          · replace h := h.1 c
            refine yb_iload (x := l4) rfl rfl ?_
            refine yb_push (v := 1) rfl ?_
            refine yb_iload (x := l5) rfl rfl ?_
            refine yb_ishl (x := (1 : Int)) (y := l5) rfl ?_
            refine yb_ior (x := l4) (y := (xi_shl (1 : Int) l5)) rfl ?_
            refine yb_istore rfl rfl rfl ?_
            refine yb_iinc (x := l5) (n := 1) rfl rfl rfl rfl ?_
            refine yb_goto rfl rfl ?_
            exact h
          · replace h := h.2 c
            refine yb_aload rfl rfl ?_
            refine yb_get (v := .ref 148) rfl (by decide) (by decide) (rfl) rfl ?_
            refine yb_push (v := 9) rfl ?_
            refine yb_iload (x := l2) rfl rfl ?_
            refine yb_imul (x := (9 : Int)) (y := l2) rfl ?_
            refine yb_iload (x := l5) rfl rfl ?_
            refine yb_iadd (x := ((9 : Int) * l2)) (y := l5) rfl ?_
            have r13 := h.1
            replace h := h.2
            refine yb_iald (j := (((9 : Int) * l2) + l5)) rfl xd_A148 (by decide) r13 (v := (d 148 (((9 : Int) * l2) + l5))) rfl ?_
            have r14 := h.1
            replace h := h.2
            refine yb_if_ne (x := (d 148 (((9 : Int) * l2) + l5))) rfl rfl r14 (fun c => ?_) (fun c => ?_)
            · replace h := h.1 c
              refine yb_iload (x := l4) rfl rfl ?_
              refine yb_push (v := 1) rfl ?_
              refine yb_iload (x := l5) rfl rfl ?_
              refine yb_ishl (x := (1 : Int)) (y := l5) rfl ?_
              refine yb_ior (x := l4) (y := (xi_shl (1 : Int) l5)) rfl ?_
              refine yb_istore rfl rfl rfl ?_
              refine yb_iinc (x := l5) (n := 1) rfl rfl rfl rfl ?_
              refine yb_goto rfl rfl ?_
              exact h
            · replace h := h.2 c
              refine yb_goto rfl rfl ?_
              refine yb_iinc (x := l5) (n := 1) rfl rfl rfl rfl ?_
              refine yb_goto rfl rfl ?_
              exact h
        · replace h := h.2 c
          refine yb_goto rfl rfl ?_
          refine yb_iinc (x := l5) (n := 1) rfl rfl rfl rfl ?_
          refine yb_goto rfl rfl ?_
          exact h
theorem yk_278_0 {D L : Nat} {P : Int → xh_D → xd_E → Prop} {d : xh_D} {e : xd_E} {a1 : Int}   (hD : 1 ≤ D) (h : ((-2147483648 ≤ a1 ∧ a1 < 2147483648) ∧ ((-2147483648 ≤ ((d 146 (54 : Int)) - (1 : Int)) ∧ ((d 146 (54 : Int)) - (1 : Int)) < 2147483648) ∧ ((((0 : Int) ≤ a1 ∧ a1 ≤ ((d 146 (54 : Int)) - (1 : Int))) → yC D 277 L [.ref 146, .int (xJ a1)] (xs d 146 (8 : Int) (0 : Int)) e (fun x3 d4 e5 => P (xp_bc x3) (xs (xs (xs d4 146 (7 : Int) (0 : Int)) 151 (0 : Int) x3) 146 (7 : Int) ((0 : Int) + 1)) e5)) ∧ (¬ ((0 : Int) ≤ a1 ∧ a1 ≤ ((d 146 (54 : Int)) - (1 : Int))) → P (-1 : Int) (xs d 146 (8 : Int) (0 : Int)) e))))) : yB D xm_c278 (yQi L P) L 0 [.ref 146, .int (xJ a1), .double 0] [] d e := by
  refine yb_aload rfl rfl ?_
  refine yb_push (v := 0) rfl ?_
  refine yb_put (z := (0 : Int)) (k := 8) rfl rfl (by decide) (by decide) (rfl) (Nat.le_of_ble_eq_true rfl) rfl (rfl) ?_
  refine yb_iload (x := a1) rfl rfl ?_
  refine yb_push (v := 0) rfl ?_
  refine yb_aload rfl rfl ?_
  refine yb_get (v := .int (xJ (d 146 (54 : Int)))) rfl (by decide) (by decide) (rfl) rfl ?_
  refine yb_push (v := 1) rfl ?_
  refine yb_isub (x := (d 146 (54 : Int))) (y := (1 : Int)) rfl ?_
  have r1 := h.1
  replace h := h.2
  have r2 := h.1
  replace h := h.2
  refine yb_callSz (As := [.int (xJ a1), .int (xJ (0 : Int)), .int (xJ ((d 146 (54 : Int)) - (1 : Int)))]) rfl rfl rfl rfl rfl rfl rfl rfl (by decide) (sp_180 (by omega) ⟨r1, (by show (-2147483648 ≤ (0 : Int) ∧ (0 : Int) < 2147483648); decide), r2⟩ (fun c => ?_) (fun c => ?_))
  · replace h := h.1 c
    show yB D xm_c278 _ L 10 [.ref 146, .int (xJ a1), .double 0] [.int (xJ (1 : Int))] (xs d 146 (8 : Int) (0 : Int)) e
    refine yb_if_ne (x := (1 : Int)) rfl rfl (by decide) (fun _ => ?_) (fun c => absurd c (by decide))
    refine yb_aload rfl rfl ?_
    refine yb_iload (x := a1) rfl rfl ?_
    refine yb_callVi (As := [.int (xJ a1)]) (a := 146) rfl rfl rfl rfl rfl rfl rfl rfl (by decide) (by decide) (rfl) (by decide) (yC_mono h (fun x3 d4 e5 h => ?_))
    refine yb_istore rfl rfl rfl ?_
    refine yb_aload rfl rfl ?_
    refine yb_push (v := 0) rfl ?_
    refine yb_put (z := (0 : Int)) (k := 7) rfl rfl (by decide) (by decide) (rfl) (Nat.le_of_ble_eq_true rfl) rfl (rfl) ?_
    refine yb_aload rfl rfl ?_
    refine yb_iload (x := x3) rfl rfl ?_
    refine yb_callVv (As := [.int (xJ x3)]) (a := 146) rfl rfl rfl rfl rfl rfl rfl rfl (by decide) (by decide) (rfl) (by decide) (sp_183 (by omega) (by show (0 ≤ (0 : Int) ∧ (0 : Int) < 20); decide) ?_)
    show yB D xm_c278 _ L 23 [.ref 146, .int (xJ a1), .int (xJ x3)] [] (xs (xs (xs d4 146 (7 : Int) (0 : Int)) 151 (0 : Int) x3) 146 (7 : Int) ((0 : Int) + 1)) e5
    refine yb_iload (x := x3) rfl rfl ?_
    refine yb_callSi (As := [.int (xJ x3)]) rfl rfl rfl rfl rfl rfl rfl rfl (by decide) (sp_0 (by omega) ?_)
    show yB D xm_c278 _ L 25 [.ref 146, .int (xJ a1), .int (xJ x3)] [.int (xJ (xp_bc x3))] (xs (xs (xs d4 146 (7 : Int) (0 : Int)) 151 (0 : Int) x3) 146 (7 : Int) ((0 : Int) + 1)) e5
    exact yb_ret rfl h
  · replace h := h.2 c
    show yB D xm_c278 _ L 10 [.ref 146, .int (xJ a1), .double 0] [.int (xJ (0 : Int))] (xs d 146 (8 : Int) (0 : Int)) e
    refine yb_if_ne (x := (0 : Int)) rfl rfl (by decide) (fun c => absurd (by decide) c) (fun _ => ?_)
    refine yb_push (v := (-1)) rfl ?_
    exact yb_ret rfl h
theorem yk_279_0 {D L : Nat} {P : Int → xh_D → xd_E → Prop} {d : xh_D} {e : xd_E}    (h : (∀ v1, v1 = ((xi_shl (1 : Int) (d 146 (1 : Int))) - (1 : Int)) → yB D xm_c279 (yQi L P) L 12 [.ref 146, .int (xJ v1), .int (xJ (0 : Int)), .double 0, .double 0, .double 0] [] (xs d 146 (8 : Int) (0 : Int)) e)) : yB D xm_c279 (yQi L P) L 0 [.ref 146, .double 0, .double 0, .double 0, .double 0, .double 0] [] d e := by
  refine yb_aload rfl rfl ?_
  refine yb_push (v := 0) rfl ?_
  refine yb_put (z := (0 : Int)) (k := 8) rfl rfl (by decide) (by decide) (rfl) (Nat.le_of_ble_eq_true rfl) rfl (rfl) ?_
  refine yb_push (v := 1) rfl ?_
  refine yb_aload rfl rfl ?_
  refine yb_get (v := .int (xJ (d 146 (1 : Int)))) rfl (by decide) (by decide) (rfl) rfl ?_
  refine yb_ishl (x := (1 : Int)) (y := (d 146 (1 : Int))) rfl ?_
  refine yb_push (v := 1) rfl ?_
  refine yb_isub (x := (xi_shl (1 : Int) (d 146 (1 : Int)))) (y := (1 : Int)) rfl ?_
  replace h := h _ rfl
  refine yb_istore rfl rfl rfl ?_
  refine yb_push (v := 0) rfl ?_
  refine yb_istore rfl rfl rfl ?_
  exact h
theorem yk_279_12 {D L : Nat} {P : Int → xh_D → xd_E → Prop} {d : xh_D} {e : xd_E}  {l1 : Int} {l2 : Int}  (h : ((-2147483648 ≤ l2 ∧ l2 < 2147483648) ∧ ((-2147483648 ≤ (d 146 (54 : Int)) ∧ (d 146 (54 : Int)) < 2147483648) ∧ ((((d 146 (54 : Int)) ≤ l2) → yB D xm_c279 (yQi L P) L 28 [.ref 146, .int (xJ l1), .int (xJ (-1 : Int)), .int (xJ (0 : Int)), .double 0, .double 0] [] d e) ∧ ((¬ (d 146 (54 : Int)) ≤ l2) → yC D 277 L [.ref 146, .int (xJ l2)] d e (fun x3 d4 e5 => yB D xm_c279 (yQi L P) L 12 [.ref 146, .int (xJ (xi_and l1 x3)), .int (xJ (l2 + 1)), .double 0, .double 0, .double 0] [] d4 e5)))))) : yB D xm_c279 (yQi L P) L 12 [.ref 146, .int (xJ l1), .int (xJ l2), .double 0, .double 0, .double 0] [] d e := by
  refine yb_iload (x := l2) rfl rfl ?_
  refine yb_aload rfl rfl ?_
  refine yb_get (v := .int (xJ (d 146 (54 : Int)))) rfl (by decide) (by decide) (rfl) rfl ?_
  have r1 := h.1
  replace h := h.2
  have r2 := h.1
  replace h := h.2
  refine yb_icmp_ge (x := l2) (y := (d 146 (54 : Int))) rfl rfl r1 r2 (fun c => ?_) (fun c => ?_)
  · replace h := h.1 c
    refine yb_push (v := (-1)) rfl ?_
    refine yb_istore rfl rfl rfl ?_
    refine yb_push (v := 0) rfl ?_
    refine yb_istore rfl rfl rfl ?_
    exact h
  · replace h := h.2 c
    refine yb_iload (x := l1) rfl rfl ?_
    refine yb_aload rfl rfl ?_
    refine yb_iload (x := l2) rfl rfl ?_
    refine yb_callVi (As := [.int (xJ l2)]) (a := 146) rfl rfl rfl rfl rfl rfl rfl rfl (by decide) (by decide) (rfl) (by show (1 : Nat) ≤ 8; decide) (yC_mono h (fun x3 d4 e5 h => ?_))
    refine yb_iand (x := l1) (y := x3) rfl ?_
    refine yb_istore rfl rfl rfl ?_
    refine yb_iinc (x := l2) (n := 1) rfl rfl rfl rfl ?_
    refine yb_goto rfl rfl ?_
    exact h
theorem yk_279_28 {D L : Nat} {P : Int → xh_D → xd_E → Prop} {d : xh_D} {e : xd_E}  {l1 : Int} {l2 : Int} {l3 : Int}  (hD : 1 ≤ D) (h : ((-2147483648 ≤ l3 ∧ l3 < 2147483648) ∧ ((((xi_shl (1 : Int) (d 146 (1 : Int))) ≤ l3) → ((-2147483648 ≤ l2 ∧ l2 < 2147483648) ∧ (((¬ l2 = (-1 : Int)) → (((¬ l2 = (-1 : Int)) → P l1 (xs (xs (xs (xs (xs d 146 (7 : Int) (0 : Int)) 151 (0 : Int) (xp_bc l2)) 146 (7 : Int) ((0 : Int) + 1)) 151 ((0 : Int) + 1) l2) 146 (7 : Int) (((0 : Int) + 1) + 1)) e) ∧ ((l2 = (-1 : Int)) → P l1 (xs (xs (xs (xs (xs d 146 (7 : Int) (0 : Int)) 151 (0 : Int) (xp_bc l2)) 146 (7 : Int) ((0 : Int) + 1)) 151 ((0 : Int) + 1) (0 : Int)) 146 (7 : Int) (((0 : Int) + 1) + 1)) e))) ∧ ((l2 = (-1 : Int)) → (((¬ l2 = (-1 : Int)) → P l1 (xs (xs (xs (xs (xs d 146 (7 : Int) (0 : Int)) 151 (0 : Int) (-1 : Int)) 146 (7 : Int) ((0 : Int) + 1)) 151 ((0 : Int) + 1) l2) 146 (7 : Int) (((0 : Int) + 1) + 1)) e) ∧ ((l2 = (-1 : Int)) → P l1 (xs (xs (xs (xs (xs d 146 (7 : Int) (0 : Int)) 151 (0 : Int) (-1 : Int)) 146 (7 : Int) ((0 : Int) + 1)) 151 ((0 : Int) + 1) (0 : Int)) 146 (7 : Int) (((0 : Int) + 1) + 1)) e)))))) ∧ ((¬ (xi_shl (1 : Int) (d 146 (1 : Int))) ≤ l3) → ((-2147483648 ≤ l2 ∧ l2 < 2147483648) ∧ (((l2 = (-1 : Int)) → yB D xm_c279 (yQi L P) L 47 [.ref 146, .int (xJ l1), .int (xJ l2), .int (xJ l3), .int (xJ (1 : Int)), .int (xJ (0 : Int))] [] d e) ∧ ((¬ l2 = (-1 : Int)) → ((((xp_bc l3) < (xp_bc l2)) → yB D xm_c279 (yQi L P) L 47 [.ref 146, .int (xJ l1), .int (xJ l2), .int (xJ l3), .int (xJ (1 : Int)), .int (xJ (0 : Int))] [] d e) ∧ ((¬ (xp_bc l3) < (xp_bc l2)) → yB D xm_c279 (yQi L P) L 28 [.ref 146, .int (xJ l1), .int (xJ l2), .int (xJ (l3 + 1)), .double 0, .double 0] [] d e))))))))) : yB D xm_c279 (yQi L P) L 28 [.ref 146, .int (xJ l1), .int (xJ l2), .int (xJ l3), .double 0, .double 0] [] d e := by
  refine yb_iload (x := l3) rfl rfl ?_
  refine yb_push (v := 1) rfl ?_
  refine yb_aload rfl rfl ?_
  refine yb_get (v := .int (xJ (d 146 (1 : Int)))) rfl (by decide) (by decide) (rfl) rfl ?_
  refine yb_ishl (x := (1 : Int)) (y := (d 146 (1 : Int))) rfl ?_
  have r1 := h.1
  replace h := h.2
  refine yb_icmp_ge (x := l3) (y := (xi_shl (1 : Int) (d 146 (1 : Int)))) rfl rfl r1 (xJ_rng _) (fun c => ?_) (fun c => ?_)
  · replace h := h.1 c
    refine yb_aload rfl rfl ?_
    refine yb_push (v := 0) rfl ?_
    refine yb_put (z := (0 : Int)) (k := 7) rfl rfl (by decide) (by decide) (rfl) (Nat.le_of_ble_eq_true rfl) rfl (rfl) ?_
    refine yb_aload rfl rfl ?_
    refine yb_iload (x := l2) rfl rfl ?_
    refine yb_push (v := (-1)) rfl ?_
    have r2 := h.1
    replace h := h.2
    refine yb_icmp_ne (x := l2) (y := (-1 : Int)) rfl rfl r2 (by decide) (fun c => ?_) (fun c => ?_)
    · replace h := h.1 c
      refine yb_iload (x := l2) rfl rfl ?_
      refine yb_callSi (As := [.int (xJ l2)]) rfl rfl rfl rfl rfl rfl rfl rfl (by show (1 : Nat) ≤ 8; decide) (sp_0 (by omega) ?_)
      show yB D xm_c279 _ L 82 [.ref 146, .int (xJ l1), .int (xJ l2), .int (xJ l3), .double 0, .double 0] [.int (xJ (xp_bc l2)), .ref 146] (xs d 146 (7 : Int) (0 : Int)) e
      refine yb_callVv (As := [.int (xJ (xp_bc l2))]) (a := 146) rfl rfl rfl rfl rfl rfl rfl rfl (by decide) (by decide) (rfl) (by decide) (sp_183 (by omega) (by show (0 ≤ (0 : Int) ∧ (0 : Int) < 20); decide) ?_)
      show yB D xm_c279 _ L 83 [.ref 146, .int (xJ l1), .int (xJ l2), .int (xJ l3), .double 0, .double 0] [] (xs (xs (xs d 146 (7 : Int) (0 : Int)) 151 (0 : Int) (xp_bc l2)) 146 (7 : Int) ((0 : Int) + 1)) e
      refine yb_aload rfl rfl ?_
      refine yb_iload (x := l2) rfl rfl ?_
      refine yb_push (v := (-1)) rfl ?_
      refine yb_icmp_ne (x := l2) (y := (-1 : Int)) rfl rfl r2 (by decide) (fun c => ?_) (fun c => ?_)
      · replace h := h.1 c
        refine yb_iload (x := l2) rfl rfl ?_
        refine yb_callVv (As := [.int (xJ l2)]) (a := 146) rfl rfl rfl rfl rfl rfl rfl rfl (by decide) (by decide) (rfl) (by decide) (sp_183 (by omega) (by show (0 ≤ ((0 : Int) + 1) ∧ ((0 : Int) + 1) < 20); decide) ?_)
        show yB D xm_c279 _ L 91 [.ref 146, .int (xJ l1), .int (xJ l2), .int (xJ l3), .double 0, .double 0] [] (xs (xs (xs (xs (xs d 146 (7 : Int) (0 : Int)) 151 (0 : Int) (xp_bc l2)) 146 (7 : Int) ((0 : Int) + 1)) 151 ((0 : Int) + 1) l2) 146 (7 : Int) (((0 : Int) + 1) + 1)) e
        refine yb_iload (x := l1) rfl rfl ?_
        exact yb_ret rfl h
      · replace h := h.2 c
        refine yb_push (v := 0) rfl ?_
        refine yb_goto rfl rfl ?_
        refine yb_callVv (As := [.int (xJ (0 : Int))]) (a := 146) rfl rfl rfl rfl rfl rfl rfl rfl (by decide) (by decide) (rfl) (by decide) (sp_183 (by omega) (by show (0 ≤ ((0 : Int) + 1) ∧ ((0 : Int) + 1) < 20); decide) ?_)
        show yB D xm_c279 _ L 91 [.ref 146, .int (xJ l1), .int (xJ l2), .int (xJ l3), .double 0, .double 0] [] (xs (xs (xs (xs (xs d 146 (7 : Int) (0 : Int)) 151 (0 : Int) (xp_bc l2)) 146 (7 : Int) ((0 : Int) + 1)) 151 ((0 : Int) + 1) (0 : Int)) 146 (7 : Int) (((0 : Int) + 1) + 1)) e
        refine yb_iload (x := l1) rfl rfl ?_
        exact yb_ret rfl h
    · replace h := h.2 c
      refine yb_push (v := (-1)) rfl ?_
      refine yb_goto rfl rfl ?_
      refine yb_callVv (As := [.int (xJ (-1 : Int))]) (a := 146) rfl rfl rfl rfl rfl rfl rfl rfl (by decide) (by decide) (rfl) (by decide) (sp_183 (by omega) (by show (0 ≤ (0 : Int) ∧ (0 : Int) < 20); decide) ?_)
      show yB D xm_c279 _ L 83 [.ref 146, .int (xJ l1), .int (xJ l2), .int (xJ l3), .double 0, .double 0] [] (xs (xs (xs d 146 (7 : Int) (0 : Int)) 151 (0 : Int) (-1 : Int)) 146 (7 : Int) ((0 : Int) + 1)) e
      refine yb_aload rfl rfl ?_
      refine yb_iload (x := l2) rfl rfl ?_
      refine yb_push (v := (-1)) rfl ?_
      refine yb_icmp_ne (x := l2) (y := (-1 : Int)) rfl rfl r2 (by decide) (fun c => ?_) (fun c => ?_)
      · replace h := h.1 c
        refine yb_iload (x := l2) rfl rfl ?_
        refine yb_callVv (As := [.int (xJ l2)]) (a := 146) rfl rfl rfl rfl rfl rfl rfl rfl (by decide) (by decide) (rfl) (by decide) (sp_183 (by omega) (by show (0 ≤ ((0 : Int) + 1) ∧ ((0 : Int) + 1) < 20); decide) ?_)
        show yB D xm_c279 _ L 91 [.ref 146, .int (xJ l1), .int (xJ l2), .int (xJ l3), .double 0, .double 0] [] (xs (xs (xs (xs (xs d 146 (7 : Int) (0 : Int)) 151 (0 : Int) (-1 : Int)) 146 (7 : Int) ((0 : Int) + 1)) 151 ((0 : Int) + 1) l2) 146 (7 : Int) (((0 : Int) + 1) + 1)) e
        refine yb_iload (x := l1) rfl rfl ?_
        exact yb_ret rfl h
      · replace h := h.2 c
        refine yb_push (v := 0) rfl ?_
        refine yb_goto rfl rfl ?_
        refine yb_callVv (As := [.int (xJ (0 : Int))]) (a := 146) rfl rfl rfl rfl rfl rfl rfl rfl (by decide) (by decide) (rfl) (by decide) (sp_183 (by omega) (by show (0 ≤ ((0 : Int) + 1) ∧ ((0 : Int) + 1) < 20); decide) ?_)
        show yB D xm_c279 _ L 91 [.ref 146, .int (xJ l1), .int (xJ l2), .int (xJ l3), .double 0, .double 0] [] (xs (xs (xs (xs (xs d 146 (7 : Int) (0 : Int)) 151 (0 : Int) (-1 : Int)) 146 (7 : Int) ((0 : Int) + 1)) 151 ((0 : Int) + 1) (0 : Int)) 146 (7 : Int) (((0 : Int) + 1) + 1)) e
        refine yb_iload (x := l1) rfl rfl ?_
        exact yb_ret rfl h
  · replace h := h.2 c
    refine yb_iload (x := l2) rfl rfl ?_
    refine yb_push (v := (-1)) rfl ?_
    have r3 := h.1
    replace h := h.2
    refine yb_icmp_eq (x := l2) (y := (-1 : Int)) rfl rfl r3 (by decide) (fun c => ?_) (fun c => ?_)
    · replace h := h.1 c
      refine yb_push (v := 1) rfl ?_
      refine yb_istore rfl rfl rfl ?_
      refine yb_push (v := 0) rfl ?_
      refine yb_istore rfl rfl rfl ?_
      exact h
    · replace h := h.2 c
      refine yb_iload (x := l3) rfl rfl ?_
      refine yb_callSi (As := [.int (xJ l3)]) rfl rfl rfl rfl rfl rfl rfl rfl (by decide) (sp_0 (by omega) ?_)
      show yB D xm_c279 _ L 39 [.ref 146, .int (xJ l1), .int (xJ l2), .int (xJ l3), .double 0, .double 0] [.int (xJ (xp_bc l3))] d e
      refine yb_iload (x := l2) rfl rfl ?_
      refine yb_callSi (As := [.int (xJ l2)]) rfl rfl rfl rfl rfl rfl rfl rfl (by show (1 : Nat) ≤ 8; decide) (sp_0 (by omega) ?_)
      show yB D xm_c279 _ L 41 [.ref 146, .int (xJ l1), .int (xJ l2), .int (xJ l3), .double 0, .double 0] [.int (xJ (xp_bc l2)), .int (xJ (xp_bc l3))] d e
      refine yb_icmp_lt (x := (xp_bc l3)) (y := (xp_bc l2)) rfl rfl (xJ_rng _) (xJ_rng _) (fun c => ?_) (fun c => ?_)
      · replace h := h.1 c
        refine yb_push (v := 1) rfl ?_
        refine yb_istore rfl rfl rfl ?_
        refine yb_push (v := 0) rfl ?_
        refine yb_istore rfl rfl rfl ?_
        exact h
      · replace h := h.2 c
        refine yb_goto rfl rfl ?_
        refine yb_iinc (x := l3) (n := 1) rfl rfl rfl rfl ?_
        refine yb_goto rfl rfl ?_
        exact h
theorem yk_279_47 {D L : Nat} {P : Int → xh_D → xd_E → Prop} {d : xh_D} {e : xd_E}  {l1 : Int} {l2 : Int} {l3 : Int} {l4 : Int} {l5 : Int}  (h : ((-2147483648 ≤ l5 ∧ l5 < 2147483648) ∧ ((-2147483648 ≤ (d 146 (54 : Int)) ∧ (d 146 (54 : Int)) < 2147483648) ∧ ((((d 146 (54 : Int)) ≤ l5) → ((-2147483648 ≤ l4 ∧ l4 < 2147483648) ∧ (((l4 = 0) → yB D xm_c279 (yQi L P) L 28 [.ref 146, .int (xJ l1), .int (xJ l2), .int (xJ (l3 + 1)), .double 0, .double 0] [] d e) ∧ ((¬ l4 = 0) → yB D xm_c279 (yQi L P) L 28 [.ref 146, .int (xJ l1), .int (xJ l3), .int (xJ (l3 + 1)), .double 0, .double 0] [] d e)))) ∧ ((¬ (d 146 (54 : Int)) ≤ l5) → ((-2147483648 ≤ l4 ∧ l4 < 2147483648) ∧ (((l4 = 0) → yB D xm_c279 (yQi L P) L 47 [.ref 146, .int (xJ l1), .int (xJ l2), .int (xJ l3), .int (xJ (0 : Int)), .int (xJ (l5 + 1))] [] d e) ∧ ((¬ l4 = 0) → yC D 277 L [.ref 146, .int (xJ l5)] d e (fun x5 d6 e7 => ((((xi_and x5 l3) = 0) → yB D xm_c279 (yQi L P) L 47 [.ref 146, .int (xJ l1), .int (xJ l2), .int (xJ l3), .int (xJ (0 : Int)), .int (xJ (l5 + 1))] [] d6 e7) ∧ ((¬ (xi_and x5 l3) = 0) → yB D xm_c279 (yQi L P) L 47 [.ref 146, .int (xJ l1), .int (xJ l2), .int (xJ l3), .int (xJ (1 : Int)), .int (xJ (l5 + 1))] [] d6 e7))))))))))) : yB D xm_c279 (yQi L P) L 47 [.ref 146, .int (xJ l1), .int (xJ l2), .int (xJ l3), .int (xJ l4), .int (xJ l5)] [] d e := by
  refine yb_iload (x := l5) rfl rfl ?_
  refine yb_aload rfl rfl ?_
  refine yb_get (v := .int (xJ (d 146 (54 : Int)))) rfl (by decide) (by decide) (rfl) rfl ?_
  have r1 := h.1
  replace h := h.2
  have r2 := h.1
  replace h := h.2
  refine yb_icmp_ge (x := l5) (y := (d 146 (54 : Int))) rfl rfl r1 r2 (fun c => ?_) (fun c => ?_)
  · replace h := h.1 c
    refine yb_iload (x := l4) rfl rfl ?_
    have r3 := h.1
    replace h := h.2
    refine yb_if_eq (x := l4) rfl rfl r3 (fun c => ?_) (fun c => ?_)
    · replace h := h.1 c
      refine yb_iinc (x := l3) (n := 1) rfl rfl rfl rfl ?_
      refine yb_goto rfl rfl ?_
      refine yb_forget (dl := [.ref 146, .int (xJ l1), .int (xJ l2), .int (xJ (l3 + 1)), .double 0, .double 0]) ⟨Or.inl rfl, ⟨Or.inl rfl, ⟨Or.inl rfl, ⟨Or.inl rfl, ⟨Or.inr ⟨rfl, rfl⟩, ⟨Or.inr ⟨rfl, rfl⟩, trivial⟩⟩⟩⟩⟩⟩ ?_
      exact h
    · replace h := h.2 c
      refine yb_iload (x := l3) rfl rfl ?_
      refine yb_istore rfl rfl rfl ?_
      refine yb_iinc (x := l3) (n := 1) rfl rfl rfl rfl ?_
      refine yb_goto rfl rfl ?_
      refine yb_forget (dl := [.ref 146, .int (xJ l1), .int (xJ l3), .int (xJ (l3 + 1)), .double 0, .double 0]) ⟨Or.inl rfl, ⟨Or.inl rfl, ⟨Or.inl rfl, ⟨Or.inl rfl, ⟨Or.inr ⟨rfl, rfl⟩, ⟨Or.inr ⟨rfl, rfl⟩, trivial⟩⟩⟩⟩⟩⟩ ?_
      exact h
  · replace h := h.2 c
    refine yb_iload (x := l4) rfl rfl ?_
    have r4 := h.1
    replace h := h.2
    refine yb_if_eq (x := l4) rfl rfl r4 (fun c => ?_) (fun c => ?_)
    · replace h := h.1 c
      refine yb_push (v := 0) rfl ?_
      refine yb_istore rfl rfl rfl ?_
      refine yb_iinc (x := l5) (n := 1) rfl rfl rfl rfl ?_
      refine yb_goto rfl rfl ?_
      exact h
    · replace h := h.2 c
      refine yb_aload rfl rfl ?_
      refine yb_iload (x := l5) rfl rfl ?_
      refine yb_callVi (As := [.int (xJ l5)]) (a := 146) rfl rfl rfl rfl rfl rfl rfl rfl (by decide) (by decide) (rfl) (by decide) (yC_mono h (fun x5 d6 e7 h => ?_))
      refine yb_iload (x := l3) rfl rfl ?_
      refine yb_iand (x := x5) (y := l3) rfl ?_
      refine yb_if_eq (x := (xi_and x5 l3)) rfl rfl (xJ_rng _) (fun c => ?_) (fun c => ?_)
      · replace h := h.1 c
        refine yb_push (v := 0) rfl ?_
        refine yb_istore rfl rfl rfl ?_
        refine yb_iinc (x := l5) (n := 1) rfl rfl rfl rfl ?_
        refine yb_goto rfl rfl ?_
        exact h
      · replace h := h.2 c
        refine yb_push (v := 1) rfl ?_
        refine yb_goto rfl rfl ?_
        refine yb_istore rfl rfl rfl ?_
        refine yb_iinc (x := l5) (n := 1) rfl rfl rfl rfl ?_
        refine yb_goto rfl rfl ?_
        exact h
theorem yk_280_0 {D L : Nat} {P : Int → xh_D → xd_E → Prop} {d : xh_D} {e : xd_E} {a1 : Int} {a2 : Int}   (h : yB D xm_c280 (yQi L P) L 8 [.ref 146, .int (xJ a1), .int (xJ a2), .int (xJ (0 : Int))] [] (xs (xs d 146 (55 : Int) (0 : Int)) 146 (56 : Int) (0 : Int)) e) : yB D xm_c280 (yQi L P) L 0 [.ref 146, .int (xJ a1), .int (xJ a2), .double 0] [] d e := by
  refine yb_aload rfl rfl ?_
  refine yb_push (v := 0) rfl ?_
  refine yb_put (z := (0 : Int)) (k := 55) rfl rfl (by decide) (by decide) (rfl) (Nat.le_of_ble_eq_true rfl) rfl (rfl) ?_
  refine yb_aload rfl rfl ?_
  refine yb_push (v := 0) rfl ?_
  refine yb_put (z := (0 : Int)) (k := 56) rfl rfl (by decide) (by decide) (rfl) (Nat.le_of_ble_eq_true rfl) rfl (rfl) ?_
  refine yb_push (v := 0) rfl ?_
  refine yb_istore rfl rfl rfl ?_
  exact h
theorem yk_280_8 {D L : Nat} {P : Int → xh_D → xd_E → Prop} {d : xh_D} {e : xd_E}  {l1 : Int} {l2 : Int} {l3 : Int}  (hD : 2 ≤ D) (h : ((-2147483648 ≤ l3 ∧ l3 < 2147483648) ∧ ((-2147483648 ≤ (d 146 (1 : Int)) ∧ (d 146 (1 : Int)) < 2147483648) ∧ ((((d 146 (1 : Int)) ≤ l3) → P (((2 : Int) * (xp_bc (d 146 (55 : Int)))) + (xp_bc (d 146 (56 : Int)))) d e) ∧ ((¬ (d 146 (1 : Int)) ≤ l3) → ((0 ≤ ((9 : Int) + l3) ∧ ((9 : Int) + l3) < 353) ∧ ((0 ≤ (d 147 ((9 : Int) + l3)) ∧ (d 147 ((9 : Int) + l3)) < 9) ∧ ((0 ≤ l1 ∧ l1 < 9) ∧ ((((xp_apart (d 147 ((9 : Int) + l3)) l1) ≤ (1 : Int)) → ((0 ≤ l3 ∧ l3 < 353) ∧ ((0 ≤ l2 ∧ l2 < 2147483648) ∧ ((-2147483648 ≤ (d 147 l3) ∧ (d 147 l3) < 2147483648) ∧ (((¬ (d 147 l3) = (l2 % (9 : Int))) → yB D xm_c280 (yQi L P) L 8 [.ref 146, .int (xJ l1), .int (xJ l2), .int (xJ (l3 + 1))] [] (xs d 146 (55 : Int) (xi_or (d 146 (55 : Int)) (xi_shl (1 : Int) l3))) e) ∧ (((d 147 l3) = (l2 % (9 : Int))) → yB D xm_c280 (yQi L P) L 8 [.ref 146, .int (xJ l1), .int (xJ l2), .int (xJ (l3 + 1))] [] (xs d 146 (56 : Int) (xi_or (d 146 (56 : Int)) (xi_shl (1 : Int) l3))) e)))))) ∧ ((¬ (xp_apart (d 147 ((9 : Int) + l3)) l1) ≤ (1 : Int)) → yB D xm_c280 (yQi L P) L 8 [.ref 146, .int (xJ l1), .int (xJ l2), .int (xJ (l3 + 1))] [] d e)))))))))) : yB D xm_c280 (yQi L P) L 8 [.ref 146, .int (xJ l1), .int (xJ l2), .int (xJ l3)] [] d e := by
  refine yb_iload (x := l3) rfl rfl ?_
  refine yb_aload rfl rfl ?_
  refine yb_get (v := .int (xJ (d 146 (1 : Int)))) rfl (by decide) (by decide) (rfl) rfl ?_
  have r1 := h.1
  replace h := h.2
  have r2 := h.1
  replace h := h.2
  refine yb_icmp_ge (x := l3) (y := (d 146 (1 : Int))) rfl rfl r1 r2 (fun c => ?_) (fun c => ?_)
  · replace h := h.1 c
    refine yb_push (v := 2) rfl ?_
    refine yb_aload rfl rfl ?_
    refine yb_get (v := .int (xJ (d 146 (55 : Int)))) rfl (by decide) (by decide) (rfl) rfl ?_
    refine yb_callSi (As := [.int (xJ (d 146 (55 : Int)))]) rfl rfl rfl rfl rfl rfl rfl rfl (by show (1 : Nat) ≤ 8; decide) (sp_0 (by omega) ?_)
    show yB D xm_c280 _ L 54 [.ref 146, .int (xJ l1), .int (xJ l2), .int (xJ l3)] [.int (xJ (xp_bc (d 146 (55 : Int)))), .int (xJ (2 : Int))] d e
    refine yb_imul (x := (2 : Int)) (y := (xp_bc (d 146 (55 : Int)))) rfl ?_
    refine yb_aload rfl rfl ?_
    refine yb_get (v := .int (xJ (d 146 (56 : Int)))) rfl (by decide) (by decide) (rfl) rfl ?_
    refine yb_callSi (As := [.int (xJ (d 146 (56 : Int)))]) rfl rfl rfl rfl rfl rfl rfl rfl (by show (1 : Nat) ≤ 8; decide) (sp_0 (by omega) ?_)
    show yB D xm_c280 _ L 58 [.ref 146, .int (xJ l1), .int (xJ l2), .int (xJ l3)] [.int (xJ (xp_bc (d 146 (56 : Int)))), .int (xJ ((2 : Int) * (xp_bc (d 146 (55 : Int)))))] d e
    refine yb_iadd (x := ((2 : Int) * (xp_bc (d 146 (55 : Int))))) (y := (xp_bc (d 146 (56 : Int)))) rfl ?_
    exact yb_ret rfl h
  · replace h := h.2 c
    refine yb_aload rfl rfl ?_
    refine yb_get (v := .ref 147) rfl (by decide) (by decide) (rfl) rfl ?_
    refine yb_push (v := 9) rfl ?_
    refine yb_iload (x := l3) rfl rfl ?_
    refine yb_iadd (x := (9 : Int)) (y := l3) rfl ?_
    have r3 := h.1
    replace h := h.2
    refine yb_iald (j := ((9 : Int) + l3)) rfl xd_A147 (by decide) r3 (v := (d 147 ((9 : Int) + l3))) rfl ?_
    refine yb_iload (x := l1) rfl rfl ?_
    have r4 := h.1
    replace h := h.2
    have r5 := h.1
    replace h := h.2
    refine yb_callSi (As := [.int (xJ (d 147 ((9 : Int) + l3))), .int (xJ l1)]) rfl rfl rfl rfl rfl rfl rfl rfl (by decide) (sp_208 (by omega) ⟨r4, r5⟩ ?_)
    show yB D xm_c280 _ L 20 [.ref 146, .int (xJ l1), .int (xJ l2), .int (xJ l3)] [.int (xJ (xp_apart (d 147 ((9 : Int) + l3)) l1))] d e
    refine yb_push (v := 1) rfl ?_
    refine yb_icmp_le (x := (xp_apart (d 147 ((9 : Int) + l3)) l1)) (y := (1 : Int)) rfl rfl (xp_apart_r (by omega) (by omega)) (by decide) (fun c => ?_) (fun c => ?_)
    · replace h := h.1 c
      refine yb_aload rfl rfl ?_
      refine yb_get (v := .ref 147) rfl (by decide) (by decide) (rfl) rfl ?_
      refine yb_iload (x := l3) rfl rfl ?_
      have r6 := h.1
      replace h := h.2
      refine yb_iald (j := l3) rfl xd_A147 (by decide) r6 (v := (d 147 l3)) rfl ?_
      refine yb_iload (x := l2) rfl rfl ?_
      refine yb_push (v := 9) rfl ?_
      have r7 := h.1
      replace h := h.2
      refine yb_irem (x := l2) (y := (9 : Int)) rfl r7 (by decide) ?_
      have r8 := h.1
      replace h := h.2
      refine yb_icmp_ne (x := (d 147 l3)) (y := (l2 % (9 : Int))) rfl rfl r8 (by omega) (fun c => ?_) (fun c => ?_)
      · replace h := h.1 c
        refine yb_aload rfl rfl ?_
        refine yb_dup rfl rfl ?_
        refine yb_get (v := .int (xJ (d 146 (55 : Int)))) rfl (by decide) (by decide) (rfl) rfl ?_
        refine yb_push (v := 1) rfl ?_
        refine yb_iload (x := l3) rfl rfl ?_
        refine yb_ishl (x := (1 : Int)) (y := l3) rfl ?_
        refine yb_ior (x := (d 146 (55 : Int))) (y := (xi_shl (1 : Int) l3)) rfl ?_
        refine yb_put (z := (xi_or (d 146 (55 : Int)) (xi_shl (1 : Int) l3))) (k := 55) rfl rfl (by decide) (by decide) (rfl) (Nat.le_of_ble_eq_true rfl) rfl (rfl) ?_
        refine yb_iinc (x := l3) (n := 1) rfl rfl rfl rfl ?_
        refine yb_goto rfl rfl ?_
        exact h
      · replace h := h.2 c
        refine yb_aload rfl rfl ?_
        refine yb_dup rfl rfl ?_
        refine yb_get (v := .int (xJ (d 146 (56 : Int)))) rfl (by decide) (by decide) (rfl) rfl ?_
        refine yb_push (v := 1) rfl ?_
        refine yb_iload (x := l3) rfl rfl ?_
        refine yb_ishl (x := (1 : Int)) (y := l3) rfl ?_
        refine yb_ior (x := (d 146 (56 : Int))) (y := (xi_shl (1 : Int) l3)) rfl ?_
        refine yb_put (z := (xi_or (d 146 (56 : Int)) (xi_shl (1 : Int) l3))) (k := 56) rfl rfl (by decide) (by decide) (rfl) (Nat.le_of_ble_eq_true rfl) rfl (rfl) ?_
        refine yb_goto rfl rfl ?_
        refine yb_iinc (x := l3) (n := 1) rfl rfl rfl rfl ?_
        refine yb_goto rfl rfl ?_
        exact h
    · replace h := h.2 c
      refine yb_goto rfl rfl ?_
      refine yb_iinc (x := l3) (n := 1) rfl rfl rfl rfl ?_
      refine yb_goto rfl rfl ?_
      exact h
theorem yk_281_0 {D L : Nat} {P : Int → xh_D → xd_E → Prop} {d : xh_D} {e : xd_E} {a1 : Int} {a2 : Int}   (hD : 1 ≤ D) (h : ((-2147483648 ≤ a1 ∧ a1 < 2147483648) ∧ ((((0 : Int) ≤ a1 ∧ a1 ≤ (8 : Int)) → ((-2147483648 ≤ a2 ∧ a2 < 2147483648) ∧ ((((0 : Int) ≤ a2 ∧ a2 ≤ (999 : Int)) → yC D 280 L [.ref 146, .int (xJ a1), .int (xJ a2)] (xs d 146 (8 : Int) (0 : Int)) e (fun x3 d4 e5 => P x3 (xs (xs (xs (xs (xs d4 146 (7 : Int) (0 : Int)) 151 (0 : Int) (d4 146 (55 : Int))) 146 (7 : Int) ((0 : Int) + 1)) 151 ((0 : Int) + 1) (d4 146 (56 : Int))) 146 (7 : Int) (((0 : Int) + 1) + 1)) e5)) ∧ (¬ ((0 : Int) ≤ a2 ∧ a2 ≤ (999 : Int)) → P (-1 : Int) (xs d 146 (8 : Int) (0 : Int)) e)))) ∧ (¬ ((0 : Int) ≤ a1 ∧ a1 ≤ (8 : Int)) → P (-1 : Int) (xs d 146 (8 : Int) (0 : Int)) e)))) : yB D xm_c281 (yQi L P) L 0 [.ref 146, .int (xJ a1), .int (xJ a2), .double 0] [] d e := by
  refine yb_aload rfl rfl ?_
  refine yb_push (v := 0) rfl ?_
  refine yb_put (z := (0 : Int)) (k := 8) rfl rfl (by decide) (by decide) (rfl) (Nat.le_of_ble_eq_true rfl) rfl (rfl) ?_
  refine yb_iload (x := a1) rfl rfl ?_
  refine yb_push (v := 0) rfl ?_
  refine yb_push (v := 8) rfl ?_
  have r1 := h.1
  replace h := h.2
  refine yb_callSz (As := [.int (xJ a1), .int (xJ (0 : Int)), .int (xJ (8 : Int))]) rfl rfl rfl rfl rfl rfl rfl rfl (by decide) (sp_180 (by omega) ⟨r1, (by show (-2147483648 ≤ (0 : Int) ∧ (0 : Int) < 2147483648); decide), (by show (-2147483648 ≤ (8 : Int) ∧ (8 : Int) < 2147483648); decide)⟩ (fun c => ?_) (fun c => ?_))
  · replace h := h.1 c
    show yB D xm_c281 _ L 7 [.ref 146, .int (xJ a1), .int (xJ a2), .double 0] [.int (xJ (1 : Int))] (xs d 146 (8 : Int) (0 : Int)) e
    refine yb_if_eq (x := (1 : Int)) rfl rfl (by decide) (fun c => absurd c (by decide)) (fun _ => ?_)
    refine yb_iload (x := a2) rfl rfl ?_
    refine yb_push (v := 0) rfl ?_
    refine yb_push (v := 999) rfl ?_
    have r2 := h.1
    replace h := h.2
    refine yb_callSz (As := [.int (xJ a2), .int (xJ (0 : Int)), .int (xJ (999 : Int))]) rfl rfl rfl rfl rfl rfl rfl rfl (by decide) (sp_180 (by omega) ⟨r2, (by show (-2147483648 ≤ (0 : Int) ∧ (0 : Int) < 2147483648); decide), (by show (-2147483648 ≤ (999 : Int) ∧ (999 : Int) < 2147483648); decide)⟩ (fun c => ?_) (fun c => ?_))
    · replace h := h.1 c
      show yB D xm_c281 _ L 12 [.ref 146, .int (xJ a1), .int (xJ a2), .double 0] [.int (xJ (1 : Int))] (xs d 146 (8 : Int) (0 : Int)) e
      refine yb_if_ne (x := (1 : Int)) rfl rfl (by decide) (fun _ => ?_) (fun c => absurd c (by decide))
      refine yb_aload rfl rfl ?_
      refine yb_iload (x := a1) rfl rfl ?_
      refine yb_iload (x := a2) rfl rfl ?_
      refine yb_callVi (As := [.int (xJ a1), .int (xJ a2)]) (a := 146) rfl rfl rfl rfl rfl rfl rfl rfl (by decide) (by decide) (rfl) (by decide) (yC_mono h (fun x3 d4 e5 h => ?_))
      refine yb_istore rfl rfl rfl ?_
      refine yb_aload rfl rfl ?_
      refine yb_push (v := 0) rfl ?_
      refine yb_put (z := (0 : Int)) (k := 7) rfl rfl (by decide) (by decide) (rfl) (Nat.le_of_ble_eq_true rfl) rfl (rfl) ?_
      refine yb_aload rfl rfl ?_
      refine yb_aload rfl rfl ?_
      refine yb_get (v := .int (xJ (d4 146 (55 : Int)))) rfl (by decide) (by decide) (rfl) rfl ?_
      refine yb_callVv (As := [.int (xJ (d4 146 (55 : Int)))]) (a := 146) rfl rfl rfl rfl rfl rfl rfl rfl (by decide) (by decide) (rfl) (by decide) (sp_183 (by omega) (by show (0 ≤ (0 : Int) ∧ (0 : Int) < 20); decide) ?_)
      show yB D xm_c281 _ L 27 [.ref 146, .int (xJ a1), .int (xJ a2), .int (xJ x3)] [] (xs (xs (xs d4 146 (7 : Int) (0 : Int)) 151 (0 : Int) (d4 146 (55 : Int))) 146 (7 : Int) ((0 : Int) + 1)) e5
      refine yb_aload rfl rfl ?_
      refine yb_aload rfl rfl ?_
      refine yb_get (v := .int (xJ (d4 146 (56 : Int)))) rfl (by decide) (by decide) (rfl) rfl ?_
      refine yb_callVv (As := [.int (xJ (d4 146 (56 : Int)))]) (a := 146) rfl rfl rfl rfl rfl rfl rfl rfl (by decide) (by decide) (rfl) (by decide) (sp_183 (by omega) (by show (0 ≤ ((0 : Int) + 1) ∧ ((0 : Int) + 1) < 20); decide) ?_)
      show yB D xm_c281 _ L 31 [.ref 146, .int (xJ a1), .int (xJ a2), .int (xJ x3)] [] (xs (xs (xs (xs (xs d4 146 (7 : Int) (0 : Int)) 151 (0 : Int) (d4 146 (55 : Int))) 146 (7 : Int) ((0 : Int) + 1)) 151 ((0 : Int) + 1) (d4 146 (56 : Int))) 146 (7 : Int) (((0 : Int) + 1) + 1)) e5
      refine yb_iload (x := x3) rfl rfl ?_
      exact yb_ret rfl h
    · replace h := h.2 c
      show yB D xm_c281 _ L 12 [.ref 146, .int (xJ a1), .int (xJ a2), .double 0] [.int (xJ (0 : Int))] (xs d 146 (8 : Int) (0 : Int)) e
      refine yb_if_ne (x := (0 : Int)) rfl rfl (by decide) (fun c => absurd (by decide) c) (fun _ => ?_)
      refine yb_push (v := (-1)) rfl ?_
      exact yb_ret rfl h
  · replace h := h.2 c
    show yB D xm_c281 _ L 7 [.ref 146, .int (xJ a1), .int (xJ a2), .double 0] [.int (xJ (0 : Int))] (xs d 146 (8 : Int) (0 : Int)) e
    refine yb_if_eq (x := (0 : Int)) rfl rfl (by decide) (fun _ => ?_) (fun c => absurd (by decide) c)
    refine yb_push (v := (-1)) rfl ?_
    exact yb_ret rfl h
theorem yk_282_0 {D L : Nat} {P : Int → xh_D → xd_E → Prop} {d : xh_D} {e : xd_E} {a1 : Int} {a2 : Int} {a3 : Int}   (hD : 1 ≤ D) (h : ((-2147483648 ≤ a1 ∧ a1 < 2147483648) ∧ ((((0 : Int) ≤ a1 ∧ a1 ≤ (8 : Int)) → ((-2147483648 ≤ a2 ∧ a2 < 2147483648) ∧ ((((0 : Int) ≤ a2 ∧ a2 ≤ (20 : Int)) → ((-2147483648 ≤ a3 ∧ a3 < 2147483648) ∧ ((((1 : Int) ≤ a3 ∧ a3 ≤ (40 : Int)) → yB D xm_c282 (yQi L P) L 22 [.ref 146, .int (xJ a1), .int (xJ a2), .int (xJ a3), .int (xJ (0 : Int))] [] (xs d 146 (8 : Int) (0 : Int)) e) ∧ (¬ ((1 : Int) ≤ a3 ∧ a3 ≤ (40 : Int)) → P (-1 : Int) (xs d 146 (8 : Int) (0 : Int)) e)))) ∧ (¬ ((0 : Int) ≤ a2 ∧ a2 ≤ (20 : Int)) → P (-1 : Int) (xs d 146 (8 : Int) (0 : Int)) e)))) ∧ (¬ ((0 : Int) ≤ a1 ∧ a1 ≤ (8 : Int)) → P (-1 : Int) (xs d 146 (8 : Int) (0 : Int)) e)))) : yB D xm_c282 (yQi L P) L 0 [.ref 146, .int (xJ a1), .int (xJ a2), .int (xJ a3), .double 0] [] d e := by
  refine yb_aload rfl rfl ?_
  refine yb_push (v := 0) rfl ?_
  refine yb_put (z := (0 : Int)) (k := 8) rfl rfl (by decide) (by decide) (rfl) (Nat.le_of_ble_eq_true rfl) rfl (rfl) ?_
  refine yb_iload (x := a1) rfl rfl ?_
  refine yb_push (v := 0) rfl ?_
  refine yb_push (v := 8) rfl ?_
  have r1 := h.1
  replace h := h.2
  refine yb_callSz (As := [.int (xJ a1), .int (xJ (0 : Int)), .int (xJ (8 : Int))]) rfl rfl rfl rfl rfl rfl rfl rfl (by decide) (sp_180 (by omega) ⟨r1, (by show (-2147483648 ≤ (0 : Int) ∧ (0 : Int) < 2147483648); decide), (by show (-2147483648 ≤ (8 : Int) ∧ (8 : Int) < 2147483648); decide)⟩ (fun c => ?_) (fun c => ?_))
  · replace h := h.1 c
    show yB D xm_c282 _ L 7 [.ref 146, .int (xJ a1), .int (xJ a2), .int (xJ a3), .double 0] [.int (xJ (1 : Int))] (xs d 146 (8 : Int) (0 : Int)) e
    refine yb_if_eq (x := (1 : Int)) rfl rfl (by decide) (fun c => absurd c (by decide)) (fun _ => ?_)
    refine yb_iload (x := a2) rfl rfl ?_
    refine yb_push (v := 0) rfl ?_
    refine yb_push (v := 20) rfl ?_
    have r2 := h.1
    replace h := h.2
    refine yb_callSz (As := [.int (xJ a2), .int (xJ (0 : Int)), .int (xJ (20 : Int))]) rfl rfl rfl rfl rfl rfl rfl rfl (by decide) (sp_180 (by omega) ⟨r2, (by show (-2147483648 ≤ (0 : Int) ∧ (0 : Int) < 2147483648); decide), (by show (-2147483648 ≤ (20 : Int) ∧ (20 : Int) < 2147483648); decide)⟩ (fun c => ?_) (fun c => ?_))
    · replace h := h.1 c
      show yB D xm_c282 _ L 12 [.ref 146, .int (xJ a1), .int (xJ a2), .int (xJ a3), .double 0] [.int (xJ (1 : Int))] (xs d 146 (8 : Int) (0 : Int)) e
      refine yb_if_eq (x := (1 : Int)) rfl rfl (by decide) (fun c => absurd c (by decide)) (fun _ => ?_)
      refine yb_iload (x := a3) rfl rfl ?_
      refine yb_push (v := 1) rfl ?_
      refine yb_push (v := 40) rfl ?_
      have r3 := h.1
      replace h := h.2
      refine yb_callSz (As := [.int (xJ a3), .int (xJ (1 : Int)), .int (xJ (40 : Int))]) rfl rfl rfl rfl rfl rfl rfl rfl (by decide) (sp_180 (by omega) ⟨r3, (by show (-2147483648 ≤ (1 : Int) ∧ (1 : Int) < 2147483648); decide), (by show (-2147483648 ≤ (40 : Int) ∧ (40 : Int) < 2147483648); decide)⟩ (fun c => ?_) (fun c => ?_))
      · replace h := h.1 c
        show yB D xm_c282 _ L 17 [.ref 146, .int (xJ a1), .int (xJ a2), .int (xJ a3), .double 0] [.int (xJ (1 : Int))] (xs d 146 (8 : Int) (0 : Int)) e
        refine yb_if_ne (x := (1 : Int)) rfl rfl (by decide) (fun _ => ?_) (fun c => absurd c (by decide))
        refine yb_push (v := 0) rfl ?_
        refine yb_istore rfl rfl rfl ?_
        exact h
      · replace h := h.2 c
        show yB D xm_c282 _ L 17 [.ref 146, .int (xJ a1), .int (xJ a2), .int (xJ a3), .double 0] [.int (xJ (0 : Int))] (xs d 146 (8 : Int) (0 : Int)) e
        refine yb_if_ne (x := (0 : Int)) rfl rfl (by decide) (fun c => absurd (by decide) c) (fun _ => ?_)
        refine yb_push (v := (-1)) rfl ?_
        exact yb_ret rfl h
    · replace h := h.2 c
      show yB D xm_c282 _ L 12 [.ref 146, .int (xJ a1), .int (xJ a2), .int (xJ a3), .double 0] [.int (xJ (0 : Int))] (xs d 146 (8 : Int) (0 : Int)) e
      refine yb_if_eq (x := (0 : Int)) rfl rfl (by decide) (fun _ => ?_) (fun c => absurd (by decide) c)
      refine yb_push (v := (-1)) rfl ?_
      exact yb_ret rfl h
  · replace h := h.2 c
    show yB D xm_c282 _ L 7 [.ref 146, .int (xJ a1), .int (xJ a2), .int (xJ a3), .double 0] [.int (xJ (0 : Int))] (xs d 146 (8 : Int) (0 : Int)) e
    refine yb_if_eq (x := (0 : Int)) rfl rfl (by decide) (fun _ => ?_) (fun c => absurd (by decide) c)
    refine yb_push (v := (-1)) rfl ?_
    exact yb_ret rfl h
theorem yk_282_22 {D L : Nat} {P : Int → xh_D → xd_E → Prop} {d : xh_D} {e : xd_E}  {l1 : Int} {l2 : Int} {l3 : Int} {l4 : Int}  (h : ((-2147483648 ≤ l4 ∧ l4 < 2147483648) ∧ ((-2147483648 ≤ l3 ∧ l3 < 2147483648) ∧ (((l3 ≤ l4) → P (-2 : Int) d e) ∧ ((¬ l3 ≤ l4) → yC D 280 L [.ref 146, .int (xJ l1), .int (xJ ((d 147 (81 : Int)) + l4))] d e (fun x3 d4 e5 => ((-2147483648 ≤ x3 ∧ x3 < 2147483648) ∧ ((-2147483648 ≤ l2 ∧ l2 < 2147483648) ∧ (((l2 < x3) → yB D xm_c282 (yQi L P) L 22 [.ref 146, .int (xJ l1), .int (xJ l2), .int (xJ l3), .int (xJ (l4 + 1))] [] d4 e5) ∧ ((¬ l2 < x3) → P l4 d4 e5)))))))))) : yB D xm_c282 (yQi L P) L 22 [.ref 146, .int (xJ l1), .int (xJ l2), .int (xJ l3), .int (xJ l4)] [] d e := by
  refine yb_iload (x := l4) rfl rfl ?_
  refine yb_iload (x := l3) rfl rfl ?_
  have r1 := h.1
  replace h := h.2
  have r2 := h.1
  replace h := h.2
  refine yb_icmp_ge (x := l4) (y := l3) rfl rfl r1 r2 (fun c => ?_) (fun c => ?_)
  · replace h := h.1 c
    refine yb_push (v := (-2)) rfl ?_
    exact yb_ret rfl h
  · replace h := h.2 c
    refine yb_aload rfl rfl ?_
    refine yb_iload (x := l1) rfl rfl ?_
    refine yb_aload rfl rfl ?_
    refine yb_get (v := .ref 147) rfl (by decide) (by decide) (rfl) rfl ?_
    refine yb_push (v := 81) rfl ?_
    refine yb_iald (j := (81 : Int)) rfl xd_A147 (by decide) (by decide) (v := (d 147 (81 : Int))) rfl ?_
    refine yb_iload (x := l4) rfl rfl ?_
    refine yb_iadd (x := (d 147 (81 : Int))) (y := l4) rfl ?_
    refine yb_callVi (As := [.int (xJ l1), .int (xJ ((d 147 (81 : Int)) + l4))]) (a := 146) rfl rfl rfl rfl rfl rfl rfl rfl (by decide) (by decide) (rfl) (by decide) (yC_mono h (fun x3 d4 e5 h => ?_))
    refine yb_iload (x := l2) rfl rfl ?_
    have r6 := h.1
    replace h := h.2
    have r7 := h.1
    replace h := h.2
    refine yb_icmp_gt (x := x3) (y := l2) rfl rfl r6 r7 (fun c => ?_) (fun c => ?_)
    · replace h := h.1 c
      refine yb_iinc (x := l4) (n := 1) rfl rfl rfl rfl ?_
      refine yb_goto rfl rfl ?_
      exact h
    · replace h := h.2 c
      refine yb_iload (x := l4) rfl rfl ?_
      exact yb_ret rfl h
theorem yk_283_0 {D L : Nat} {P : Int → xh_D → xd_E → Prop} {d : xh_D} {e : xd_E} {a1 : Int}   (h : ((-2147483648 ≤ (d 146 (1 : Int)) ∧ (d 146 (1 : Int)) < 2147483648) ∧ (((¬ (d 146 (1 : Int)) = (9 : Int)) → (∀ v2, v2 = ((a1 * (1103515245 : Int)) + (12345 : Int)) → ((0 ≤ (xi_ushr v2 (16 : Int)) ∧ (xi_ushr v2 (16 : Int)) < 2147483648) ∧ (∀ v4, v4 = ((v2 * (1103515245 : Int)) + (12345 : Int)) → ((0 ≤ (xi_ushr v4 (16 : Int)) ∧ (xi_ushr v4 (16 : Int)) < 2147483648) ∧ (∀ v6, v6 = ((v4 * (1103515245 : Int)) + (12345 : Int)) → ((0 ≤ (xi_ushr v6 (16 : Int)) ∧ (xi_ushr v6 (16 : Int)) < 2147483648) ∧ yV D 199 L [.ref 146, .int (xJ ((xi_ushr v2 (16 : Int)) % (9 : Int))), .int (xJ ((xi_ushr v4 (16 : Int)) % (9 : Int))), .int (xJ ((xi_ushr v6 (16 : Int)) % (64 : Int)))] (xs d 146 (8 : Int) (0 : Int)) e (fun d8 e9 => P ((d8 146 (1 : Int)) - (1 : Int)) d8 e9)))))))) ∧ (((d 146 (1 : Int)) = (9 : Int)) → P (-1 : Int) (xs d 146 (8 : Int) (0 : Int)) e)))) : yB D xm_c283 (yQi L P) L 0 [.ref 146, .int (xJ a1), .double 0, .double 0, .double 0] [] d e := by
  refine yb_aload rfl rfl ?_
  refine yb_push (v := 0) rfl ?_
  refine yb_put (z := (0 : Int)) (k := 8) rfl rfl (by decide) (by decide) (rfl) (Nat.le_of_ble_eq_true rfl) rfl (rfl) ?_
  refine yb_aload rfl rfl ?_
  refine yb_get (v := .int (xJ (d 146 (1 : Int)))) rfl (by decide) (by decide) (rfl) rfl ?_
  refine yb_push (v := 9) rfl ?_
  have r1 := h.1
  replace h := h.2
  refine yb_icmp_ne (x := (d 146 (1 : Int))) (y := (9 : Int)) rfl rfl r1 (by decide) (fun c => ?_) (fun c => ?_)
  · replace h := h.1 c
    refine yb_iload (x := a1) rfl rfl ?_
    refine yb_push (v := 1103515245) rfl ?_
    refine yb_imul (x := a1) (y := (1103515245 : Int)) rfl ?_
    refine yb_push (v := 12345) rfl ?_
    refine yb_iadd (x := (a1 * (1103515245 : Int))) (y := (12345 : Int)) rfl ?_
    replace h := h _ rfl
    refine yb_istore rfl rfl rfl ?_
    refine yb_iload (x := ((a1 * (1103515245 : Int)) + (12345 : Int))) rfl rfl ?_
    refine yb_push (v := 16) rfl ?_
    refine yb_iushr (x := ((a1 * (1103515245 : Int)) + (12345 : Int))) (y := (16 : Int)) rfl ?_
    refine yb_push (v := 9) rfl ?_
    have r3 := h.1
    replace h := h.2
    refine yb_irem (x := (xi_ushr ((a1 * (1103515245 : Int)) + (12345 : Int)) (16 : Int))) (y := (9 : Int)) rfl r3 (by decide) ?_
    refine yb_istore rfl rfl rfl ?_
    refine yb_iload (x := ((a1 * (1103515245 : Int)) + (12345 : Int))) rfl rfl ?_
    refine yb_push (v := 1103515245) rfl ?_
    refine yb_imul (x := ((a1 * (1103515245 : Int)) + (12345 : Int))) (y := (1103515245 : Int)) rfl ?_
    refine yb_push (v := 12345) rfl ?_
    refine yb_iadd (x := (((a1 * (1103515245 : Int)) + (12345 : Int)) * (1103515245 : Int))) (y := (12345 : Int)) rfl ?_
    replace h := h _ rfl
    refine yb_istore rfl rfl rfl ?_
    refine yb_iload (x := ((((a1 * (1103515245 : Int)) + (12345 : Int)) * (1103515245 : Int)) + (12345 : Int))) rfl rfl ?_
    refine yb_push (v := 16) rfl ?_
    refine yb_iushr (x := ((((a1 * (1103515245 : Int)) + (12345 : Int)) * (1103515245 : Int)) + (12345 : Int))) (y := (16 : Int)) rfl ?_
    refine yb_push (v := 9) rfl ?_
    have r5 := h.1
    replace h := h.2
    refine yb_irem (x := (xi_ushr ((((a1 * (1103515245 : Int)) + (12345 : Int)) * (1103515245 : Int)) + (12345 : Int)) (16 : Int))) (y := (9 : Int)) rfl r5 (by decide) ?_
    refine yb_istore rfl rfl rfl ?_
    refine yb_iload (x := ((((a1 * (1103515245 : Int)) + (12345 : Int)) * (1103515245 : Int)) + (12345 : Int))) rfl rfl ?_
    refine yb_push (v := 1103515245) rfl ?_
    refine yb_imul (x := ((((a1 * (1103515245 : Int)) + (12345 : Int)) * (1103515245 : Int)) + (12345 : Int))) (y := (1103515245 : Int)) rfl ?_
    refine yb_push (v := 12345) rfl ?_
    refine yb_iadd (x := (((((a1 * (1103515245 : Int)) + (12345 : Int)) * (1103515245 : Int)) + (12345 : Int)) * (1103515245 : Int))) (y := (12345 : Int)) rfl ?_
    replace h := h _ rfl
    refine yb_istore rfl rfl rfl ?_
    refine yb_aload rfl rfl ?_
    refine yb_iload (x := ((xi_ushr ((a1 * (1103515245 : Int)) + (12345 : Int)) (16 : Int)) % (9 : Int))) rfl rfl ?_
    refine yb_iload (x := ((xi_ushr ((((a1 * (1103515245 : Int)) + (12345 : Int)) * (1103515245 : Int)) + (12345 : Int)) (16 : Int)) % (9 : Int))) rfl rfl ?_
    refine yb_iload (x := ((((((a1 * (1103515245 : Int)) + (12345 : Int)) * (1103515245 : Int)) + (12345 : Int)) * (1103515245 : Int)) + (12345 : Int))) rfl rfl ?_
    refine yb_push (v := 16) rfl ?_
    refine yb_iushr (x := ((((((a1 * (1103515245 : Int)) + (12345 : Int)) * (1103515245 : Int)) + (12345 : Int)) * (1103515245 : Int)) + (12345 : Int))) (y := (16 : Int)) rfl ?_
    refine yb_push (v := 64) rfl ?_
    have r7 := h.1
    replace h := h.2
    refine yb_irem (x := (xi_ushr ((((((a1 * (1103515245 : Int)) + (12345 : Int)) * (1103515245 : Int)) + (12345 : Int)) * (1103515245 : Int)) + (12345 : Int)) (16 : Int))) (y := (64 : Int)) rfl r7 (by decide) ?_
    refine yb_callVv (As := [.int (xJ ((xi_ushr ((a1 * (1103515245 : Int)) + (12345 : Int)) (16 : Int)) % (9 : Int))), .int (xJ ((xi_ushr ((((a1 * (1103515245 : Int)) + (12345 : Int)) * (1103515245 : Int)) + (12345 : Int)) (16 : Int)) % (9 : Int))), .int (xJ ((xi_ushr ((((((a1 * (1103515245 : Int)) + (12345 : Int)) * (1103515245 : Int)) + (12345 : Int)) * (1103515245 : Int)) + (12345 : Int)) (16 : Int)) % (64 : Int)))]) (a := 146) rfl rfl rfl rfl rfl rfl rfl rfl (by decide) (by decide) (rfl) (by decide) (yV_mono h (fun d8 e9 h => ?_))
    refine yb_aload rfl rfl ?_
    refine yb_get (v := .int (xJ (d8 146 (1 : Int)))) rfl (by decide) (by decide) (rfl) rfl ?_
    refine yb_push (v := 1) rfl ?_
    refine yb_isub (x := (d8 146 (1 : Int))) (y := (1 : Int)) rfl ?_
    exact yb_ret rfl h
  · replace h := h.2 c
    refine yb_push (v := (-1)) rfl ?_
    exact yb_ret rfl h
theorem yk_284_0 {D L : Nat} {P1 P0 : xh_D → xd_E → Prop} {d : xh_D} {e : xd_E} {a1 : Int}   (hD : 1 ≤ D) (h : ((-2147483648 ≤ a1 ∧ a1 < 2147483648) ∧ ((((0 : Int) ≤ a1 ∧ a1 ≤ (1 : Int)) → ((0 ≤ a1 ∧ a1 < 2) ∧ yV D 225 L [.ref 147, .ref 174, .int (xJ ((353 : Int) * a1))] (xs (xs (xs d 146 (8 : Int) (0 : Int)) 175 a1 (1 : Int)) 176 a1 (d 146 (57 : Int))) e (fun d3 e4 => P1 d3 e4))) ∧ (¬ ((0 : Int) ≤ a1 ∧ a1 ≤ (1 : Int)) → P0 (xs d 146 (8 : Int) (0 : Int)) e)))) : yB D xm_c284 (yQz L P1 P0) L 0 [.ref 146, .int (xJ a1)] [] d e := by
  refine yb_aload rfl rfl ?_
  refine yb_push (v := 0) rfl ?_
  refine yb_put (z := (0 : Int)) (k := 8) rfl rfl (by decide) (by decide) (rfl) (Nat.le_of_ble_eq_true rfl) rfl (rfl) ?_
  refine yb_iload (x := a1) rfl rfl ?_
  refine yb_push (v := 0) rfl ?_
  refine yb_push (v := 1) rfl ?_
  have r1 := h.1
  replace h := h.2
  refine yb_callSz (As := [.int (xJ a1), .int (xJ (0 : Int)), .int (xJ (1 : Int))]) rfl rfl rfl rfl rfl rfl rfl rfl (by decide) (sp_180 (by omega) ⟨r1, (by show (-2147483648 ≤ (0 : Int) ∧ (0 : Int) < 2147483648); decide), (by show (-2147483648 ≤ (1 : Int) ∧ (1 : Int) < 2147483648); decide)⟩ (fun c => ?_) (fun c => ?_))
  · replace h := h.1 c
    show yB D xm_c284 _ L 7 [.ref 146, .int (xJ a1)] [.int (xJ (1 : Int))] (xs d 146 (8 : Int) (0 : Int)) e
    refine yb_if_ne (x := (1 : Int)) rfl rfl (by decide) (fun _ => ?_) (fun c => absurd c (by decide))
    refine yb_aload rfl rfl ?_
    refine yb_get (v := .ref 175) rfl (by decide) (by decide) (rfl) rfl ?_
    refine yb_iload (x := a1) rfl rfl ?_
    refine yb_push (v := 1) rfl ?_
    have r2 := h.1
    replace h := h.2
    refine yb_bast (j := a1) (x := (1 : Int)) rfl (Or.inr ⟨rfl, by decide⟩) xd_A175 r2 ?_
    refine yb_aload rfl rfl ?_
    refine yb_get (v := .ref 176) rfl (by decide) (by decide) (rfl) rfl ?_
    refine yb_iload (x := a1) rfl rfl ?_
    refine yb_aload rfl rfl ?_
    refine yb_get (v := .int (xJ (d 146 (57 : Int)))) rfl (by decide) (by decide) (rfl) rfl ?_
    refine yb_iast (j := a1) (x := (d 146 (57 : Int))) rfl xd_A176 (by decide) r2 ?_
    refine yb_aload rfl rfl ?_
    refine yb_get (v := .ref 147) rfl (by decide) (by decide) (rfl) rfl ?_
    refine yb_aload rfl rfl ?_
    refine yb_get (v := .ref 174) rfl (by decide) (by decide) (rfl) rfl ?_
    refine yb_push (v := 353) rfl ?_
    refine yb_iload (x := a1) rfl rfl ?_
    refine yb_imul (x := (353 : Int)) (y := a1) rfl ?_
    refine yb_callSv (As := [.ref 147, .ref 174, .int (xJ ((353 : Int) * a1))]) rfl rfl rfl rfl rfl rfl rfl rfl (by decide) (yV_mono h (fun d3 e4 h => ?_))
    refine yb_push (v := 1) rfl ?_
    exact yb_ret1 rfl h
  · replace h := h.2 c
    show yB D xm_c284 _ L 7 [.ref 146, .int (xJ a1)] [.int (xJ (0 : Int))] (xs d 146 (8 : Int) (0 : Int)) e
    refine yb_if_ne (x := (0 : Int)) rfl rfl (by decide) (fun c => absurd (by decide) c) (fun _ => ?_)
    refine yb_push (v := 0) rfl ?_
    exact yb_ret0 rfl h
theorem yk_285_0 {D L : Nat} {P1 P0 : xh_D → xd_E → Prop} {d : xh_D} {e : xd_E} {a1 : Int}   (hD : 1 ≤ D) (h : ((-2147483648 ≤ a1 ∧ a1 < 2147483648) ∧ ((((0 : Int) ≤ a1 ∧ a1 ≤ (1 : Int)) → ((0 ≤ a1 ∧ a1 < 2) ∧ ((-2147483648 ≤ (d 175 a1) ∧ (d 175 a1) < 2147483648) ∧ ((((d 175 a1) = 0) → P0 (xs d 146 (8 : Int) (0 : Int)) e) ∧ ((¬ (d 175 a1) = 0) → ((-2147483648 ≤ (d 176 a1) ∧ (d 176 a1) < 2147483648) ∧ ((-2147483648 ≤ (d 146 (57 : Int)) ∧ (d 146 (57 : Int)) < 2147483648) ∧ ((((d 176 a1) = (d 146 (57 : Int))) → yB D xm_c285 (yQz L P1 P0) L 24 [.ref 146, .int (xJ a1), .int (xJ (0 : Int))] [] (xs d 146 (8 : Int) (0 : Int)) e) ∧ ((¬ (d 176 a1) = (d 146 (57 : Int))) → P0 (xs d 146 (8 : Int) (0 : Int)) e))))))))) ∧ (¬ ((0 : Int) ≤ a1 ∧ a1 ≤ (1 : Int)) → P0 (xs d 146 (8 : Int) (0 : Int)) e)))) : yB D xm_c285 (yQz L P1 P0) L 0 [.ref 146, .int (xJ a1), .double 0] [] d e := by
  refine yb_aload rfl rfl ?_
  refine yb_push (v := 0) rfl ?_
  refine yb_put (z := (0 : Int)) (k := 8) rfl rfl (by decide) (by decide) (rfl) (Nat.le_of_ble_eq_true rfl) rfl (rfl) ?_
  refine yb_iload (x := a1) rfl rfl ?_
  refine yb_push (v := 0) rfl ?_
  refine yb_push (v := 1) rfl ?_
  have r1 := h.1
  replace h := h.2
  refine yb_callSz (As := [.int (xJ a1), .int (xJ (0 : Int)), .int (xJ (1 : Int))]) rfl rfl rfl rfl rfl rfl rfl rfl (by decide) (sp_180 (by omega) ⟨r1, (by show (-2147483648 ≤ (0 : Int) ∧ (0 : Int) < 2147483648); decide), (by show (-2147483648 ≤ (1 : Int) ∧ (1 : Int) < 2147483648); decide)⟩ (fun c => ?_) (fun c => ?_))
  · replace h := h.1 c
    show yB D xm_c285 _ L 7 [.ref 146, .int (xJ a1), .double 0] [.int (xJ (1 : Int))] (xs d 146 (8 : Int) (0 : Int)) e
    refine yb_if_eq (x := (1 : Int)) rfl rfl (by decide) (fun c => absurd c (by decide)) (fun _ => ?_)
    refine yb_aload rfl rfl ?_
    refine yb_get (v := .ref 175) rfl (by decide) (by decide) (rfl) rfl ?_
    refine yb_iload (x := a1) rfl rfl ?_
    have r2 := h.1
    replace h := h.2
    refine yb_bald (j := a1) rfl (by decide) xd_A175 r2 (v := (d 175 a1)) (xs_np (by decide)) ?_
    have r3 := h.1
    replace h := h.2
    refine yb_if_eq (x := (d 175 a1)) rfl rfl r3 (fun c => ?_) (fun c => ?_)
    · replace h := h.1 c
      refine yb_push (v := 0) rfl ?_
      exact yb_ret0 rfl h
    · replace h := h.2 c
      refine yb_aload rfl rfl ?_
      refine yb_get (v := .ref 176) rfl (by decide) (by decide) (rfl) rfl ?_
      refine yb_iload (x := a1) rfl rfl ?_
      refine yb_iald (j := a1) rfl xd_A176 (by decide) r2 (v := (d 176 a1)) (xs_np (by decide)) ?_
      refine yb_aload rfl rfl ?_
      refine yb_get (v := .int (xJ (d 146 (57 : Int)))) rfl (by decide) (by decide) (rfl) rfl ?_
      have r4 := h.1
      replace h := h.2
      have r5 := h.1
      replace h := h.2
      refine yb_icmp_eq (x := (d 176 a1)) (y := (d 146 (57 : Int))) rfl rfl r4 r5 (fun c => ?_) (fun c => ?_)
      · replace h := h.1 c
        refine yb_push (v := 0) rfl ?_
        refine yb_istore rfl rfl rfl ?_
        exact h
      · replace h := h.2 c
        refine yb_push (v := 0) rfl ?_
        exact yb_ret0 rfl h
  · replace h := h.2 c
    show yB D xm_c285 _ L 7 [.ref 146, .int (xJ a1), .double 0] [.int (xJ (0 : Int))] (xs d 146 (8 : Int) (0 : Int)) e
    refine yb_if_eq (x := (0 : Int)) rfl rfl (by decide) (fun _ => ?_) (fun c => absurd (by decide) c)
    refine yb_push (v := 0) rfl ?_
    exact yb_ret0 rfl h
theorem yk_285_24 {D L : Nat} {P1 P0 : xh_D → xd_E → Prop} {d : xh_D} {e : xd_E}  {l1 : Int} {l2 : Int}  (h : ((-2147483648 ≤ l2 ∧ l2 < 2147483648) ∧ ((((353 : Int) ≤ l2) → P1 (xs d 146 (31 : Int) (0 : Int)) e) ∧ ((¬ (353 : Int) ≤ l2) → ((0 ≤ (((353 : Int) * l1) + l2) ∧ (((353 : Int) * l1) + l2) < 706) ∧ ((0 ≤ l2 ∧ l2 < 353) ∧ yB D xm_c285 (yQz L P1 P0) L 24 [.ref 146, .int (xJ l1), .int (xJ (l2 + 1))] [] (xs d 147 l2 (d 174 (((353 : Int) * l1) + l2))) e)))))) : yB D xm_c285 (yQz L P1 P0) L 24 [.ref 146, .int (xJ l1), .int (xJ l2)] [] d e := by
  refine yb_iload (x := l2) rfl rfl ?_
  refine yb_push (v := 353) rfl ?_
  have r1 := h.1
  replace h := h.2
  refine yb_icmp_ge (x := l2) (y := (353 : Int)) rfl rfl r1 (by decide) (fun c => ?_) (fun c => ?_)
  · replace h := h.1 c
    refine yb_aload rfl rfl ?_
    refine yb_push (v := 0) rfl ?_
    refine yb_put (z := (0 : Int)) (k := 31) rfl rfl (by decide) (by decide) (rfl) (Nat.le_of_ble_eq_true rfl) rfl (rfl) ?_
    refine yb_push (v := 1) rfl ?_
    exact yb_ret1 rfl h
  · replace h := h.2 c
    refine yb_aload rfl rfl ?_
    refine yb_get (v := .ref 147) rfl (by decide) (by decide) (rfl) rfl ?_
    refine yb_iload (x := l2) rfl rfl ?_
    refine yb_aload rfl rfl ?_
    refine yb_get (v := .ref 174) rfl (by decide) (by decide) (rfl) rfl ?_
    refine yb_push (v := 353) rfl ?_
    refine yb_iload (x := l1) rfl rfl ?_
    refine yb_imul (x := (353 : Int)) (y := l1) rfl ?_
    refine yb_iload (x := l2) rfl rfl ?_
    refine yb_iadd (x := ((353 : Int) * l1)) (y := l2) rfl ?_
    have r2 := h.1
    replace h := h.2
    refine yb_iald (j := (((353 : Int) * l1) + l2)) rfl xd_A174 (by decide) r2 (v := (d 174 (((353 : Int) * l1) + l2))) rfl ?_
    have r3 := h.1
    replace h := h.2
    refine yb_iast (j := l2) (x := (d 174 (((353 : Int) * l1) + l2))) rfl xd_A147 (by decide) r3 ?_
    refine yb_iinc (x := l2) (n := 1) rfl rfl rfl rfl ?_
    refine yb_goto rfl rfl ?_
    exact h
theorem yk_286_0 {D L : Nat} {P : Int → xh_D → xd_E → Prop} {d : xh_D} {e : xd_E} {a1 : Int}   (h : ((-2147483648 ≤ a1 ∧ a1 < 2147483648) ∧ (((a1 < 0 ∨ 9 < a1) → P (-1 : Int) (xs d 146 (8 : Int) (0 : Int)) e) ∧ (a1 = 0 → P (d 146 (1 : Int)) (xs d 146 (8 : Int) (0 : Int)) e) ∧ (a1 = 1 → P (d 147 (81 : Int)) (xs d 146 (8 : Int) (0 : Int)) e) ∧ (a1 = 2 → yC D 217 L [.ref 146, .ref 147, .int (xJ (d 147 (81 : Int)))] (xs d 146 (8 : Int) (0 : Int)) e (fun x2 d3 e4 => P x2 d3 e4)) ∧ (a1 = 3 → P (d 146 (38 : Int)) (xs d 146 (8 : Int) (0 : Int)) e) ∧ (a1 = 4 → P (d 146 (46 : Int)) (xs d 146 (8 : Int) (0 : Int)) e) ∧ (a1 = 5 → P (d 146 (54 : Int)) (xs d 146 (8 : Int) (0 : Int)) e) ∧ (a1 = 6 → P (d 147 (82 : Int)) (xs d 146 (8 : Int) (0 : Int)) e) ∧ (a1 = 7 → P (d 146 (31 : Int)) (xs d 146 (8 : Int) (0 : Int)) e) ∧ (a1 = 8 → P (d 146 (7 : Int)) (xs d 146 (8 : Int) (0 : Int)) e) ∧ (a1 = 9 → P (d 146 (5 : Int)) (xs d 146 (8 : Int) (0 : Int)) e)))) : yB D xm_c286 (yQi L P) L 0 [.ref 146, .int (xJ a1)] [] d e := by
  refine yb_aload rfl rfl ?_
  refine yb_push (v := 0) rfl ?_
  refine yb_put (z := (0 : Int)) (k := 8) rfl rfl (by decide) (by decide) (rfl) (Nat.le_of_ble_eq_true rfl) rfl (rfl) ?_
  refine yb_iload (x := a1) rfl rfl ?_
  have r1 := h.1
  replace h := h.2
  refine yb_table (x := a1) rfl rfl r1 (fun c => ?_) (fun c1 c2 => ?_)
  · replace h := h.1 c
    refine yb_push (v := (-1)) rfl ?_
    exact yb_ret rfl h
  · rcases (show a1 = 0 ∨ a1 = 1 ∨ a1 = 2 ∨ a1 = 3 ∨ a1 = 4 ∨ a1 = 5 ∨ a1 = 6 ∨ a1 = 7 ∨ a1 = 8 ∨ a1 = 9 by omega) with c | c | c | c | c | c | c | c | c | c
    · replace h := h.2.1 c
      refine ⟨_, by rw [c]; rfl, ?_⟩
      refine yb_aload rfl rfl ?_
      refine yb_get (v := .int (xJ (d 146 (1 : Int)))) rfl (by decide) (by decide) (rfl) rfl ?_
      exact yb_ret rfl h
    · replace h := h.2.2.1 c
      refine ⟨_, by rw [c]; rfl, ?_⟩
      refine yb_aload rfl rfl ?_
      refine yb_get (v := .ref 147) rfl (by decide) (by decide) (rfl) rfl ?_
      refine yb_push (v := 81) rfl ?_
      refine yb_iald (j := (81 : Int)) rfl xd_A147 (by decide) (by decide) (v := (d 147 (81 : Int))) (xs_np (by decide)) ?_
      exact yb_ret rfl h
    · replace h := h.2.2.2.1 c
      refine ⟨_, by rw [c]; rfl, ?_⟩
      refine yb_aload rfl rfl ?_
      refine yb_aload rfl rfl ?_
      refine yb_get (v := .ref 147) rfl (by decide) (by decide) (rfl) rfl ?_
      refine yb_aload rfl rfl ?_
      refine yb_get (v := .ref 147) rfl (by decide) (by decide) (rfl) rfl ?_
      refine yb_push (v := 81) rfl ?_
      refine yb_iald (j := (81 : Int)) rfl xd_A147 (by decide) (by decide) (v := (d 147 (81 : Int))) (xs_np (by decide)) ?_
      refine yb_callVi (As := [.ref 147, .int (xJ (d 147 (81 : Int)))]) (a := 146) rfl rfl rfl rfl rfl rfl rfl rfl (by decide) (by decide) (rfl) (by decide) (yC_mono h (fun x2 d3 e4 h => ?_))
      exact yb_ret rfl h
    · replace h := h.2.2.2.2.1 c
      refine ⟨_, by rw [c]; rfl, ?_⟩
      refine yb_aload rfl rfl ?_
      refine yb_get (v := .int (xJ (d 146 (38 : Int)))) rfl (by decide) (by decide) (rfl) rfl ?_
      exact yb_ret rfl h
    · replace h := h.2.2.2.2.2.1 c
      refine ⟨_, by rw [c]; rfl, ?_⟩
      refine yb_aload rfl rfl ?_
      refine yb_get (v := .int (xJ (d 146 (46 : Int)))) rfl (by decide) (by decide) (rfl) rfl ?_
      exact yb_ret rfl h
    · replace h := h.2.2.2.2.2.2.1 c
      refine ⟨_, by rw [c]; rfl, ?_⟩
      refine yb_aload rfl rfl ?_
      refine yb_get (v := .int (xJ (d 146 (54 : Int)))) rfl (by decide) (by decide) (rfl) rfl ?_
      exact yb_ret rfl h
    · replace h := h.2.2.2.2.2.2.2.1 c
      refine ⟨_, by rw [c]; rfl, ?_⟩
      refine yb_aload rfl rfl ?_
      refine yb_get (v := .ref 147) rfl (by decide) (by decide) (rfl) rfl ?_
      refine yb_push (v := 82) rfl ?_
      refine yb_iald (j := (82 : Int)) rfl xd_A147 (by decide) (by decide) (v := (d 147 (82 : Int))) (xs_np (by decide)) ?_
      exact yb_ret rfl h
    · replace h := h.2.2.2.2.2.2.2.2.1 c
      refine ⟨_, by rw [c]; rfl, ?_⟩
      refine yb_aload rfl rfl ?_
      refine yb_get (v := .int (xJ (d 146 (31 : Int)))) rfl (by decide) (by decide) (rfl) rfl ?_
      exact yb_ret rfl h
    · replace h := h.2.2.2.2.2.2.2.2.2.1 c
      refine ⟨_, by rw [c]; rfl, ?_⟩
      refine yb_aload rfl rfl ?_
      refine yb_get (v := .int (xJ (d 146 (7 : Int)))) rfl (by decide) (by decide) (rfl) rfl ?_
      exact yb_ret rfl h
    · replace h := h.2.2.2.2.2.2.2.2.2.2 c
      refine ⟨_, by rw [c]; rfl, ?_⟩
      refine yb_aload rfl rfl ?_
      refine yb_get (v := .int (xJ (d 146 (5 : Int)))) rfl (by decide) (by decide) (rfl) rfl ?_
      exact yb_ret rfl h
theorem yk_287_0 {D L : Nat} {P : Int → xh_D → xd_E → Prop} {d : xh_D} {e : xd_E} {a1 : Int}   (hD : 1 ≤ D) (h : ((-2147483648 ≤ a1 ∧ a1 < 2147483648) ∧ ((-2147483648 ≤ ((d 146 (7 : Int)) - (1 : Int)) ∧ ((d 146 (7 : Int)) - (1 : Int)) < 2147483648) ∧ ((((0 : Int) ≤ a1 ∧ a1 ≤ ((d 146 (7 : Int)) - (1 : Int))) → ((0 ≤ a1 ∧ a1 < 20) ∧ P (d 151 a1) (xs d 146 (8 : Int) (0 : Int)) e)) ∧ (¬ ((0 : Int) ≤ a1 ∧ a1 ≤ ((d 146 (7 : Int)) - (1 : Int))) → P (0 : Int) (xs (xs d 146 (8 : Int) (0 : Int)) 146 (8 : Int) (1 : Int)) e))))) : yB D xm_c287 (yQi L P) L 0 [.ref 146, .int (xJ a1)] [] d e := by
  refine yb_aload rfl rfl ?_
  refine yb_push (v := 0) rfl ?_
  refine yb_put (z := (0 : Int)) (k := 8) rfl rfl (by decide) (by decide) (rfl) (Nat.le_of_ble_eq_true rfl) rfl (rfl) ?_
  refine yb_iload (x := a1) rfl rfl ?_
  refine yb_push (v := 0) rfl ?_
  refine yb_aload rfl rfl ?_
  refine yb_get (v := .int (xJ (d 146 (7 : Int)))) rfl (by decide) (by decide) (rfl) rfl ?_
  refine yb_push (v := 1) rfl ?_
  refine yb_isub (x := (d 146 (7 : Int))) (y := (1 : Int)) rfl ?_
  have r1 := h.1
  replace h := h.2
  have r2 := h.1
  replace h := h.2
  refine yb_callSz (As := [.int (xJ a1), .int (xJ (0 : Int)), .int (xJ ((d 146 (7 : Int)) - (1 : Int)))]) rfl rfl rfl rfl rfl rfl rfl rfl (by decide) (sp_180 (by omega) ⟨r1, (by show (-2147483648 ≤ (0 : Int) ∧ (0 : Int) < 2147483648); decide), r2⟩ (fun c => ?_) (fun c => ?_))
  · replace h := h.1 c
    show yB D xm_c287 _ L 10 [.ref 146, .int (xJ a1)] [.int (xJ (1 : Int))] (xs d 146 (8 : Int) (0 : Int)) e
    refine yb_if_eq (x := (1 : Int)) rfl rfl (by decide) (fun c => absurd c (by decide)) (fun _ => ?_)
    refine yb_aload rfl rfl ?_
    refine yb_get (v := .ref 151) rfl (by decide) (by decide) (rfl) rfl ?_
    refine yb_iload (x := a1) rfl rfl ?_
    have r3 := h.1
    replace h := h.2
    refine yb_iald (j := a1) rfl xd_A151 (by decide) r3 (v := (d 151 a1)) (xs_np (by decide)) ?_
    refine yb_goto rfl rfl ?_
    exact yb_ret rfl h
  · replace h := h.2 c
    show yB D xm_c287 _ L 10 [.ref 146, .int (xJ a1)] [.int (xJ (0 : Int))] (xs d 146 (8 : Int) (0 : Int)) e
    refine yb_if_eq (x := (0 : Int)) rfl rfl (by decide) (fun _ => ?_) (fun c => absurd (by decide) c)
    refine yb_aload rfl rfl ?_
    refine yb_callVi (As := []) (a := 146) rfl rfl rfl rfl rfl rfl rfl rfl (by decide) (by decide) (rfl) (by decide) (sp_182 (by omega) ?_)
    show yB D xm_c287 _ L 18 [.ref 146, .int (xJ a1)] [.int (xJ (0 : Int))] (xs (xs d 146 (8 : Int) (0 : Int)) 146 (8 : Int) (1 : Int)) e
    exact yb_ret rfl h
