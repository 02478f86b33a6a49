/-! BLOCKS of methods, out of blk2.py. -/
theorem yk_187_0 {D L : Nat} {P : Int → xh_D → xd_E → Prop} {d : xh_D} {e : xd_E} {a1 : Int}   (h : ((-2147483648 ≤ ((d 146 (5 : Int)) + (4 : Int)) ∧ ((d 146 (5 : Int)) + (4 : Int)) < 2147483648) ∧ (((((d 146 (5 : Int)) + (4 : Int)) ≤ (80 : Int)) → yB D xm_c187 (yQi L P) L 13 [.ref 146, .int (xJ a1), .int (xJ (3 : Int))] [] (xs d 146 (8 : Int) (0 : Int)) e) ∧ ((¬ ((d 146 (5 : Int)) + (4 : Int)) ≤ (80 : Int)) → P (-1 : Int) (xs d 146 (8 : Int) (0 : Int)) e)))) : yB D xm_c187 (yQi L P) L 0 [.ref 146, .int (xJ a1), .double 0] [] d e := by
  refine yb_aload rfl rfl ?_
  refine yb_push (v := 0) rfl ?_
  refine yb_put (z := (0 : Int)) (k := 8) rfl rfl (by decide) (by decide) (rfl) (Nat.le_of_ble_eq_true rfl) rfl (rfl) ?_
  refine yb_aload rfl rfl ?_
  refine yb_get (v := .int (xJ (d 146 (5 : Int)))) rfl (by decide) (by decide) (rfl) rfl ?_
  refine yb_push (v := 4) rfl ?_
  refine yb_iadd (x := (d 146 (5 : Int))) (y := (4 : Int)) rfl ?_
  refine yb_push (v := 80) rfl ?_
  have r1 := h.1
  replace h := h.2
  refine yb_icmp_le (x := ((d 146 (5 : Int)) + (4 : Int))) (y := (80 : Int)) rfl rfl r1 (by decide) (fun c => ?_) (fun c => ?_)
  · replace h := h.1 c
    refine yb_push (v := 3) rfl ?_
    refine yb_istore rfl rfl rfl ?_
    exact h
  · replace h := h.2 c
    refine yb_push (v := (-1)) rfl ?_
    exact yb_ret rfl h
theorem yk_187_13 {D L : Nat} {P : Int → xh_D → xd_E → Prop} {d : xh_D} {e : xd_E}  {l1 : Int} {l2 : Int}  (h : ((-2147483648 ≤ l2 ∧ l2 < 2147483648) ∧ (((l2 < 0) → P (d 146 (5 : Int)) d e) ∧ ((¬ l2 < 0) → ((0 ≤ (d 146 (5 : Int)) ∧ (d 146 (5 : Int)) < 80) ∧ yB D xm_c187 (yQi L P) L 13 [.ref 146, .int (xJ l1), .int (xJ (l2 + (-1)))] [] (xs (xs d 146 (5 : Int) ((d 146 (5 : Int)) + (1 : Int))) 150 (d 146 (5 : Int)) (xi_i8 (xi_shr l1 ((8 : Int) * l2)))) e))))) : yB D xm_c187 (yQi L P) L 13 [.ref 146, .int (xJ l1), .int (xJ l2)] [] d e := by
  refine yb_iload (x := l2) rfl rfl ?_
  have r1 := h.1
  replace h := h.2
  refine yb_if_lt (x := l2) rfl rfl r1 (fun c => ?_) (fun c => ?_)
  · replace h := h.1 c
    refine yb_aload rfl rfl ?_
    refine yb_get (v := .int (xJ (d 146 (5 : Int)))) rfl (by decide) (by decide) (rfl) rfl ?_
    exact yb_ret rfl h
  · replace h := h.2 c
    refine yb_aload rfl rfl ?_
    refine yb_get (v := .ref 150) rfl (by decide) (by decide) (rfl) rfl ?_
    refine yb_aload rfl rfl ?_
    refine yb_dup rfl rfl ?_
    refine yb_get (v := .int (xJ (d 146 (5 : Int)))) rfl (by decide) (by decide) (rfl) rfl ?_
    refine yb_dup_x1 rfl rfl rfl ?_
    refine yb_push (v := 1) rfl ?_
    refine yb_iadd (x := (d 146 (5 : Int))) (y := (1 : Int)) rfl ?_
    refine yb_put (z := ((d 146 (5 : Int)) + (1 : Int))) (k := 5) rfl rfl (by decide) (by decide) (rfl) (Nat.le_of_ble_eq_true rfl) rfl (rfl) ?_
    refine yb_iload (x := l1) rfl rfl ?_
    refine yb_push (v := 8) rfl ?_
    refine yb_iload (x := l2) rfl rfl ?_
    refine yb_imul (x := (8 : Int)) (y := l2) rfl ?_
    refine yb_ishr (x := l1) (y := ((8 : Int) * l2)) rfl ?_
    refine yb_i2b (x := (xi_shr l1 ((8 : Int) * l2))) rfl ?_
    have r2 := h.1
    replace h := h.2
    refine yb_bast (j := (d 146 (5 : Int))) (x := (xi_i8 (xi_shr l1 ((8 : Int) * l2)))) rfl (Or.inl ⟨rfl, by unfold xi_i8; rw [xJ_toInt, Int8.toInt8_toInt32]⟩) xd_A150 r2 ?_
    refine yb_iinc (x := l2) (n := (-1)) rfl rfl rfl rfl ?_
    refine yb_goto rfl rfl ?_
    exact h
theorem yk_188_0 {D L : Nat} {P1 P0 : xh_D → xd_E → Prop} {d : xh_D} {e : xd_E} {a1 : Int}   (hD : 1 ≤ D) (h : ((-2147483648 ≤ a1 ∧ a1 < 2147483648) ∧ ((-2147483648 ≤ (d 146 (5 : Int)) ∧ (d 146 (5 : Int)) < 2147483648) ∧ ((((0 : Int) ≤ a1 ∧ a1 ≤ (d 146 (5 : Int))) → P1 (xs (xs d 146 (8 : Int) (0 : Int)) 146 (5 : Int) a1) e) ∧ (¬ ((0 : Int) ≤ a1 ∧ a1 ≤ (d 146 (5 : Int))) → P0 (xs d 146 (8 : Int) (0 : Int)) e))))) : yB D xm_c188 (yQz L P1 P0) L 0 [.ref 146, .int (xJ a1)] [] d e := by
  refine yb_aload rfl rfl ?_
  refine yb_push (v := 0) rfl ?_
  refine yb_put (z := (0 : Int)) (k := 8) rfl rfl (by decide) (by decide) (rfl) (Nat.le_of_ble_eq_true rfl) rfl (rfl) ?_
  refine yb_iload (x := a1) rfl rfl ?_
  refine yb_push (v := 0) rfl ?_
  refine yb_aload rfl rfl ?_
  refine yb_get (v := .int (xJ (d 146 (5 : Int)))) rfl (by decide) (by decide) (rfl) rfl ?_
  have r1 := h.1
  replace h := h.2
  have r2 := h.1
  replace h := h.2
  refine yb_callSz (As := [.int (xJ a1), .int (xJ (0 : Int)), .int (xJ (d 146 (5 : Int)))]) rfl rfl rfl rfl rfl rfl rfl rfl (by decide) (sp_180 (by omega) ⟨r1, (by show (-2147483648 ≤ (0 : Int) ∧ (0 : Int) < 2147483648); decide), r2⟩ (fun c => ?_) (fun c => ?_))
  · replace h := h.1 c
    show yB D xm_c188 _ L 8 [.ref 146, .int (xJ a1)] [.int (xJ (1 : Int))] (xs d 146 (8 : Int) (0 : Int)) e
    refine yb_if_ne (x := (1 : Int)) rfl rfl (by decide) (fun _ => ?_) (fun c => absurd c (by decide))
    refine yb_aload rfl rfl ?_
    refine yb_iload (x := a1) rfl rfl ?_
    refine yb_put (z := a1) (k := 5) rfl rfl (by decide) (by decide) (rfl) (Nat.le_of_ble_eq_true rfl) rfl (rfl) ?_
    refine yb_push (v := 1) rfl ?_
    exact yb_ret1 rfl h
  · replace h := h.2 c
    show yB D xm_c188 _ L 8 [.ref 146, .int (xJ a1)] [.int (xJ (0 : Int))] (xs d 146 (8 : Int) (0 : Int)) e
    refine yb_if_ne (x := (0 : Int)) rfl rfl (by decide) (fun c => absurd (by decide) c) (fun _ => ?_)
    refine yb_push (v := 0) rfl ?_
    exact yb_ret0 rfl h
theorem yk_193_0 {D L : Nat} {P1 P0 : xh_D → xd_E → Prop} {d : xh_D} {e : xd_E} {a1 : Int}   (hD : 1 ≤ D) (h : ((-2147483648 ≤ (d 146 (13 : Int)) ∧ (d 146 (13 : Int)) < 2147483648) ∧ ((((d 146 (13 : Int)) = -1) → (xm_hok d ∧ ((-2147483648 ≤ (xm_here d) ∧ (xm_here d) < 2147483648) ∧ ((-2147483648 ≤ a1 ∧ a1 < 2147483648) ∧ ((((xm_here d) = a1) → P1 (xs d 146 (12 : Int) ((d 146 (12 : Int)) + (1 : Int))) e) ∧ ((¬ (xm_here d) = a1) → P0 d e)))))) ∧ (¬ ((d 146 (13 : Int)) = -1) → P0 d e)))) : yB D xm_c193 (yQz L P1 P0) L 0 [.ref 146, .int (xJ a1)] [] d e := by
  refine yb_aload rfl rfl ?_
  have r1 := h.1
  replace h := h.2
  refine yb_callVz (As := []) (a := 146) rfl rfl rfl rfl rfl rfl rfl rfl (by decide) (by decide) (rfl) (by decide) (sp_191 (by omega) r1 (fun c => ?_) (fun c => ?_))
  · replace h := h.1 c
    show yB D xm_c193 _ L 2 [.ref 146, .int (xJ a1)] [.int (xJ (1 : Int))] d e
    refine yb_if_eq (x := (1 : Int)) rfl rfl (by decide) (fun c => absurd c (by decide)) (fun _ => ?_)
    refine yb_aload rfl rfl ?_
    have r2 := h.1
    replace h := h.2
    refine yb_callVi (As := []) (a := 146) rfl rfl rfl rfl rfl rfl rfl rfl (by decide) (by decide) (rfl) (by decide) (sp_190 (by omega) r2 ?_)
    show yB D xm_c193 _ L 5 [.ref 146, .int (xJ a1)] [.int (xJ (xm_here d))] d e
    refine yb_iload (x := a1) rfl rfl ?_
    have r3 := h.1
    replace h := h.2
    have r4 := h.1
    replace h := h.2
    refine yb_icmp_eq (x := (xm_here d)) (y := a1) rfl rfl r3 r4 (fun c => ?_) (fun c => ?_)
    · replace h := h.1 c
      refine yb_aload rfl rfl ?_
      refine yb_dup rfl rfl ?_
      refine yb_get (v := .int (xJ (d 146 (12 : Int)))) rfl (by decide) (by decide) (rfl) rfl ?_
      refine yb_push (v := 1) rfl ?_
      refine yb_iadd (x := (d 146 (12 : Int))) (y := (1 : Int)) rfl ?_
      refine yb_put (z := ((d 146 (12 : Int)) + (1 : Int))) (k := 12) rfl rfl (by decide) (by decide) (rfl) (Nat.le_of_ble_eq_true rfl) rfl (rfl) ?_
      refine yb_push (v := 1) rfl ?_
      exact yb_ret1 rfl h
    · replace h := h.2 c
      refine yb_push (v := 0) rfl ?_
      exact yb_ret0 rfl h
  · replace h := h.2 c
    show yB D xm_c193 _ L 2 [.ref 146, .int (xJ a1)] [.int (xJ (0 : Int))] d e
    refine yb_if_eq (x := (0 : Int)) rfl rfl (by decide) (fun _ => ?_) (fun c => absurd (by decide) c)
    refine yb_push (v := 0) rfl ?_
    exact yb_ret0 rfl h
theorem yk_194_0 {D L : Nat} {P : xh_D → xd_E → Prop} {d : xh_D} {e : xd_E} {a1 : Int}   (hD : 2 ≤ D) (h : yZ D 193 L [.ref 146, .int (xJ a1)] d e (fun d1 e2 => P d1 e2) (fun d1 e2 => ((-2147483648 ≤ (d1 146 (13 : Int)) ∧ (d1 146 (13 : Int)) < 2147483648) ∧ P (xs d1 146 (13 : Int) (if (d1 146 (13 : Int)) = -1 then (d1 146 (12 : Int)) else (d1 146 (13 : Int)))) e2))) : yB D xm_c194 (yQv L P) L 0 [.ref 146, .int (xJ a1)] [] d e := by
  refine yb_aload rfl rfl ?_
  refine yb_iload (x := a1) rfl rfl ?_
  refine yb_callVz (As := [.int (xJ a1)]) (a := 146) rfl rfl rfl rfl rfl rfl rfl rfl (by decide) (by decide) (rfl) (by decide) (yZ_mono h (fun d1 e2 h => ?_) (fun d1 e2 h => ?_))
  · refine yb_if_ne (x := (1 : Int)) rfl rfl (by decide) (fun _ => ?_) (fun c => absurd c (by decide))
    exact yb_retv rfl h
  · refine yb_if_ne (x := (0 : Int)) rfl rfl (by decide) (fun c => absurd (by decide) c) (fun _ => ?_)
    refine yb_aload rfl rfl ?_
    refine yb_aload rfl rfl ?_
    refine yb_get (v := .int (xJ (d1 146 (12 : Int)))) rfl (by decide) (by decide) (rfl) rfl ?_
    have r3 := h.1
    replace h := h.2
    refine yb_callVv (As := [.int (xJ (d1 146 (12 : Int)))]) (a := 146) rfl rfl rfl rfl rfl rfl rfl rfl (by decide) (by decide) (rfl) (by decide) (sp_192 (by omega) r3 ?_)
    show yB D xm_c194 _ L 8 [.ref 146, .int (xJ a1)] [] (xs d1 146 (13 : Int) (if (d1 146 (13 : Int)) = -1 then (d1 146 (12 : Int)) else (d1 146 (13 : Int)))) e2
    exact yb_retv rfl h
theorem yk_195_0 {D L : Nat} {P : Int → xh_D → xd_E → Prop} {d : xh_D} {e : xd_E} {a1 : Int}   (hD : 2 ≤ D) (h : ((-2147483648 ≤ (d 146 (13 : Int)) ∧ (d 146 (13 : Int)) < 2147483648) ∧ ((((d 146 (13 : Int)) = -1) → (xm_hok d ∧ ((-2147483648 ≤ (xm_here d) ∧ (xm_here d) < 2147483648) ∧ ((-2147483648 ≤ ((48 : Int) + a1) ∧ ((48 : Int) + a1) < 2147483648) ∧ ((((48 : Int) ≤ (xm_here d) ∧ (xm_here d) ≤ ((48 : Int) + a1)) → (((d 146 (9 : Int)) = 150 → ((0 ≤ (((d 146 (12 : Int)) + (1 : Int)) - (1 : Int)) ∧ (((d 146 (12 : Int)) + (1 : Int)) - (1 : Int)) < 80) ∧ P ((d 150 (((d 146 (12 : Int)) + (1 : Int)) - (1 : Int))) - (48 : Int)) (xs d 146 (12 : Int) ((d 146 (12 : Int)) + (1 : Int))) e)) ∧ ((d 146 (9 : Int)) = 153 → ((0 ≤ (((d 146 (12 : Int)) + (1 : Int)) - (1 : Int)) ∧ (((d 146 (12 : Int)) + (1 : Int)) - (1 : Int)) < 40) ∧ P ((d 153 (((d 146 (12 : Int)) + (1 : Int)) - (1 : Int))) - (48 : Int)) (xs d 146 (12 : Int) ((d 146 (12 : Int)) + (1 : Int))) e)) ∧ ((d 146 (9 : Int)) = 150 ∨ (d 146 (9 : Int)) = 153))) ∧ (¬ ((48 : Int) ≤ (xm_here d) ∧ (xm_here d) ≤ ((48 : Int) + a1)) → P (0 : Int) (xs d 146 (13 : Int) (if (d 146 (13 : Int)) = -1 then (d 146 (12 : Int)) else (d 146 (13 : Int)))) e)))))) ∧ (¬ ((d 146 (13 : Int)) = -1) → P (0 : Int) d e)))) : yB D xm_c195 (yQi L P) L 0 [.ref 146, .int (xJ a1)] [] d e := by
  refine yb_aload rfl rfl ?_
  have r1 := h.1
  replace h := h.2
  refine yb_callVz (As := []) (a := 146) rfl rfl rfl rfl rfl rfl rfl rfl (by decide) (by decide) (rfl) (by decide) (sp_191 (by omega) r1 (fun c => ?_) (fun c => ?_))
  · replace h := h.1 c
    show yB D xm_c195 _ L 2 [.ref 146, .int (xJ a1)] [.int (xJ (1 : Int))] d e
    refine yb_if_ne (x := (1 : Int)) rfl rfl (by decide) (fun _ => ?_) (fun c => absurd c (by decide))
    refine yb_aload rfl rfl ?_
    have r2 := h.1
    replace h := h.2
    refine yb_callVi (As := []) (a := 146) rfl rfl rfl rfl rfl rfl rfl rfl (by decide) (by decide) (rfl) (by decide) (sp_190 (by omega) r2 ?_)
    show yB D xm_c195 _ L 7 [.ref 146, .int (xJ a1)] [.int (xJ (xm_here d))] d e
    refine yb_push (v := 48) rfl ?_
    refine yb_push (v := 48) rfl ?_
    refine yb_iload (x := a1) rfl rfl ?_
    refine yb_iadd (x := (48 : Int)) (y := a1) rfl ?_
    have r3 := h.1
    replace h := h.2
    have r4 := h.1
    replace h := h.2
    refine yb_callSz (As := [.int (xJ (xm_here d)), .int (xJ (48 : Int)), .int (xJ ((48 : Int) + a1))]) rfl rfl rfl rfl rfl rfl rfl rfl (by decide) (sp_180 (by omega) ⟨r3, (by show (-2147483648 ≤ (48 : Int) ∧ (48 : Int) < 2147483648); decide), r4⟩ (fun c => ?_) (fun c => ?_))
    · replace h := h.1 c
      show yB D xm_c195 _ L 12 [.ref 146, .int (xJ a1)] [.int (xJ (1 : Int))] d e
      refine yb_if_ne (x := (1 : Int)) rfl rfl (by decide) (fun _ => ?_) (fun c => absurd c (by decide))
      refine yb_aload rfl rfl ?_
      refine yb_dup rfl rfl ?_
      refine yb_get (v := .int (xJ (d 146 (12 : Int)))) rfl (by decide) (by decide) (rfl) rfl ?_
      refine yb_push (v := 1) rfl ?_
      refine yb_iadd (x := (d 146 (12 : Int))) (y := (1 : Int)) rfl ?_
      refine yb_put (z := ((d 146 (12 : Int)) + (1 : Int))) (k := 12) rfl rfl (by decide) (by decide) (rfl) (Nat.le_of_ble_eq_true rfl) rfl (rfl) ?_
      refine yb_aload rfl rfl ?_
      rcases h.2.2 with c | c
      · replace h := h.1 c
        refine yb_get (v := .ref 150) rfl (by decide) (by decide) rfl (by show some (xd_r (xJ (d 146 (9 : Int)))) = some (.ref 150); rw [c]; rfl) ?_
        refine yb_aload rfl rfl ?_
        refine yb_get (v := .int (xJ ((d 146 (12 : Int)) + (1 : Int)))) rfl (by decide) (by decide) (rfl) rfl ?_
        refine yb_push (v := 1) rfl ?_
        refine yb_isub (x := ((d 146 (12 : Int)) + (1 : Int))) (y := (1 : Int)) rfl ?_
        have r5 := h.1
        replace h := h.2
        refine yb_bald (j := (((d 146 (12 : Int)) + (1 : Int)) - (1 : Int))) rfl (by decide) xd_A150 r5 (v := (d 150 (((d 146 (12 : Int)) + (1 : Int)) - (1 : Int)))) (xs_np (by decide)) ?_
        refine yb_push (v := 48) rfl ?_
        refine yb_isub (x := (d 150 (((d 146 (12 : Int)) + (1 : Int)) - (1 : Int)))) (y := (48 : Int)) rfl ?_
        exact yb_ret rfl h
      · replace h := h.2.1 c
        refine yb_get (v := .ref 153) rfl (by decide) (by decide) rfl (by show some (xd_r (xJ (d 146 (9 : Int)))) = some (.ref 153); rw [c]; rfl) ?_
        refine yb_aload rfl rfl ?_
        refine yb_get (v := .int (xJ ((d 146 (12 : Int)) + (1 : Int)))) rfl (by decide) (by decide) (rfl) rfl ?_
        refine yb_push (v := 1) rfl ?_
        refine yb_isub (x := ((d 146 (12 : Int)) + (1 : Int))) (y := (1 : Int)) rfl ?_
        have r6 := h.1
        replace h := h.2
        refine yb_bald (j := (((d 146 (12 : Int)) + (1 : Int)) - (1 : Int))) rfl (by decide) xd_A153 r6 (v := (d 153 (((d 146 (12 : Int)) + (1 : Int)) - (1 : Int)))) (xs_np (by decide)) ?_
        refine yb_push (v := 48) rfl ?_
        refine yb_isub (x := (d 153 (((d 146 (12 : Int)) + (1 : Int)) - (1 : Int)))) (y := (48 : Int)) rfl ?_
        exact yb_ret rfl h
    · replace h := h.2 c
      show yB D xm_c195 _ L 12 [.ref 146, .int (xJ a1)] [.int (xJ (0 : Int))] d e
      refine yb_if_ne (x := (0 : Int)) rfl rfl (by decide) (fun c => absurd (by decide) c) (fun _ => ?_)
      refine yb_aload rfl rfl ?_
      refine yb_aload rfl rfl ?_
      refine yb_get (v := .int (xJ (d 146 (12 : Int)))) rfl (by decide) (by decide) (rfl) rfl ?_
      refine yb_callVv (As := [.int (xJ (d 146 (12 : Int)))]) (a := 146) rfl rfl rfl rfl rfl rfl rfl rfl (by decide) (by decide) (rfl) (by decide) (sp_192 (by omega) r1 ?_)
      show yB D xm_c195 _ L 17 [.ref 146, .int (xJ a1)] [] (xs d 146 (13 : Int) (if (d 146 (13 : Int)) = -1 then (d 146 (12 : Int)) else (d 146 (13 : Int)))) e
      refine yb_push (v := 0) rfl ?_
      exact yb_ret rfl h
  · replace h := h.2 c
    show yB D xm_c195 _ L 2 [.ref 146, .int (xJ a1)] [.int (xJ (0 : Int))] d e
    refine yb_if_ne (x := (0 : Int)) rfl rfl (by decide) (fun c => absurd (by decide) c) (fun _ => ?_)
    refine yb_push (v := 0) rfl ?_
    exact yb_ret rfl h
theorem yk_196_0 {D L : Nat} {P : Int → xh_D → xd_E → Prop} {d : xh_D} {e : xd_E}    (hD : 2 ≤ D) (h : ((-2147483648 ≤ (d 146 (13 : Int)) ∧ (d 146 (13 : Int)) < 2147483648) ∧ ((((d 146 (13 : Int)) = -1) → (xm_hok d ∧ ((-2147483648 ≤ (xm_here d) ∧ (xm_here d) < 2147483648) ∧ ((((97 : Int) ≤ (xm_here d) ∧ (xm_here d) ≤ (105 : Int)) → (((d 146 (9 : Int)) = 150 → ((0 ≤ (((d 146 (12 : Int)) + (1 : Int)) - (1 : Int)) ∧ (((d 146 (12 : Int)) + (1 : Int)) - (1 : Int)) < 80) ∧ P ((d 150 (((d 146 (12 : Int)) + (1 : Int)) - (1 : Int))) - (97 : Int)) (xs d 146 (12 : Int) ((d 146 (12 : Int)) + (1 : Int))) e)) ∧ ((d 146 (9 : Int)) = 153 → ((0 ≤ (((d 146 (12 : Int)) + (1 : Int)) - (1 : Int)) ∧ (((d 146 (12 : Int)) + (1 : Int)) - (1 : Int)) < 40) ∧ P ((d 153 (((d 146 (12 : Int)) + (1 : Int)) - (1 : Int))) - (97 : Int)) (xs d 146 (12 : Int) ((d 146 (12 : Int)) + (1 : Int))) e)) ∧ ((d 146 (9 : Int)) = 150 ∨ (d 146 (9 : Int)) = 153))) ∧ (¬ ((97 : Int) ≤ (xm_here d) ∧ (xm_here d) ≤ (105 : Int)) → P (0 : Int) (xs d 146 (13 : Int) (if (d 146 (13 : Int)) = -1 then (d 146 (12 : Int)) else (d 146 (13 : Int)))) e))))) ∧ (¬ ((d 146 (13 : Int)) = -1) → P (0 : Int) d e)))) : yB D xm_c196 (yQi L P) L 0 [.ref 146] [] d e := by
  refine yb_aload rfl rfl ?_
  have r1 := h.1
  replace h := h.2
  refine yb_callVz (As := []) (a := 146) rfl rfl rfl rfl rfl rfl rfl rfl (by decide) (by decide) (rfl) (by decide) (sp_191 (by omega) r1 (fun c => ?_) (fun c => ?_))
  · replace h := h.1 c
    show yB D xm_c196 _ L 2 [.ref 146] [.int (xJ (1 : Int))] d e
    refine yb_if_ne (x := (1 : Int)) rfl rfl (by decide) (fun _ => ?_) (fun c => absurd c (by decide))
    refine yb_aload rfl rfl ?_
    have r2 := h.1
    replace h := h.2
    refine yb_callVi (As := []) (a := 146) rfl rfl rfl rfl rfl rfl rfl rfl (by decide) (by decide) (rfl) (by decide) (sp_190 (by omega) r2 ?_)
    show yB D xm_c196 _ L 7 [.ref 146] [.int (xJ (xm_here d))] d e
    refine yb_push (v := 97) rfl ?_
    refine yb_push (v := 105) rfl ?_
    have r3 := h.1
    replace h := h.2
    refine yb_callSz (As := [.int (xJ (xm_here d)), .int (xJ (97 : Int)), .int (xJ (105 : Int))]) rfl rfl rfl rfl rfl rfl rfl rfl (by decide) (sp_180 (by omega) ⟨r3, (by show (-2147483648 ≤ (97 : Int) ∧ (97 : Int) < 2147483648); decide), (by show (-2147483648 ≤ (105 : Int) ∧ (105 : Int) < 2147483648); decide)⟩ (fun c => ?_) (fun c => ?_))
    · replace h := h.1 c
      show yB D xm_c196 _ L 10 [.ref 146] [.int (xJ (1 : Int))] d e
      refine yb_if_ne (x := (1 : Int)) rfl rfl (by decide) (fun _ => ?_) (fun c => absurd c (by decide))
      refine yb_aload rfl rfl ?_
      refine yb_dup rfl rfl ?_
      refine yb_get (v := .int (xJ (d 146 (12 : Int)))) rfl (by decide) (by decide) (rfl) rfl ?_
      refine yb_push (v := 1) rfl ?_
      refine yb_iadd (x := (d 146 (12 : Int))) (y := (1 : Int)) rfl ?_
      refine yb_put (z := ((d 146 (12 : Int)) + (1 : Int))) (k := 12) rfl rfl (by decide) (by decide) (rfl) (Nat.le_of_ble_eq_true rfl) rfl (rfl) ?_
      refine yb_aload rfl rfl ?_
      rcases h.2.2 with c | c
      · replace h := h.1 c
        refine yb_get (v := .ref 150) rfl (by decide) (by decide) rfl (by show some (xd_r (xJ (d 146 (9 : Int)))) = some (.ref 150); rw [c]; rfl) ?_
        refine yb_aload rfl rfl ?_
        refine yb_get (v := .int (xJ ((d 146 (12 : Int)) + (1 : Int)))) rfl (by decide) (by decide) (rfl) rfl ?_
        refine yb_push (v := 1) rfl ?_
        refine yb_isub (x := ((d 146 (12 : Int)) + (1 : Int))) (y := (1 : Int)) rfl ?_
        have r4 := h.1
        replace h := h.2
        refine yb_bald (j := (((d 146 (12 : Int)) + (1 : Int)) - (1 : Int))) rfl (by decide) xd_A150 r4 (v := (d 150 (((d 146 (12 : Int)) + (1 : Int)) - (1 : Int)))) (xs_np (by decide)) ?_
        refine yb_push (v := 97) rfl ?_
        refine yb_isub (x := (d 150 (((d 146 (12 : Int)) + (1 : Int)) - (1 : Int)))) (y := (97 : Int)) rfl ?_
        exact yb_ret rfl h
      · replace h := h.2.1 c
        refine yb_get (v := .ref 153) rfl (by decide) (by decide) rfl (by show some (xd_r (xJ (d 146 (9 : Int)))) = some (.ref 153); rw [c]; rfl) ?_
        refine yb_aload rfl rfl ?_
        refine yb_get (v := .int (xJ ((d 146 (12 : Int)) + (1 : Int)))) rfl (by decide) (by decide) (rfl) rfl ?_
        refine yb_push (v := 1) rfl ?_
        refine yb_isub (x := ((d 146 (12 : Int)) + (1 : Int))) (y := (1 : Int)) rfl ?_
        have r5 := h.1
        replace h := h.2
        refine yb_bald (j := (((d 146 (12 : Int)) + (1 : Int)) - (1 : Int))) rfl (by decide) xd_A153 r5 (v := (d 153 (((d 146 (12 : Int)) + (1 : Int)) - (1 : Int)))) (xs_np (by decide)) ?_
        refine yb_push (v := 97) rfl ?_
        refine yb_isub (x := (d 153 (((d 146 (12 : Int)) + (1 : Int)) - (1 : Int)))) (y := (97 : Int)) rfl ?_
        exact yb_ret rfl h
    · replace h := h.2 c
      show yB D xm_c196 _ L 10 [.ref 146] [.int (xJ (0 : Int))] d e
      refine yb_if_ne (x := (0 : Int)) rfl rfl (by decide) (fun c => absurd (by decide) c) (fun _ => ?_)
      refine yb_aload rfl rfl ?_
      refine yb_aload rfl rfl ?_
      refine yb_get (v := .int (xJ (d 146 (12 : Int)))) rfl (by decide) (by decide) (rfl) rfl ?_
      refine yb_callVv (As := [.int (xJ (d 146 (12 : Int)))]) (a := 146) rfl rfl rfl rfl rfl rfl rfl rfl (by decide) (by decide) (rfl) (by decide) (sp_192 (by omega) r1 ?_)
      show yB D xm_c196 _ L 15 [.ref 146] [] (xs d 146 (13 : Int) (if (d 146 (13 : Int)) = -1 then (d 146 (12 : Int)) else (d 146 (13 : Int)))) e
      refine yb_push (v := 0) rfl ?_
      exact yb_ret rfl h
  · replace h := h.2 c
    show yB D xm_c196 _ L 2 [.ref 146] [.int (xJ (0 : Int))] d e
    refine yb_if_ne (x := (0 : Int)) rfl rfl (by decide) (fun c => absurd (by decide) c) (fun _ => ?_)
    refine yb_push (v := 0) rfl ?_
    exact yb_ret rfl h
theorem yk_197_0 {D L : Nat} {P : Int → xh_D → xd_E → Prop} {d : xh_D} {e : xd_E}    (hD : 1 ≤ D) (h : ((-2147483648 ≤ (d 146 (5 : Int)) ∧ (d 146 (5 : Int)) < 2147483648) ∧ (((¬ (d 146 (5 : Int)) = 0) → yB D xm_c197 (yQi L P) L 22 [.ref 146, .int (xJ (0 : Int)), .int (xJ (1 : Int)), .double 0] [] (xs (xs (xs (xs (xs (xs (xs d 146 (8 : Int) (0 : Int)) 146 (9 : Int) (150 : Int)) 146 (10 : Int) (d 146 (5 : Int))) 146 (11 : Int) (76 : Int)) 146 (12 : Int) (0 : Int)) 146 (13 : Int) (-1 : Int)) 146 (5 : Int) (0 : Int)) e) ∧ (((d 146 (5 : Int)) = 0) → P (0 : Int) (xs (xs (xs (xs (xs (xs (xs d 146 (8 : Int) (0 : Int)) 146 (9 : Int) (150 : Int)) 146 (10 : Int) (d 146 (5 : Int))) 146 (11 : Int) (76 : Int)) 146 (12 : Int) (0 : Int)) 146 (13 : Int) (-1 : Int)) 146 (5 : Int) (0 : Int)) e)))) : yB D xm_c197 (yQi L P) L 0 [.ref 146, .double 0, .double 0, .double 0] [] d e := by
  refine yb_aload rfl rfl ?_
  refine yb_push (v := 0) rfl ?_
  refine yb_put (z := (0 : Int)) (k := 8) rfl rfl (by decide) (by decide) (rfl) (Nat.le_of_ble_eq_true rfl) rfl (rfl) ?_
  refine yb_aload rfl rfl ?_
  refine yb_aload rfl rfl ?_
  refine yb_get (v := .ref 150) rfl (by decide) (by decide) (rfl) rfl ?_
  refine yb_aload rfl rfl ?_
  refine yb_get (v := .int (xJ (d 146 (5 : Int)))) rfl (by decide) (by decide) (rfl) rfl ?_
  refine yb_push (v := 76) rfl ?_
  refine yb_callVv (As := [.ref 150, .int (xJ (d 146 (5 : Int))), .int (xJ (76 : Int))]) (a := 146) rfl rfl rfl rfl rfl rfl rfl rfl (by decide) (by decide) (rfl) (by decide) (sp_189_150 (by omega) ?_)
  show yB D xm_c197 _ L 10 [.ref 146, .double 0, .double 0, .double 0] [] (xs (xs (xs (xs (xs (xs d 146 (8 : Int) (0 : Int)) 146 (9 : Int) (150 : Int)) 146 (10 : Int) (d 146 (5 : Int))) 146 (11 : Int) (76 : Int)) 146 (12 : Int) (0 : Int)) 146 (13 : Int) (-1 : Int)) e
  refine yb_aload rfl rfl ?_
  refine yb_push (v := 0) rfl ?_
  refine yb_put (z := (0 : Int)) (k := 5) rfl rfl (by decide) (by decide) (rfl) (Nat.le_of_ble_eq_true rfl) rfl (rfl) ?_
  refine yb_aload rfl rfl ?_
  refine yb_get (v := .int (xJ (d 146 (5 : Int)))) rfl (by decide) (by decide) (rfl) rfl ?_
  have r1 := h.1
  replace h := h.2
  refine yb_if_ne (x := (d 146 (5 : Int))) rfl rfl r1 (fun c => ?_) (fun c => ?_)
  · replace h := h.1 c
    refine yb_push (v := 0) rfl ?_
    refine yb_istore rfl rfl rfl ?_
    refine yb_push (v := 1) rfl ?_
    refine yb_istore rfl rfl rfl ?_
    exact h
  · replace h := h.2 c
    refine yb_push (v := 0) rfl ?_
    exact yb_ret rfl h
theorem yk_197_22 {D L : Nat} {P : Int → xh_D → xd_E → Prop} {d : xh_D} {e : xd_E}  {l1 : Int} {l2 : Int}  (hD : 2 ≤ D) (h : ((-2147483648 ≤ l2 ∧ l2 < 2147483648) ∧ (((l2 = 0) → yB D xm_c197 (yQi L P) L 49 [.ref 146, .int (xJ l1), .double 0, .double 0] [] d e) ∧ ((¬ l2 = 0) → ((-2147483648 ≤ (d 146 (13 : Int)) ∧ (d 146 (13 : Int)) < 2147483648) ∧ ((((d 146 (13 : Int)) = -1) → ((-2147483648 ≤ ((d 146 (1 : Int)) + l1) ∧ ((d 146 (1 : Int)) + l1) < 2147483648) ∧ (((¬ ((d 146 (1 : Int)) + l1) = (9 : Int)) → yV D 198 L [.ref 146, .int (xJ ((3 : Int) * l1))] d e (fun d4 e5 => yZ D 193 L [.ref 146, .int (xJ (59 : Int))] d4 e5 (fun d6 e7 => yB D xm_c197 (yQi L P) L 22 [.ref 146, .int (xJ (l1 + 1)), .int (xJ (1 : Int)), .double 0] [] d6 e7) (fun d6 e7 => yB D xm_c197 (yQi L P) L 22 [.ref 146, .int (xJ (l1 + 1)), .int (xJ (0 : Int)), .double 0] [] d6 e7))) ∧ ((((d 146 (1 : Int)) + l1) = (9 : Int)) → yZ D 193 L [.ref 146, .int (xJ (59 : Int))] (xs d 146 (13 : Int) (if (d 146 (13 : Int)) = -1 then (d 146 (12 : Int)) else (d 146 (13 : Int)))) e (fun d8 e9 => yB D xm_c197 (yQi L P) L 22 [.ref 146, .int (xJ (l1 + 1)), .int (xJ (1 : Int)), .double 0] [] d8 e9) (fun d8 e9 => yB D xm_c197 (yQi L P) L 22 [.ref 146, .int (xJ (l1 + 1)), .int (xJ (0 : Int)), .double 0] [] d8 e9))))) ∧ (¬ ((d 146 (13 : Int)) = -1) → yB D xm_c197 (yQi L P) L 49 [.ref 146, .int (xJ l1), .double 0, .double 0] [] d e))))))) : yB D xm_c197 (yQi L P) L 22 [.ref 146, .int (xJ l1), .int (xJ l2), .double 0] [] d e := by
  refine yb_iload (x := l2) rfl rfl ?_
  have r1 := h.1
  replace h := h.2
  refine yb_if_eq (x := l2) rfl rfl r1 (fun c => ?_) (fun c => ?_)
  · replace h := h.1 c
    refine yb_forget (dl := [.ref 146, .int (xJ l1), .double 0, .double 0]) ⟨Or.inl rfl, ⟨Or.inl rfl, ⟨Or.inr ⟨rfl, rfl⟩, ⟨Or.inl rfl, trivial⟩⟩⟩⟩ ?_
    exact h
  · replace h := h.2 c
    refine yb_aload rfl rfl ?_
    have r2 := h.1
    replace h := h.2
    refine yb_callVz (As := []) (a := 146) rfl rfl rfl rfl rfl rfl rfl rfl (by decide) (by decide) (rfl) (by decide) (sp_191 (by omega) r2 (fun c => ?_) (fun c => ?_))
    · replace h := h.1 c
      show yB D xm_c197 _ L 26 [.ref 146, .int (xJ l1), .int (xJ l2), .double 0] [.int (xJ (1 : Int))] d e
      refine yb_if_eq (x := (1 : Int)) rfl rfl (by decide) (fun c => absurd c (by decide)) (fun _ => ?_)
      refine yb_aload rfl rfl ?_
      refine yb_get (v := .int (xJ (d 146 (1 : Int)))) rfl (by decide) (by decide) (rfl) rfl ?_
      refine yb_iload (x := l1) rfl rfl ?_
      refine yb_iadd (x := (d 146 (1 : Int))) (y := l1) rfl ?_
      refine yb_push (v := 9) rfl ?_
      have r3 := h.1
      replace h := h.2
      refine yb_icmp_ne (x := ((d 146 (1 : Int)) + l1)) (y := (9 : Int)) rfl rfl r3 (by decide) (fun c => ?_) (fun c => ?_)
      · replace h := h.1 c
        refine yb_aload rfl rfl ?_
        refine yb_push (v := 3) rfl ?_
        refine yb_iload (x := l1) rfl rfl ?_
        refine yb_imul (x := (3 : Int)) (y := l1) rfl ?_
        refine yb_callVv (As := [.int (xJ ((3 : Int) * l1))]) (a := 146) rfl rfl rfl rfl rfl rfl rfl rfl (by decide) (by decide) (rfl) (by decide) (yV_mono h (fun d4 e5 h => ?_))
        refine yb_iinc (x := l1) (n := 1) rfl rfl rfl rfl ?_
        refine yb_aload rfl rfl ?_
        refine yb_push (v := 59) rfl ?_
        refine yb_callVz (As := [.int (xJ (59 : Int))]) (a := 146) rfl rfl rfl rfl rfl rfl rfl rfl (by decide) (by decide) (rfl) (by decide) (yZ_mono h (fun d6 e7 h => ?_) (fun d6 e7 h => ?_))
        · refine yb_istore rfl rfl rfl ?_
          refine yb_goto rfl rfl ?_
          exact h
        · refine yb_istore rfl rfl rfl ?_
          refine yb_goto rfl rfl ?_
          exact h
      · replace h := h.2 c
        refine yb_aload rfl rfl ?_
        refine yb_aload rfl rfl ?_
        refine yb_get (v := .int (xJ (d 146 (12 : Int)))) rfl (by decide) (by decide) (rfl) rfl ?_
        refine yb_callVv (As := [.int (xJ (d 146 (12 : Int)))]) (a := 146) rfl rfl rfl rfl rfl rfl rfl rfl (by decide) (by decide) (rfl) (by decide) (sp_192 (by omega) r2 ?_)
        show yB D xm_c197 _ L 37 [.ref 146, .int (xJ l1), .int (xJ l2), .double 0] [] (xs d 146 (13 : Int) (if (d 146 (13 : Int)) = -1 then (d 146 (12 : Int)) else (d 146 (13 : Int)))) e
        refine yb_goto rfl rfl ?_
        refine yb_iinc (x := l1) (n := 1) rfl rfl rfl rfl ?_
        refine yb_aload rfl rfl ?_
        refine yb_push (v := 59) rfl ?_
        refine yb_callVz (As := [.int (xJ (59 : Int))]) (a := 146) rfl rfl rfl rfl rfl rfl rfl rfl (by decide) (by decide) (rfl) (by decide) (yZ_mono h (fun d8 e9 h => ?_) (fun d8 e9 h => ?_))
        · refine yb_istore rfl rfl rfl ?_
          refine yb_goto rfl rfl ?_
          exact h
        · refine yb_istore rfl rfl rfl ?_
          refine yb_goto rfl rfl ?_
          exact h
    · replace h := h.2 c
      show yB D xm_c197 _ L 26 [.ref 146, .int (xJ l1), .int (xJ l2), .double 0] [.int (xJ (0 : Int))] d e
      refine yb_if_eq (x := (0 : Int)) rfl rfl (by decide) (fun _ => ?_) (fun c => absurd (by decide) c)
      refine yb_forget (dl := [.ref 146, .int (xJ l1), .double 0, .double 0]) ⟨Or.inl rfl, ⟨Or.inl rfl, ⟨Or.inr ⟨rfl, rfl⟩, ⟨Or.inl rfl, trivial⟩⟩⟩⟩ ?_
      exact h
theorem yk_197_49 {D L : Nat} {P : Int → xh_D → xd_E → Prop} {d : xh_D} {e : xd_E}  {l1 : Int}  (hD : 2 ≤ D) (h : ((-2147483648 ≤ (d 146 (12 : Int)) ∧ (d 146 (12 : Int)) < 2147483648) ∧ ((-2147483648 ≤ (d 146 (10 : Int)) ∧ (d 146 (10 : Int)) < 2147483648) ∧ ((((d 146 (10 : Int)) ≤ (d 146 (12 : Int))) → ((-2147483648 ≤ (d 146 (13 : Int)) ∧ (d 146 (13 : Int)) < 2147483648) ∧ ((((d 146 (13 : Int)) = -1) → yB D xm_c197 (yQi L P) L 68 [.ref 146, .int (xJ l1), .double 0, .int (xJ (0 : Int))] [] d e) ∧ (¬ ((d 146 (13 : Int)) = -1) → P ((-1 : Int) - (d 146 (13 : Int))) d e)))) ∧ ((¬ (d 146 (10 : Int)) ≤ (d 146 (12 : Int))) → ((-2147483648 ≤ (d 146 (13 : Int)) ∧ (d 146 (13 : Int)) < 2147483648) ∧ ((-2147483648 ≤ (if (d 146 (13 : Int)) = -1 then (d 146 (12 : Int)) else (d 146 (13 : Int))) ∧ (if (d 146 (13 : Int)) = -1 then (d 146 (12 : Int)) else (d 146 (13 : Int))) < 2147483648) ∧ ((((if (d 146 (13 : Int)) = -1 then (d 146 (12 : Int)) else (d 146 (13 : Int))) = -1) → yB D xm_c197 (yQi L P) L 68 [.ref 146, .int (xJ l1), .double 0, .int (xJ (0 : Int))] [] (xs d 146 (13 : Int) (if (d 146 (13 : Int)) = -1 then (d 146 (12 : Int)) else (d 146 (13 : Int)))) e) ∧ (¬ ((if (d 146 (13 : Int)) = -1 then (d 146 (12 : Int)) else (d 146 (13 : Int))) = -1) → P ((-1 : Int) - (if (d 146 (13 : Int)) = -1 then (d 146 (12 : Int)) else (d 146 (13 : Int)))) (xs d 146 (13 : Int) (if (d 146 (13 : Int)) = -1 then (d 146 (12 : Int)) else (d 146 (13 : Int)))) e))))))))) : yB D xm_c197 (yQi L P) L 49 [.ref 146, .int (xJ l1), .double 0, .double 0] [] d e := by
  refine yb_aload rfl rfl ?_
  refine yb_get (v := .int (xJ (d 146 (12 : Int)))) rfl (by decide) (by decide) (rfl) rfl ?_
  refine yb_aload rfl rfl ?_
  refine yb_get (v := .int (xJ (d 146 (10 : Int)))) rfl (by decide) (by decide) (rfl) rfl ?_
  have r1 := h.1
  replace h := h.2
  have r2 := h.1
  replace h := h.2
  refine yb_icmp_ge (x := (d 146 (12 : Int))) (y := (d 146 (10 : Int))) rfl rfl r1 r2 (fun c => ?_) (fun c => ?_)
  · replace h := h.1 c
    refine yb_aload rfl rfl ?_
    have r3 := h.1
    replace h := h.2
    refine yb_callVz (As := []) (a := 146) rfl rfl rfl rfl rfl rfl rfl rfl (by decide) (by decide) (rfl) (by decide) (sp_191 (by omega) r3 (fun c => ?_) (fun c => ?_))
    · replace h := h.1 c
      show yB D xm_c197 _ L 60 [.ref 146, .int (xJ l1), .double 0, .double 0] [.int (xJ (1 : Int))] d e
      refine yb_if_ne (x := (1 : Int)) rfl rfl (by decide) (fun _ => ?_) (fun c => absurd c (by decide))
      refine yb_push (v := 0) rfl ?_
      refine yb_istore rfl rfl rfl ?_
      exact h
    · replace h := h.2 c
      show yB D xm_c197 _ L 60 [.ref 146, .int (xJ l1), .double 0, .double 0] [.int (xJ (0 : Int))] d e
      refine yb_if_ne (x := (0 : Int)) rfl rfl (by decide) (fun c => absurd (by decide) c) (fun _ => ?_)
      refine yb_push (v := (-1)) rfl ?_
      refine yb_aload rfl rfl ?_
      refine yb_get (v := .int (xJ (d 146 (13 : Int)))) rfl (by decide) (by decide) (rfl) rfl ?_
      refine yb_isub (x := (-1 : Int)) (y := (d 146 (13 : Int))) rfl ?_
      exact yb_ret rfl h
  · replace h := h.2 c
    refine yb_aload rfl rfl ?_
    refine yb_aload rfl rfl ?_
    refine yb_get (v := .int (xJ (d 146 (12 : Int)))) rfl (by decide) (by decide) (rfl) rfl ?_
    have r4 := h.1
    replace h := h.2
    refine yb_callVv (As := [.int (xJ (d 146 (12 : Int)))]) (a := 146) rfl rfl rfl rfl rfl rfl rfl rfl (by decide) (by decide) (rfl) (by decide) (sp_192 (by omega) r4 ?_)
    show yB D xm_c197 _ L 58 [.ref 146, .int (xJ l1), .double 0, .double 0] [] (xs d 146 (13 : Int) (if (d 146 (13 : Int)) = -1 then (d 146 (12 : Int)) else (d 146 (13 : Int)))) e
    refine yb_aload rfl rfl ?_
    have r5 := h.1
    replace h := h.2
    refine yb_callVz (As := []) (a := 146) rfl rfl rfl rfl rfl rfl rfl rfl (by decide) (by decide) (rfl) (by decide) (sp_191 (by omega) r5 (fun c => ?_) (fun c => ?_))
    · replace h := h.1 c
      show yB D xm_c197 _ L 60 [.ref 146, .int (xJ l1), .double 0, .double 0] [.int (xJ (1 : Int))] (xs d 146 (13 : Int) (if (d 146 (13 : Int)) = -1 then (d 146 (12 : Int)) else (d 146 (13 : Int)))) e
      refine yb_if_ne (x := (1 : Int)) rfl rfl (by decide) (fun _ => ?_) (fun c => absurd c (by decide))
      refine yb_push (v := 0) rfl ?_
      refine yb_istore rfl rfl rfl ?_
      exact h
    · replace h := h.2 c
      show yB D xm_c197 _ L 60 [.ref 146, .int (xJ l1), .double 0, .double 0] [.int (xJ (0 : Int))] (xs d 146 (13 : Int) (if (d 146 (13 : Int)) = -1 then (d 146 (12 : Int)) else (d 146 (13 : Int)))) e
      refine yb_if_ne (x := (0 : Int)) rfl rfl (by decide) (fun c => absurd (by decide) c) (fun _ => ?_)
      refine yb_push (v := (-1)) rfl ?_
      refine yb_aload rfl rfl ?_
      refine yb_get (v := .int (xJ (if (d 146 (13 : Int)) = -1 then (d 146 (12 : Int)) else (d 146 (13 : Int))))) rfl (by decide) (by decide) (rfl) rfl ?_
      refine yb_isub (x := (-1 : Int)) (y := (if (d 146 (13 : Int)) = -1 then (d 146 (12 : Int)) else (d 146 (13 : Int)))) rfl ?_
      exact yb_ret rfl h
theorem yk_197_68 {D L : Nat} {P : Int → xh_D → xd_E → Prop} {d : xh_D} {e : xd_E}  {l1 : Int} {l3 : Int}  (h : ((-2147483648 ≤ l3 ∧ l3 < 2147483648) ∧ ((-2147483648 ≤ l1 ∧ l1 < 2147483648) ∧ (((l1 ≤ l3) → P l1 d e) ∧ ((¬ l1 ≤ l3) → ((0 ≤ ((3 : Int) * l3) ∧ ((3 : Int) * l3) < 27) ∧ ((0 ≤ (((3 : Int) * l3) + (1 : Int)) ∧ (((3 : Int) * l3) + (1 : Int)) < 27) ∧ ((0 ≤ (((3 : Int) * l3) + (2 : Int)) ∧ (((3 : Int) * l3) + (2 : Int)) < 27) ∧ yV D 199 L [.ref 146, .int (xJ (d 152 ((3 : Int) * l3))), .int (xJ (d 152 (((3 : Int) * l3) + (1 : Int)))), .int (xJ (d 152 (((3 : Int) * l3) + (2 : Int))))] d e (fun d6 e7 => yB D xm_c197 (yQi L P) L 68 [.ref 146, .int (xJ l1), .double 0, .int (xJ (l3 + 1))] [] d6 e7))))))))) : yB D xm_c197 (yQi L P) L 68 [.ref 146, .int (xJ l1), .double 0, .int (xJ l3)] [] d e := by
  refine yb_iload (x := l3) rfl rfl ?_
  refine yb_iload (x := l1) rfl rfl ?_
  have r1 := h.1
  replace h := h.2
  have r2 := h.1
  replace h := h.2
  refine yb_icmp_ge (x := l3) (y := l1) rfl rfl r1 r2 (fun c => ?_) (fun c => ?_)
  · replace h := h.1 c
    refine yb_iload (x := l1) rfl rfl ?_
    exact yb_ret rfl h
  · replace h := h.2 c
    refine yb_aload rfl rfl ?_
    refine yb_aload rfl rfl ?_
    refine yb_get (v := .ref 152) rfl (by decide) (by decide) (rfl) rfl ?_
    refine yb_push (v := 3) rfl ?_
    refine yb_iload (x := l3) rfl rfl ?_
    refine yb_imul (x := (3 : Int)) (y := l3) rfl ?_
    have r3 := h.1
    replace h := h.2
    refine yb_iald (j := ((3 : Int) * l3)) rfl xd_A152 (by decide) r3 (v := (d 152 ((3 : Int) * l3))) rfl ?_
    refine yb_aload rfl rfl ?_
    refine yb_get (v := .ref 152) rfl (by decide) (by decide) (rfl) rfl ?_
    refine yb_push (v := 3) rfl ?_
    refine yb_iload (x := l3) rfl rfl ?_
    refine yb_imul (x := (3 : Int)) (y := l3) rfl ?_
    refine yb_push (v := 1) rfl ?_
    refine yb_iadd (x := ((3 : Int) * l3)) (y := (1 : Int)) rfl ?_
    have r4 := h.1
    replace h := h.2
    refine yb_iald (j := (((3 : Int) * l3) + (1 : Int))) rfl xd_A152 (by decide) r4 (v := (d 152 (((3 : Int) * l3) + (1 : Int)))) rfl ?_
    refine yb_aload rfl rfl ?_
    refine yb_get (v := .ref 152) rfl (by decide) (by decide) (rfl) rfl ?_
    refine yb_push (v := 3) rfl ?_
    refine yb_iload (x := l3) rfl rfl ?_
    refine yb_imul (x := (3 : Int)) (y := l3) rfl ?_
    refine yb_push (v := 2) rfl ?_
    refine yb_iadd (x := ((3 : Int) * l3)) (y := (2 : Int)) rfl ?_
    have r5 := h.1
    replace h := h.2
    refine yb_iald (j := (((3 : Int) * l3) + (2 : Int))) rfl xd_A152 (by decide) r5 (v := (d 152 (((3 : Int) * l3) + (2 : Int)))) rfl ?_
    refine yb_callVv (As := [.int (xJ (d 152 ((3 : Int) * l3))), .int (xJ (d 152 (((3 : Int) * l3) + (1 : Int)))), .int (xJ (d 152 (((3 : Int) * l3) + (2 : Int))))]) (a := 146) rfl rfl rfl rfl rfl rfl rfl rfl (by decide) (by decide) (rfl) (by decide) (yV_mono h (fun d6 e7 h => ?_))
    refine yb_iinc (x := l3) (n := 1) rfl rfl rfl rfl ?_
    refine yb_goto rfl rfl ?_
    exact h
theorem yk_198_0 {D L : Nat} {P : xh_D → xd_E → Prop} {d : xh_D} {e : xd_E} {a1 : Int}   (h : yC D 195 L [.ref 146, .int (xJ (8 : Int))] d e (fun x1 d2 e3 => ((0 ≤ a1 ∧ a1 < 27) ∧ yC D 195 L [.ref 146, .int (xJ (8 : Int))] (xs d2 152 a1 x1) e3 (fun x5 d6 e7 => ((0 ≤ (a1 + (1 : Int)) ∧ (a1 + (1 : Int)) < 27) ∧ ((0 ≤ (a1 + (2 : Int)) ∧ (a1 + (2 : Int)) < 27) ∧ yB D xm_c198 (yQv L P) L 25 [.ref 146, .int (xJ a1), .int (xJ (-1 : Int)), .double 0] [] (xs (xs d6 152 (a1 + (1 : Int)) x5) 152 (a1 + (2 : Int)) (0 : Int)) e7)))))) : yB D xm_c198 (yQv L P) L 0 [.ref 146, .int (xJ a1), .double 0, .double 0] [] d e := by
  refine yb_aload rfl rfl ?_
  refine yb_get (v := .ref 152) rfl (by decide) (by decide) (rfl) rfl ?_
  refine yb_iload (x := a1) rfl rfl ?_
  refine yb_aload rfl rfl ?_
  refine yb_push (v := 8) rfl ?_
  refine yb_callVi (As := [.int (xJ (8 : Int))]) (a := 146) rfl rfl rfl rfl rfl rfl rfl rfl (by decide) (by decide) (rfl) (by show (2 : Nat) ≤ 8; decide) (yC_mono h (fun x1 d2 e3 h => ?_))
  have r4 := h.1
  replace h := h.2
  refine yb_iast (j := a1) (x := x1) rfl xd_A152 (by decide) r4 ?_
  refine yb_aload rfl rfl ?_
  refine yb_get (v := .ref 152) rfl (by decide) (by decide) (rfl) rfl ?_
  refine yb_iload (x := a1) rfl rfl ?_
  refine yb_push (v := 1) rfl ?_
  refine yb_iadd (x := a1) (y := (1 : Int)) rfl ?_
  refine yb_aload rfl rfl ?_
  refine yb_push (v := 8) rfl ?_
  refine yb_callVi (As := [.int (xJ (8 : Int))]) (a := 146) rfl rfl rfl rfl rfl rfl rfl rfl (by decide) (by decide) (rfl) (by show (2 : Nat) ≤ 8; decide) (yC_mono h (fun x5 d6 e7 h => ?_))
  have r8 := h.1
  replace h := h.2
  refine yb_iast (j := (a1 + (1 : Int))) (x := x5) rfl xd_A152 (by decide) r8 ?_
  refine yb_aload rfl rfl ?_
  refine yb_get (v := .ref 152) rfl (by decide) (by decide) (rfl) rfl ?_
  refine yb_iload (x := a1) rfl rfl ?_
  refine yb_push (v := 2) rfl ?_
  refine yb_iadd (x := a1) (y := (2 : Int)) rfl ?_
  refine yb_push (v := 0) rfl ?_
  have r9 := h.1
  replace h := h.2
  refine yb_iast (j := (a1 + (2 : Int))) (x := (0 : Int)) rfl xd_A152 (by decide) r9 ?_
  refine yb_push (v := (-1)) rfl ?_
  refine yb_istore rfl rfl rfl ?_
  exact h
theorem yk_198_25 {D L : Nat} {P : xh_D → xd_E → Prop} {d : xh_D} {e : xd_E}  {l1 : Int} {l2 : Int}  (hD : 2 ≤ D) (h : ((-2147483648 ≤ (d 146 (13 : Int)) ∧ (d 146 (13 : Int)) < 2147483648) ∧ ((((d 146 (13 : Int)) = -1) → (xm_hok d ∧ ((-2147483648 ≤ (xm_here d) ∧ (xm_here d) < 2147483648) ∧ ((((112 : Int) ≤ (xm_here d) ∧ (xm_here d) ≤ (117 : Int)) → ((-2147483648 ≤ ((xm_here d) - (112 : Int)) ∧ ((xm_here d) - (112 : Int)) < 2147483648) ∧ ((-2147483648 ≤ l2 ∧ l2 < 2147483648) ∧ (((l2 < ((xm_here d) - (112 : Int))) → ((0 ≤ (l1 + (2 : Int)) ∧ (l1 + (2 : Int)) < 27) ∧ yB D xm_c198 (yQv L P) L 25 [.ref 146, .int (xJ l1), .int (xJ ((xm_here d) - (112 : Int))), .double 0] [] (xs (xs d 152 (l1 + (2 : Int)) (xi_or (d 152 (l1 + (2 : Int))) (xi_shl (1 : Int) ((xm_here d) - (112 : Int))))) 146 (12 : Int) ((d 146 (12 : Int)) + (1 : Int))) e)) ∧ ((¬ l2 < ((xm_here d) - (112 : Int))) → yB D xm_c198 (yQv L P) L 25 [.ref 146, .int (xJ l1), .int (xJ l2), .double 0] [] (xs d 146 (13 : Int) (if (d 146 (13 : Int)) = -1 then (d 146 (12 : Int)) else (d 146 (13 : Int)))) e))))) ∧ (¬ ((112 : Int) ≤ (xm_here d) ∧ (xm_here d) ≤ (117 : Int)) → P d e))))) ∧ (¬ ((d 146 (13 : Int)) = -1) → P d e)))) : yB D xm_c198 (yQv L P) L 25 [.ref 146, .int (xJ l1), .int (xJ l2), .double 0] [] d e := by
  refine yb_aload rfl rfl ?_
  have r1 := h.1
  replace h := h.2
  refine yb_callVz (As := []) (a := 146) rfl rfl rfl rfl rfl rfl rfl rfl (by decide) (by decide) (rfl) (by decide) (sp_191 (by omega) r1 (fun c => ?_) (fun c => ?_))
  · replace h := h.1 c
    show yB D xm_c198 _ L 27 [.ref 146, .int (xJ l1), .int (xJ l2), .double 0] [.int (xJ (1 : Int))] d e
    refine yb_if_eq (x := (1 : Int)) rfl rfl (by decide) (fun c => absurd c (by decide)) (fun _ => ?_)
    refine yb_aload rfl rfl ?_
    have r2 := h.1
    replace h := h.2
    refine yb_callVi (As := []) (a := 146) rfl rfl rfl rfl rfl rfl rfl rfl (by decide) (by decide) (rfl) (by decide) (sp_190 (by omega) r2 ?_)
    show yB D xm_c198 _ L 30 [.ref 146, .int (xJ l1), .int (xJ l2), .double 0] [.int (xJ (xm_here d))] d e
    refine yb_push (v := 112) rfl ?_
    refine yb_push (v := 117) rfl ?_
    have r3 := h.1
    replace h := h.2
    refine yb_callSz (As := [.int (xJ (xm_here d)), .int (xJ (112 : Int)), .int (xJ (117 : Int))]) rfl rfl rfl rfl rfl rfl rfl rfl (by decide) (sp_180 (by omega) ⟨r3, (by show (-2147483648 ≤ (112 : Int) ∧ (112 : Int) < 2147483648); decide), (by show (-2147483648 ≤ (117 : Int) ∧ (117 : Int) < 2147483648); decide)⟩ (fun c => ?_) (fun c => ?_))
    · replace h := h.1 c
      show yB D xm_c198 _ L 33 [.ref 146, .int (xJ l1), .int (xJ l2), .double 0] [.int (xJ (1 : Int))] d e
      refine yb_if_eq (x := (1 : Int)) rfl rfl (by decide) (fun c => absurd c (by decide)) (fun _ => ?_)
      refine yb_aload rfl rfl ?_
      refine yb_callVi (As := []) (a := 146) rfl rfl rfl rfl rfl rfl rfl rfl (by decide) (by decide) (rfl) (by decide) (sp_190 (by omega) r2 ?_)
      show yB D xm_c198 _ L 36 [.ref 146, .int (xJ l1), .int (xJ l2), .double 0] [.int (xJ (xm_here d))] d e
      refine yb_push (v := 112) rfl ?_
      refine yb_isub (x := (xm_here d)) (y := (112 : Int)) rfl ?_
      refine yb_istore rfl rfl rfl ?_
      refine yb_iload (x := ((xm_here d) - (112 : Int))) rfl rfl ?_
      refine yb_iload (x := l2) rfl rfl ?_
      have r4 := h.1
      replace h := h.2
      have r5 := h.1
      replace h := h.2
      refine yb_icmp_gt (x := ((xm_here d) - (112 : Int))) (y := l2) rfl rfl r4 r5 (fun c => ?_) (fun c => ?_)
      · replace h := h.1 c
        refine yb_aload rfl rfl ?_
        refine yb_get (v := .ref 152) rfl (by decide) (by decide) (rfl) rfl ?_
        refine yb_iload (x := l1) rfl rfl ?_
        refine yb_push (v := 2) rfl ?_
        refine yb_iadd (x := l1) (y := (2 : Int)) rfl ?_
        refine yb_dup2 rfl rfl rfl ?_
        have r6 := h.1
        replace h := h.2
        refine yb_iald (j := (l1 + (2 : Int))) rfl xd_A152 (by decide) r6 (v := (d 152 (l1 + (2 : Int)))) rfl ?_
        refine yb_push (v := 1) rfl ?_
        refine yb_iload (x := ((xm_here d) - (112 : Int))) rfl rfl ?_
        refine yb_ishl (x := (1 : Int)) (y := ((xm_here d) - (112 : Int))) rfl ?_
        refine yb_ior (x := (d 152 (l1 + (2 : Int)))) (y := (xi_shl (1 : Int) ((xm_here d) - (112 : Int)))) rfl ?_
        refine yb_iast (j := (l1 + (2 : Int))) (x := (xi_or (d 152 (l1 + (2 : Int))) (xi_shl (1 : Int) ((xm_here d) - (112 : Int))))) rfl xd_A152 (by decide) r6 ?_
        refine yb_iload (x := ((xm_here d) - (112 : Int))) rfl rfl ?_
        refine yb_istore rfl rfl rfl ?_
        refine yb_aload rfl rfl ?_
        refine yb_dup rfl rfl ?_
        refine yb_get (v := .int (xJ (d 146 (12 : Int)))) rfl (by decide) (by decide) (rfl) rfl ?_
        refine yb_push (v := 1) rfl ?_
        refine yb_iadd (x := (d 146 (12 : Int))) (y := (1 : Int)) rfl ?_
        refine yb_put (z := ((d 146 (12 : Int)) + (1 : Int))) (k := 12) rfl rfl (by decide) (by decide) (rfl) (Nat.le_of_ble_eq_true rfl) rfl (rfl) ?_
        refine yb_goto rfl rfl ?_
        refine yb_forget (dl := [.ref 146, .int (xJ l1), .int (xJ ((xm_here d) - (112 : Int))), .double 0]) ⟨Or.inl rfl, ⟨Or.inl rfl, ⟨Or.inl rfl, ⟨Or.inr ⟨rfl, rfl⟩, trivial⟩⟩⟩⟩ ?_
        exact h
      · replace h := h.2 c
        refine yb_aload rfl rfl ?_
        refine yb_aload rfl rfl ?_
        refine yb_get (v := .int (xJ (d 146 (12 : Int)))) rfl (by decide) (by decide) (rfl) rfl ?_
        refine yb_callVv (As := [.int (xJ (d 146 (12 : Int)))]) (a := 146) rfl rfl rfl rfl rfl rfl rfl rfl (by decide) (by decide) (rfl) (by decide) (sp_192 (by omega) r1 ?_)
        show yB D xm_c198 _ L 46 [.ref 146, .int (xJ l1), .int (xJ l2), .int (xJ ((xm_here d) - (112 : Int)))] [] (xs d 146 (13 : Int) (if (d 146 (13 : Int)) = -1 then (d 146 (12 : Int)) else (d 146 (13 : Int)))) e
        refine yb_goto rfl rfl ?_
        refine yb_goto rfl rfl ?_
        refine yb_forget (dl := [.ref 146, .int (xJ l1), .int (xJ l2), .double 0]) ⟨Or.inl rfl, ⟨Or.inl rfl, ⟨Or.inl rfl, ⟨Or.inr ⟨rfl, rfl⟩, trivial⟩⟩⟩⟩ ?_
        exact h
    · replace h := h.2 c
      show yB D xm_c198 _ L 33 [.ref 146, .int (xJ l1), .int (xJ l2), .double 0] [.int (xJ (0 : Int))] d e
      refine yb_if_eq (x := (0 : Int)) rfl rfl (by decide) (fun _ => ?_) (fun c => absurd (by decide) c)
      exact yb_retv rfl h
  · replace h := h.2 c
    show yB D xm_c198 _ L 27 [.ref 146, .int (xJ l1), .int (xJ l2), .double 0] [.int (xJ (0 : Int))] d e
    refine yb_if_eq (x := (0 : Int)) rfl rfl (by decide) (fun _ => ?_) (fun c => absurd (by decide) c)
    exact yb_retv rfl h
theorem yk_199_0 {D L : Nat} {P : xh_D → xd_E → Prop} {d : xh_D} {e : xd_E} {a1 : Int} {a2 : Int} {a3 : Int}   (h : ((0 ≤ (d 146 (1 : Int)) ∧ (d 146 (1 : Int)) < 353) ∧ ((0 ≤ ((9 : Int) + (d 146 (1 : Int))) ∧ ((9 : Int) + (d 146 (1 : Int))) < 353) ∧ ((0 ≤ ((18 : Int) + (d 146 (1 : Int))) ∧ ((18 : Int) + (d 146 (1 : Int))) < 353) ∧ yB D xm_c199 (yQv L P) L 24 [.ref 146, .double 0, .double 0, .double 0, .int (xJ (d 146 (1 : Int))), .int (xJ (0 : Int))] [] (xs (xs (xs d 147 (d 146 (1 : Int)) a1) 147 ((9 : Int) + (d 146 (1 : Int))) a2) 147 ((18 : Int) + (d 146 (1 : Int))) a3) e)))) : yB D xm_c199 (yQv L P) L 0 [.ref 146, .int (xJ a1), .int (xJ a2), .int (xJ a3), .double 0, .double 0] [] d e := by
  refine yb_aload rfl rfl ?_
  refine yb_get (v := .int (xJ (d 146 (1 : Int)))) rfl (by decide) (by decide) (rfl) rfl ?_
  refine yb_istore rfl rfl rfl ?_
  refine yb_aload rfl rfl ?_
  refine yb_get (v := .ref 147) rfl (by decide) (by decide) (rfl) rfl ?_
  refine yb_iload (x := (d 146 (1 : Int))) rfl rfl ?_
  refine yb_iload (x := a1) rfl rfl ?_
  have r1 := h.1
  replace h := h.2
  refine yb_iast (j := (d 146 (1 : Int))) (x := a1) rfl xd_A147 (by decide) r1 ?_
  refine yb_aload rfl rfl ?_
  refine yb_get (v := .ref 147) rfl (by decide) (by decide) (rfl) rfl ?_
  refine yb_push (v := 9) rfl ?_
  refine yb_iload (x := (d 146 (1 : Int))) rfl rfl ?_
  refine yb_iadd (x := (9 : Int)) (y := (d 146 (1 : Int))) rfl ?_
  refine yb_iload (x := a2) rfl rfl ?_
  have r2 := h.1
  replace h := h.2
  refine yb_iast (j := ((9 : Int) + (d 146 (1 : Int)))) (x := a2) rfl xd_A147 (by decide) r2 ?_
  refine yb_aload rfl rfl ?_
  refine yb_get (v := .ref 147) rfl (by decide) (by decide) (rfl) rfl ?_
  refine yb_push (v := 18) rfl ?_
  refine yb_iload (x := (d 146 (1 : Int))) rfl rfl ?_
  refine yb_iadd (x := (18 : Int)) (y := (d 146 (1 : Int))) rfl ?_
  refine yb_iload (x := a3) rfl rfl ?_
  have r3 := h.1
  replace h := h.2
  refine yb_iast (j := ((18 : Int) + (d 146 (1 : Int)))) (x := a3) rfl xd_A147 (by decide) r3 ?_
  refine yb_push (v := 0) rfl ?_
  refine yb_istore rfl rfl rfl ?_
  refine yb_forget (dl := [.ref 146, .double 0, .double 0, .double 0, .int (xJ (d 146 (1 : Int))), .int (xJ (0 : Int))]) ⟨Or.inl rfl, ⟨Or.inr ⟨rfl, rfl⟩, ⟨Or.inr ⟨rfl, rfl⟩, ⟨Or.inr ⟨rfl, rfl⟩, ⟨Or.inl rfl, ⟨Or.inl rfl, trivial⟩⟩⟩⟩⟩⟩ ?_
  exact h
theorem yk_199_24 {D L : Nat} {P : xh_D → xd_E → Prop} {d : xh_D} {e : xd_E}  {l4 : Int} {l5 : Int}  (h : ((-2147483648 ≤ l5 ∧ l5 < 2147483648) ∧ ((((6 : Int) ≤ l5) → yB D xm_c199 (yQv L P) L 42 [.ref 146, .double 0, .double 0, .double 0, .int (xJ l4), .int (xJ (0 : Int))] [] d e) ∧ ((¬ (6 : Int) ≤ l5) → ((0 ≤ (((27 : Int) + ((6 : Int) * l4)) + l5) ∧ (((27 : Int) + ((6 : Int) * l4)) + l5) < 353) ∧ yB D xm_c199 (yQv L P) L 24 [.ref 146, .double 0, .double 0, .double 0, .int (xJ l4), .int (xJ (l5 + 1))] [] (xs d 147 (((27 : Int) + ((6 : Int) * l4)) + l5) (0 : Int)) e))))) : yB D xm_c199 (yQv L P) L 24 [.ref 146, .double 0, .double 0, .double 0, .int (xJ l4), .int (xJ l5)] [] d e := by
  refine yb_iload (x := l5) rfl rfl ?_
  refine yb_push (v := 6) rfl ?_
  have r1 := h.1
  replace h := h.2
  refine yb_icmp_ge (x := l5) (y := (6 : Int)) rfl rfl r1 (by decide) (fun c => ?_) (fun c => ?_)
  · replace h := h.1 c
    refine yb_push (v := 0) rfl ?_
    refine yb_istore rfl rfl rfl ?_
    exact h
  · replace h := h.2 c
    refine yb_aload rfl rfl ?_
    refine yb_get (v := .ref 147) rfl (by decide) (by decide) (rfl) rfl ?_
    refine yb_push (v := 27) rfl ?_
    refine yb_push (v := 6) rfl ?_
    refine yb_iload (x := l4) rfl rfl ?_
    refine yb_imul (x := (6 : Int)) (y := l4) rfl ?_
    refine yb_iadd (x := (27 : Int)) (y := ((6 : Int) * l4)) rfl ?_
    refine yb_iload (x := l5) rfl rfl ?_
    refine yb_iadd (x := ((27 : Int) + ((6 : Int) * l4))) (y := l5) rfl ?_
    refine yb_push (v := 0) rfl ?_
    have r2 := h.1
    replace h := h.2
    refine yb_iast (j := (((27 : Int) + ((6 : Int) * l4)) + l5)) (x := (0 : Int)) rfl xd_A147 (by decide) r2 ?_
    refine yb_iinc (x := l5) (n := 1) rfl rfl rfl rfl ?_
    refine yb_goto rfl rfl ?_
    exact h
theorem yk_199_42 {D L : Nat} {P : xh_D → xd_E → Prop} {d : xh_D} {e : xd_E}  {l4 : Int} {l5 : Int}  (h : ((-2147483648 ≤ l5 ∧ l5 < 2147483648) ∧ ((((30 : Int) ≤ l5) → yB D xm_c199 (yQv L P) L 60 [.ref 146, .double 0, .double 0, .double 0, .int (xJ l4), .int (xJ (0 : Int))] [] d e) ∧ ((¬ (30 : Int) ≤ l5) → ((0 ≤ (((83 : Int) + ((9 : Int) * l5)) + l4) ∧ (((83 : Int) + ((9 : Int) * l5)) + l4) < 353) ∧ yB D xm_c199 (yQv L P) L 42 [.ref 146, .double 0, .double 0, .double 0, .int (xJ l4), .int (xJ (l5 + 1))] [] (xs d 147 (((83 : Int) + ((9 : Int) * l5)) + l4) (11 : Int)) e))))) : yB D xm_c199 (yQv L P) L 42 [.ref 146, .double 0, .double 0, .double 0, .int (xJ l4), .int (xJ l5)] [] d e := by
  refine yb_iload (x := l5) rfl rfl ?_
  refine yb_push (v := 30) rfl ?_
  have r1 := h.1
  replace h := h.2
  refine yb_icmp_ge (x := l5) (y := (30 : Int)) rfl rfl r1 (by decide) (fun c => ?_) (fun c => ?_)
  · replace h := h.1 c
    refine yb_push (v := 0) rfl ?_
    refine yb_istore rfl rfl rfl ?_
    exact h
  · replace h := h.2 c
    refine yb_aload rfl rfl ?_
    refine yb_get (v := .ref 147) rfl (by decide) (by decide) (rfl) rfl ?_
    refine yb_push (v := 83) rfl ?_
    refine yb_push (v := 9) rfl ?_
    refine yb_iload (x := l5) rfl rfl ?_
    refine yb_imul (x := (9 : Int)) (y := l5) rfl ?_
    refine yb_iadd (x := (83 : Int)) (y := ((9 : Int) * l5)) rfl ?_
    refine yb_iload (x := l4) rfl rfl ?_
    refine yb_iadd (x := ((83 : Int) + ((9 : Int) * l5))) (y := l4) rfl ?_
    refine yb_push (v := 11) rfl ?_
    have r2 := h.1
    replace h := h.2
    refine yb_iast (j := (((83 : Int) + ((9 : Int) * l5)) + l4)) (x := (11 : Int)) rfl xd_A147 (by decide) r2 ?_
    refine yb_iinc (x := l5) (n := 1) rfl rfl rfl rfl ?_
    refine yb_goto rfl rfl ?_
    exact h
theorem yk_199_60 {D L : Nat} {P : xh_D → xd_E → Prop} {d : xh_D} {e : xd_E}  {l4 : Int} {l5 : Int}  (h : ((-2147483648 ≤ l5 ∧ l5 < 2147483648) ∧ ((((9 : Int) ≤ l5) → yB D xm_c199 (yQv L P) L 85 [.ref 146, .double 0, .double 0, .double 0, .int (xJ l4), .int (xJ (0 : Int))] [] d e) ∧ ((¬ (9 : Int) ≤ l5) → ((0 ≤ (((9 : Int) * l4) + l5) ∧ (((9 : Int) * l4) + l5) < 81) ∧ ((0 ≤ (((9 : Int) * l5) + l4) ∧ (((9 : Int) * l5) + l4) < 81) ∧ yB D xm_c199 (yQv L P) L 60 [.ref 146, .double 0, .double 0, .double 0, .int (xJ l4), .int (xJ (l5 + 1))] [] (xs (xs d 148 (((9 : Int) * l4) + l5) (1 : Int)) 148 (((9 : Int) * l5) + l4) (1 : Int)) e)))))) : yB D xm_c199 (yQv L P) L 60 [.ref 146, .double 0, .double 0, .double 0, .int (xJ l4), .int (xJ l5)] [] d e := by
  refine yb_iload (x := l5) rfl rfl ?_
  refine yb_push (v := 9) rfl ?_
  have r1 := h.1
  replace h := h.2
  refine yb_icmp_ge (x := l5) (y := (9 : Int)) rfl rfl r1 (by decide) (fun c => ?_) (fun c => ?_)
  · replace h := h.1 c
    refine yb_push (v := 0) rfl ?_
    refine yb_istore rfl rfl rfl ?_
    exact h
  · replace h := h.2 c
    refine yb_aload rfl rfl ?_
    refine yb_get (v := .ref 148) rfl (by decide) (by decide) (rfl) rfl ?_
    refine yb_push (v := 9) rfl ?_
    refine yb_iload (x := l4) rfl rfl ?_
    refine yb_imul (x := (9 : Int)) (y := l4) rfl ?_
    refine yb_iload (x := l5) rfl rfl ?_
    refine yb_iadd (x := ((9 : Int) * l4)) (y := l5) rfl ?_
    refine yb_push (v := 1) rfl ?_
    have r2 := h.1
    replace h := h.2
    refine yb_iast (j := (((9 : Int) * l4) + l5)) (x := (1 : Int)) rfl xd_A148 (by decide) r2 ?_
    refine yb_aload rfl rfl ?_
    refine yb_get (v := .ref 148) rfl (by decide) (by decide) (rfl) rfl ?_
    refine yb_push (v := 9) rfl ?_
    refine yb_iload (x := l5) rfl rfl ?_
    refine yb_imul (x := (9 : Int)) (y := l5) rfl ?_
    refine yb_iload (x := l4) rfl rfl ?_
    refine yb_iadd (x := ((9 : Int) * l5)) (y := l4) rfl ?_
    refine yb_push (v := 1) rfl ?_
    have r3 := h.1
    replace h := h.2
    refine yb_iast (j := (((9 : Int) * l5) + l4)) (x := (1 : Int)) rfl xd_A148 (by decide) r3 ?_
    refine yb_iinc (x := l5) (n := 1) rfl rfl rfl rfl ?_
    refine yb_goto rfl rfl ?_
    exact h
theorem yk_199_85 {D L : Nat} {P : xh_D → xd_E → Prop} {d : xh_D} {e : xd_E}  {l4 : Int} {l5 : Int}  (h : ((-2147483648 ≤ l5 ∧ l5 < 2147483648) ∧ ((((9 : Int) ≤ l5) → P (xs (xs (xs d 146 (1 : Int) ((d 146 (1 : Int)) + (1 : Int))) 146 (57 : Int) ((d 146 (57 : Int)) + (1 : Int))) 146 (31 : Int) (0 : Int)) e) ∧ ((¬ (9 : Int) ≤ l5) → ((0 ≤ (((9 : Int) * l4) + l5) ∧ (((9 : Int) * l4) + l5) < 81) ∧ yB D xm_c199 (yQv L P) L 85 [.ref 146, .double 0, .double 0, .double 0, .int (xJ l4), .int (xJ (l5 + 1))] [] (xs d 149 (((9 : Int) * l4) + l5) (0 : Int)) e))))) : yB D xm_c199 (yQv L P) L 85 [.ref 146, .double 0, .double 0, .double 0, .int (xJ l4), .int (xJ l5)] [] d e := by
  refine yb_iload (x := l5) rfl rfl ?_
  refine yb_push (v := 9) rfl ?_
  have r1 := h.1
  replace h := h.2
  refine yb_icmp_ge (x := l5) (y := (9 : Int)) rfl rfl r1 (by decide) (fun c => ?_) (fun c => ?_)
  · replace h := h.1 c
    refine yb_aload rfl rfl ?_
    refine yb_dup rfl rfl ?_
    refine yb_get (v := .int (xJ (d 146 (1 : Int)))) rfl (by decide) (by decide) (rfl) rfl ?_
    refine yb_push (v := 1) rfl ?_
    refine yb_iadd (x := (d 146 (1 : Int))) (y := (1 : Int)) rfl ?_
    refine yb_put (z := ((d 146 (1 : Int)) + (1 : Int))) (k := 1) rfl rfl (by decide) (by decide) (rfl) (Nat.le_of_ble_eq_true rfl) rfl (rfl) ?_
    refine yb_aload rfl rfl ?_
    refine yb_dup rfl rfl ?_
    refine yb_get (v := .int (xJ (d 146 (57 : Int)))) rfl (by decide) (by decide) (rfl) rfl ?_
    refine yb_push (v := 1) rfl ?_
    refine yb_iadd (x := (d 146 (57 : Int))) (y := (1 : Int)) rfl ?_
    refine yb_put (z := ((d 146 (57 : Int)) + (1 : Int))) (k := 57) rfl rfl (by decide) (by decide) (rfl) (Nat.le_of_ble_eq_true rfl) rfl (rfl) ?_
    refine yb_aload rfl rfl ?_
    refine yb_push (v := 0) rfl ?_
    refine yb_put (z := (0 : Int)) (k := 31) rfl rfl (by decide) (by decide) (rfl) (Nat.le_of_ble_eq_true rfl) rfl (rfl) ?_
    exact yb_retv rfl h
  · replace h := h.2 c
    refine yb_aload rfl rfl ?_
    refine yb_get (v := .ref 149) rfl (by decide) (by decide) (rfl) rfl ?_
    refine yb_push (v := 9) rfl ?_
    refine yb_iload (x := l4) rfl rfl ?_
    refine yb_imul (x := (9 : Int)) (y := l4) rfl ?_
    refine yb_iload (x := l5) rfl rfl ?_
    refine yb_iadd (x := ((9 : Int) * l4)) (y := l5) rfl ?_
    refine yb_push (v := 0) rfl ?_
    have r2 := h.1
    replace h := h.2
    refine yb_iast (j := (((9 : Int) * l4) + l5)) (x := (0 : Int)) rfl xd_A149 (by decide) r2 ?_
    refine yb_iinc (x := l5) (n := 1) rfl rfl rfl rfl ?_
    refine yb_goto rfl rfl ?_
    exact h
theorem yk_200_0 {D L : Nat} {P1 P0 : xh_D → xd_E → Prop} {d : xh_D} {e : xd_E} {a1 : Int}   (h : yB D xm_c200 (yQz L P1 P0) L 11 [.ref 146, .int (xJ a1), .int (xJ (d 146 (5 : Int))), .int (xJ (0 : Int))] [] (xs (xs d 146 (5 : Int) (0 : Int)) 146 (13 : Int) (-1 : Int)) e) : yB D xm_c200 (yQz L P1 P0) L 0 [.ref 146, .int (xJ a1), .double 0, .double 0] [] d e := by
  refine yb_aload rfl rfl ?_
  refine yb_get (v := .int (xJ (d 146 (5 : Int)))) rfl (by decide) (by decide) (rfl) rfl ?_
  refine yb_istore rfl rfl rfl ?_
  refine yb_aload rfl rfl ?_
  refine yb_push (v := 0) rfl ?_
  refine yb_put (z := (0 : Int)) (k := 5) rfl rfl (by decide) (by decide) (rfl) (Nat.le_of_ble_eq_true rfl) rfl (rfl) ?_
  refine yb_aload rfl rfl ?_
  refine yb_push (v := (-1)) rfl ?_
  refine yb_put (z := (-1 : Int)) (k := 13) rfl rfl (by decide) (by decide) (rfl) (Nat.le_of_ble_eq_true rfl) rfl (rfl) ?_
  refine yb_push (v := 0) rfl ?_
  refine yb_istore rfl rfl rfl ?_
  exact h
theorem yk_200_11 {D L : Nat} {P1 P0 : xh_D → xd_E → Prop} {d : xh_D} {e : xd_E}  {l1 : Int} {l2 : Int} {l3 : Int}  (hD : 2 ≤ D) (h : ((-2147483648 ≤ l3 ∧ l3 < 2147483648) ∧ ((-2147483648 ≤ l2 ∧ l2 < 2147483648) ∧ (((l2 ≤ l3) → ((-2147483648 ≤ l1 ∧ l1 < 2147483648) ∧ (((l1 ≤ l2) → ((-2147483648 ≤ (d 146 (13 : Int)) ∧ (d 146 (13 : Int)) < 2147483648) ∧ ((((d 146 (13 : Int)) = -1) → P1 d e) ∧ (¬ ((d 146 (13 : Int)) = -1) → P0 d e)))) ∧ ((¬ l1 ≤ l2) → ((-2147483648 ≤ (d 146 (13 : Int)) ∧ (d 146 (13 : Int)) < 2147483648) ∧ ((-2147483648 ≤ (if (d 146 (13 : Int)) = -1 then l2 else (d 146 (13 : Int))) ∧ (if (d 146 (13 : Int)) = -1 then l2 else (d 146 (13 : Int))) < 2147483648) ∧ ((((if (d 146 (13 : Int)) = -1 then l2 else (d 146 (13 : Int))) = -1) → P1 (xs d 146 (13 : Int) (if (d 146 (13 : Int)) = -1 then l2 else (d 146 (13 : Int)))) e) ∧ (¬ ((if (d 146 (13 : Int)) = -1 then l2 else (d 146 (13 : Int))) = -1) → P0 (xs d 146 (13 : Int) (if (d 146 (13 : Int)) = -1 then l2 else (d 146 (13 : Int)))) e)))))))) ∧ ((¬ l2 ≤ l3) → ((-2147483648 ≤ (d 146 (13 : Int)) ∧ (d 146 (13 : Int)) < 2147483648) ∧ ((((d 146 (13 : Int)) = -1) → ((-2147483648 ≤ l1 ∧ l1 < 2147483648) ∧ (((l3 = l1) → yB D xm_c200 (yQz L P1 P0) L 11 [.ref 146, .int (xJ l1), .int (xJ l2), .int (xJ (l3 + 1))] [] (xs d 146 (13 : Int) (if (d 146 (13 : Int)) = -1 then l3 else (d 146 (13 : Int)))) e) ∧ ((¬ l3 = l1) → ((0 ≤ l3 ∧ l3 < 80) ∧ ((-2147483648 ≤ (d 150 l3) ∧ (d 150 l3) < 2147483648) ∧ ((((48 : Int) ≤ (d 150 l3) ∧ (d 150 l3) ≤ (57 : Int)) → yB D xm_c200 (yQz L P1 P0) L 11 [.ref 146, .int (xJ l1), .int (xJ l2), .int (xJ (l3 + 1))] [] d e) ∧ (¬ ((48 : Int) ≤ (d 150 l3) ∧ (d 150 l3) ≤ (57 : Int)) → yB D xm_c200 (yQz L P1 P0) L 11 [.ref 146, .int (xJ l1), .int (xJ l2), .int (xJ (l3 + 1))] [] (xs d 146 (13 : Int) (if (d 146 (13 : Int)) = -1 then l3 else (d 146 (13 : Int)))) e)))))))) ∧ (¬ ((d 146 (13 : Int)) = -1) → ((-2147483648 ≤ l1 ∧ l1 < 2147483648) ∧ (((l1 ≤ l2) → ((((d 146 (13 : Int)) = -1) → P1 d e) ∧ (¬ ((d 146 (13 : Int)) = -1) → P0 d e))) ∧ ((¬ l1 ≤ l2) → ((-2147483648 ≤ (if (d 146 (13 : Int)) = -1 then l2 else (d 146 (13 : Int))) ∧ (if (d 146 (13 : Int)) = -1 then l2 else (d 146 (13 : Int))) < 2147483648) ∧ ((((if (d 146 (13 : Int)) = -1 then l2 else (d 146 (13 : Int))) = -1) → P1 (xs d 146 (13 : Int) (if (d 146 (13 : Int)) = -1 then l2 else (d 146 (13 : Int)))) e) ∧ (¬ ((if (d 146 (13 : Int)) = -1 then l2 else (d 146 (13 : Int))) = -1) → P0 (xs d 146 (13 : Int) (if (d 146 (13 : Int)) = -1 then l2 else (d 146 (13 : Int)))) e)))))))))))))) : yB D xm_c200 (yQz L P1 P0) L 11 [.ref 146, .int (xJ l1), .int (xJ l2), .int (xJ l3)] [] d e := by
  refine yb_iload (x := l3) rfl rfl ?_
  refine yb_iload (x := l2) rfl rfl ?_
  have r1 := h.1
  replace h := h.2
  have r2 := h.1
  replace h := h.2
  refine yb_icmp_ge (x := l3) (y := l2) rfl rfl r1 r2 (fun c => ?_) (fun c => ?_)
  · replace h := h.1 c
    refine yb_iload (x := l2) rfl rfl ?_
    refine yb_iload (x := l1) rfl rfl ?_
    have r3 := h.1
    replace h := h.2
    refine yb_icmp_ge (x := l2) (y := l1) rfl rfl r2 r3 (fun c => ?_) (fun c => ?_)
    · replace h := h.1 c
      refine yb_aload rfl rfl ?_
      have r4 := h.1
      replace h := h.2
      refine yb_callVz (As := []) (a := 146) rfl rfl rfl rfl rfl rfl rfl rfl (by decide) (by decide) (rfl) (by decide) (sp_191 (by omega) r4 (fun c => ?_) (fun c => ?_))
      · replace h := h.1 c
        show yB D xm_c200 _ L 41 [.ref 146, .int (xJ l1), .int (xJ l2), .int (xJ l3)] [.int (xJ (1 : Int))] d e
        exact yb_ret1 rfl h
      · replace h := h.2 c
        show yB D xm_c200 _ L 41 [.ref 146, .int (xJ l1), .int (xJ l2), .int (xJ l3)] [.int (xJ (0 : Int))] d e
        exact yb_ret0 rfl h
    · replace h := h.2 c
      refine yb_aload rfl rfl ?_
      refine yb_iload (x := l2) rfl rfl ?_
      have r5 := h.1
      replace h := h.2
      refine yb_callVv (As := [.int (xJ l2)]) (a := 146) rfl rfl rfl rfl rfl rfl rfl rfl (by decide) (by decide) (rfl) (by decide) (sp_192 (by omega) r5 ?_)
      show yB D xm_c200 _ L 39 [.ref 146, .int (xJ l1), .int (xJ l2), .int (xJ l3)] [] (xs d 146 (13 : Int) (if (d 146 (13 : Int)) = -1 then l2 else (d 146 (13 : Int)))) e
      refine yb_aload rfl rfl ?_
      have r6 := h.1
      replace h := h.2
      refine yb_callVz (As := []) (a := 146) rfl rfl rfl rfl rfl rfl rfl rfl (by decide) (by decide) (rfl) (by decide) (sp_191 (by omega) r6 (fun c => ?_) (fun c => ?_))
      · replace h := h.1 c
        show yB D xm_c200 _ L 41 [.ref 146, .int (xJ l1), .int (xJ l2), .int (xJ l3)] [.int (xJ (1 : Int))] (xs d 146 (13 : Int) (if (d 146 (13 : Int)) = -1 then l2 else (d 146 (13 : Int)))) e
        exact yb_ret1 rfl h
      · replace h := h.2 c
        show yB D xm_c200 _ L 41 [.ref 146, .int (xJ l1), .int (xJ l2), .int (xJ l3)] [.int (xJ (0 : Int))] (xs d 146 (13 : Int) (if (d 146 (13 : Int)) = -1 then l2 else (d 146 (13 : Int)))) e
        exact yb_ret0 rfl h
  · replace h := h.2 c
    refine yb_aload rfl rfl ?_
    have r7 := h.1
    replace h := h.2
    refine yb_callVz (As := []) (a := 146) rfl rfl rfl rfl rfl rfl rfl rfl (by decide) (by decide) (rfl) (by decide) (sp_191 (by omega) r7 (fun c => ?_) (fun c => ?_))
    · replace h := h.1 c
      show yB D xm_c200 _ L 16 [.ref 146, .int (xJ l1), .int (xJ l2), .int (xJ l3)] [.int (xJ (1 : Int))] d e
      refine yb_if_eq (x := (1 : Int)) rfl rfl (by decide) (fun c => absurd c (by decide)) (fun _ => ?_)
      refine yb_iload (x := l3) rfl rfl ?_
      refine yb_iload (x := l1) rfl rfl ?_
      have r8 := h.1
      replace h := h.2
      refine yb_icmp_eq (x := l3) (y := l1) rfl rfl r1 r8 (fun c => ?_) (fun c => ?_)
      · replace h := h.1 c
        refine yb_aload rfl rfl ?_
        refine yb_iload (x := l3) rfl rfl ?_
        refine yb_callVv (As := [.int (xJ l3)]) (a := 146) rfl rfl rfl rfl rfl rfl rfl rfl (by decide) (by decide) (rfl) (by decide) (sp_192 (by omega) r7 ?_)
        show yB D xm_c200 _ L 31 [.ref 146, .int (xJ l1), .int (xJ l2), .int (xJ l3)] [] (xs d 146 (13 : Int) (if (d 146 (13 : Int)) = -1 then l3 else (d 146 (13 : Int)))) e
        refine yb_iinc (x := l3) (n := 1) rfl rfl rfl rfl ?_
        refine yb_goto rfl rfl ?_
        exact h
      · replace h := h.2 c
        refine yb_aload rfl rfl ?_
        refine yb_get (v := .ref 150) rfl (by decide) (by decide) (rfl) rfl ?_
        refine yb_iload (x := l3) rfl rfl ?_
        have r9 := h.1
        replace h := h.2
        refine yb_bald (j := l3) rfl (by decide) xd_A150 r9 (v := (d 150 l3)) rfl ?_
        refine yb_push (v := 48) rfl ?_
        refine yb_push (v := 57) rfl ?_
        have r10 := h.1
        replace h := h.2
        refine yb_callSz (As := [.int (xJ (d 150 l3)), .int (xJ (48 : Int)), .int (xJ (57 : Int))]) rfl rfl rfl rfl rfl rfl rfl rfl (by decide) (sp_180 (by omega) ⟨r10, (by show (-2147483648 ≤ (48 : Int) ∧ (48 : Int) < 2147483648); decide), (by show (-2147483648 ≤ (57 : Int) ∧ (57 : Int) < 2147483648); decide)⟩ (fun c => ?_) (fun c => ?_))
        · replace h := h.1 c
          show yB D xm_c200 _ L 27 [.ref 146, .int (xJ l1), .int (xJ l2), .int (xJ l3)] [.int (xJ (1 : Int))] d e
          refine yb_if_ne (x := (1 : Int)) rfl rfl (by decide) (fun _ => ?_) (fun c => absurd c (by decide))
          refine yb_iinc (x := l3) (n := 1) rfl rfl rfl rfl ?_
          refine yb_goto rfl rfl ?_
          exact h
        · replace h := h.2 c
          show yB D xm_c200 _ L 27 [.ref 146, .int (xJ l1), .int (xJ l2), .int (xJ l3)] [.int (xJ (0 : Int))] d e
          refine yb_if_ne (x := (0 : Int)) rfl rfl (by decide) (fun c => absurd (by decide) c) (fun _ => ?_)
          refine yb_aload rfl rfl ?_
          refine yb_iload (x := l3) rfl rfl ?_
          refine yb_callVv (As := [.int (xJ l3)]) (a := 146) rfl rfl rfl rfl rfl rfl rfl rfl (by decide) (by decide) (rfl) (by decide) (sp_192 (by omega) r7 ?_)
          show yB D xm_c200 _ L 31 [.ref 146, .int (xJ l1), .int (xJ l2), .int (xJ l3)] [] (xs d 146 (13 : Int) (if (d 146 (13 : Int)) = -1 then l3 else (d 146 (13 : Int)))) e
          refine yb_iinc (x := l3) (n := 1) rfl rfl rfl rfl ?_
          refine yb_goto rfl rfl ?_
          exact h
    · replace h := h.2 c
      show yB D xm_c200 _ L 16 [.ref 146, .int (xJ l1), .int (xJ l2), .int (xJ l3)] [.int (xJ (0 : Int))] d e
      refine yb_if_eq (x := (0 : Int)) rfl rfl (by decide) (fun _ => ?_) (fun c => absurd (by decide) c)
      refine yb_iload (x := l2) rfl rfl ?_
      refine yb_iload (x := l1) rfl rfl ?_
      have r11 := h.1
      replace h := h.2
      refine yb_icmp_ge (x := l2) (y := l1) rfl rfl r2 r11 (fun c => ?_) (fun c => ?_)
      · replace h := h.1 c
        refine yb_aload rfl rfl ?_
        refine yb_callVz (As := []) (a := 146) rfl rfl rfl rfl rfl rfl rfl rfl (by decide) (by decide) (rfl) (by decide) (sp_191 (by omega) r7 (fun c => ?_) (fun c => ?_))
        · replace h := h.1 c
          show yB D xm_c200 _ L 41 [.ref 146, .int (xJ l1), .int (xJ l2), .int (xJ l3)] [.int (xJ (1 : Int))] d e
          exact yb_ret1 rfl h
        · replace h := h.2 c
          show yB D xm_c200 _ L 41 [.ref 146, .int (xJ l1), .int (xJ l2), .int (xJ l3)] [.int (xJ (0 : Int))] d e
          exact yb_ret0 rfl h
      · replace h := h.2 c
        refine yb_aload rfl rfl ?_
        refine yb_iload (x := l2) rfl rfl ?_
        refine yb_callVv (As := [.int (xJ l2)]) (a := 146) rfl rfl rfl rfl rfl rfl rfl rfl (by decide) (by decide) (rfl) (by decide) (sp_192 (by omega) r7 ?_)
        show yB D xm_c200 _ L 39 [.ref 146, .int (xJ l1), .int (xJ l2), .int (xJ l3)] [] (xs d 146 (13 : Int) (if (d 146 (13 : Int)) = -1 then l2 else (d 146 (13 : Int)))) e
        refine yb_aload rfl rfl ?_
        have r12 := h.1
        replace h := h.2
        refine yb_callVz (As := []) (a := 146) rfl rfl rfl rfl rfl rfl rfl rfl (by decide) (by decide) (rfl) (by decide) (sp_191 (by omega) r12 (fun c => ?_) (fun c => ?_))
        · replace h := h.1 c
          show yB D xm_c200 _ L 41 [.ref 146, .int (xJ l1), .int (xJ l2), .int (xJ l3)] [.int (xJ (1 : Int))] (xs d 146 (13 : Int) (if (d 146 (13 : Int)) = -1 then l2 else (d 146 (13 : Int)))) e
          exact yb_ret1 rfl h
        · replace h := h.2 c
          show yB D xm_c200 _ L 41 [.ref 146, .int (xJ l1), .int (xJ l2), .int (xJ l3)] [.int (xJ (0 : Int))] (xs d 146 (13 : Int) (if (d 146 (13 : Int)) = -1 then l2 else (d 146 (13 : Int)))) e
          exact yb_ret0 rfl h
theorem yk_201_0 {D L : Nat} {P : Int → xh_D → xd_E → Prop} {d : xh_D} {e : xd_E} {a1 : Int}   (hD : 2 ≤ D) (h : ((-2147483648 ≤ a1 ∧ a1 < 2147483648) ∧ ((0 ≤ (d 146 (1 : Int)) ∧ (d 146 (1 : Int)) ≤ 9) ∧ (((0 ≤ a1 ∧ a1 < (d 146 (1 : Int))) → yZ D 200 L [.ref 146, .int (xJ (d 146 (1 : Int)))] (xs d 146 (8 : Int) (0 : Int)) e (fun d3 e4 => yB D xm_c201 (yQi L P) L 24 [.ref 146, .int (xJ a1), .int (xJ (0 : Int))] [] d3 e4) (fun d3 e4 => P ((-1 : Int) - (d3 146 (13 : Int))) d3 e4)) ∧ (¬ (0 ≤ a1 ∧ a1 < (d 146 (1 : Int))) → P (-100 : Int) (xs (xs d 146 (8 : Int) (0 : Int)) 146 (5 : Int) (0 : Int)) e))))) : yB D xm_c201 (yQi L P) L 0 [.ref 146, .int (xJ a1), .double 0] [] d e := by
  refine yb_aload rfl rfl ?_
  refine yb_push (v := 0) rfl ?_
  refine yb_put (z := (0 : Int)) (k := 8) rfl rfl (by decide) (by decide) (rfl) (Nat.le_of_ble_eq_true rfl) rfl (rfl) ?_
  refine yb_aload rfl rfl ?_
  refine yb_iload (x := a1) rfl rfl ?_
  have r1 := h.1
  replace h := h.2
  have r2 := h.1
  replace h := h.2
  refine yb_callVz (As := [.int (xJ a1)]) (a := 146) rfl rfl rfl rfl rfl rfl rfl rfl (by decide) (by decide) (rfl) (by decide) (sp_184 (by omega) ⟨r1, r2⟩ (fun c => ?_) (fun c => ?_))
  · replace h := h.1 c
    show yB D xm_c201 _ L 6 [.ref 146, .int (xJ a1), .double 0] [.int (xJ (1 : Int))] (xs d 146 (8 : Int) (0 : Int)) e
    refine yb_if_ne (x := (1 : Int)) rfl rfl (by decide) (fun _ => ?_) (fun c => absurd c (by decide))
    refine yb_aload rfl rfl ?_
    refine yb_aload rfl rfl ?_
    refine yb_get (v := .int (xJ (d 146 (1 : Int)))) rfl (by decide) (by decide) (rfl) rfl ?_
    refine yb_callVz (As := [.int (xJ (d 146 (1 : Int)))]) (a := 146) rfl rfl rfl rfl rfl rfl rfl rfl (by decide) (by decide) (rfl) (by decide) (yZ_mono h (fun d3 e4 h => ?_) (fun d3 e4 h => ?_))
    · refine yb_if_ne (x := (1 : Int)) rfl rfl (by decide) (fun _ => ?_) (fun c => absurd c (by decide))
      refine yb_push (v := 0) rfl ?_
      refine yb_istore rfl rfl rfl ?_
      exact h
    · refine yb_if_ne (x := (0 : Int)) rfl rfl (by decide) (fun c => absurd (by decide) c) (fun _ => ?_)
      refine yb_push (v := (-1)) rfl ?_
      refine yb_aload rfl rfl ?_
      refine yb_get (v := .int (xJ (d3 146 (13 : Int)))) rfl (by decide) (by decide) (rfl) rfl ?_
      refine yb_isub (x := (-1 : Int)) (y := (d3 146 (13 : Int))) rfl ?_
      exact yb_ret rfl h
  · replace h := h.2 c
    show yB D xm_c201 _ L 6 [.ref 146, .int (xJ a1), .double 0] [.int (xJ (0 : Int))] (xs d 146 (8 : Int) (0 : Int)) e
    refine yb_if_ne (x := (0 : Int)) rfl rfl (by decide) (fun c => absurd (by decide) c) (fun _ => ?_)
    refine yb_aload rfl rfl ?_
    refine yb_push (v := 0) rfl ?_
    refine yb_put (z := (0 : Int)) (k := 5) rfl rfl (by decide) (by decide) (rfl) (Nat.le_of_ble_eq_true rfl) rfl (rfl) ?_
    refine yb_push (v := (-100)) rfl ?_
    exact yb_ret rfl h
theorem yk_201_24 {D L : Nat} {P : Int → xh_D → xd_E → Prop} {d : xh_D} {e : xd_E}  {l1 : Int} {l2 : Int}  (h : ((-2147483648 ≤ l2 ∧ l2 < 2147483648) ∧ ((-2147483648 ≤ (d 146 (1 : Int)) ∧ (d 146 (1 : Int)) < 2147483648) ∧ ((((d 146 (1 : Int)) ≤ l2) → P (d 146 (1 : Int)) d e) ∧ ((¬ (d 146 (1 : Int)) ≤ l2) → ((0 ≤ l2 ∧ l2 < 80) ∧ ((0 ≤ (((9 : Int) * l1) + l2) ∧ (((9 : Int) * l1) + l2) < 81) ∧ yB D xm_c201 (yQi L P) L 24 [.ref 146, .int (xJ l1), .int (xJ (l2 + 1))] [] (xs d 148 (((9 : Int) * l1) + l2) ((d 150 l2) - (48 : Int))) e))))))) : yB D xm_c201 (yQi L P) L 24 [.ref 146, .int (xJ l1), .int (xJ l2)] [] d e := by
  refine yb_iload (x := l2) rfl rfl ?_
  refine yb_aload rfl rfl ?_
  refine yb_get (v := .int (xJ (d 146 (1 : Int)))) rfl (by decide) (by decide) (rfl) rfl ?_
  have r1 := h.1
  replace h := h.2
  have r2 := h.1
  replace h := h.2
  refine yb_icmp_ge (x := l2) (y := (d 146 (1 : Int))) rfl rfl r1 r2 (fun c => ?_) (fun c => ?_)
  · replace h := h.1 c
    refine yb_aload rfl rfl ?_
    refine yb_get (v := .int (xJ (d 146 (1 : Int)))) rfl (by decide) (by decide) (rfl) rfl ?_
    exact yb_ret rfl h
  · replace h := h.2 c
    refine yb_aload rfl rfl ?_
    refine yb_get (v := .ref 148) rfl (by decide) (by decide) (rfl) rfl ?_
    refine yb_push (v := 9) rfl ?_
    refine yb_iload (x := l1) rfl rfl ?_
    refine yb_imul (x := (9 : Int)) (y := l1) rfl ?_
    refine yb_iload (x := l2) rfl rfl ?_
    refine yb_iadd (x := ((9 : Int) * l1)) (y := l2) rfl ?_
    refine yb_aload rfl rfl ?_
    refine yb_get (v := .ref 150) rfl (by decide) (by decide) (rfl) rfl ?_
    refine yb_iload (x := l2) rfl rfl ?_
    have r3 := h.1
    replace h := h.2
    refine yb_bald (j := l2) rfl (by decide) xd_A150 r3 (v := (d 150 l2)) rfl ?_
    refine yb_push (v := 48) rfl ?_
    refine yb_isub (x := (d 150 l2)) (y := (48 : Int)) rfl ?_
    have r4 := h.1
    replace h := h.2
    refine yb_iast (j := (((9 : Int) * l1) + l2)) (x := ((d 150 l2) - (48 : Int))) rfl xd_A148 (by decide) r4 ?_
    refine yb_iinc (x := l2) (n := 1) rfl rfl rfl rfl ?_
    refine yb_goto rfl rfl ?_
    exact h
theorem yk_202_0 {D L : Nat} {P : Int → xh_D → xd_E → Prop} {d : xh_D} {e : xd_E} {a1 : Int}   (hD : 2 ≤ D) (h : ((-2147483648 ≤ a1 ∧ a1 < 2147483648) ∧ ((0 ≤ (d 146 (1 : Int)) ∧ (d 146 (1 : Int)) ≤ 9) ∧ (((0 ≤ a1 ∧ a1 < (d 146 (1 : Int))) → yZ D 200 L [.ref 146, .int (xJ (9 : Int))] (xs d 146 (8 : Int) (0 : Int)) e (fun d3 e4 => yB D xm_c202 (yQi L P) L 23 [.ref 146, .int (xJ a1), .int (xJ (0 : Int))] [] d3 e4) (fun d3 e4 => P ((-1 : Int) - (d3 146 (13 : Int))) d3 e4)) ∧ (¬ (0 ≤ a1 ∧ a1 < (d 146 (1 : Int))) → P (-100 : Int) (xs (xs d 146 (8 : Int) (0 : Int)) 146 (5 : Int) (0 : Int)) e))))) : yB D xm_c202 (yQi L P) L 0 [.ref 146, .int (xJ a1), .double 0] [] d e := by
  refine yb_aload rfl rfl ?_
  refine yb_push (v := 0) rfl ?_
  refine yb_put (z := (0 : Int)) (k := 8) rfl rfl (by decide) (by decide) (rfl) (Nat.le_of_ble_eq_true rfl) rfl (rfl) ?_
  refine yb_aload rfl rfl ?_
  refine yb_iload (x := a1) rfl rfl ?_
  have r1 := h.1
  replace h := h.2
  have r2 := h.1
  replace h := h.2
  refine yb_callVz (As := [.int (xJ a1)]) (a := 146) rfl rfl rfl rfl rfl rfl rfl rfl (by decide) (by decide) (rfl) (by decide) (sp_184 (by omega) ⟨r1, r2⟩ (fun c => ?_) (fun c => ?_))
  · replace h := h.1 c
    show yB D xm_c202 _ L 6 [.ref 146, .int (xJ a1), .double 0] [.int (xJ (1 : Int))] (xs d 146 (8 : Int) (0 : Int)) e
    refine yb_if_ne (x := (1 : Int)) rfl rfl (by decide) (fun _ => ?_) (fun c => absurd c (by decide))
    refine yb_aload rfl rfl ?_
    refine yb_push (v := 9) rfl ?_
    refine yb_callVz (As := [.int (xJ (9 : Int))]) (a := 146) rfl rfl rfl rfl rfl rfl rfl rfl (by decide) (by decide) (rfl) (by decide) (yZ_mono h (fun d3 e4 h => ?_) (fun d3 e4 h => ?_))
    · refine yb_if_ne (x := (1 : Int)) rfl rfl (by decide) (fun _ => ?_) (fun c => absurd c (by decide))
      refine yb_push (v := 0) rfl ?_
      refine yb_istore rfl rfl rfl ?_
      exact h
    · refine yb_if_ne (x := (0 : Int)) rfl rfl (by decide) (fun c => absurd (by decide) c) (fun _ => ?_)
      refine yb_push (v := (-1)) rfl ?_
      refine yb_aload rfl rfl ?_
      refine yb_get (v := .int (xJ (d3 146 (13 : Int)))) rfl (by decide) (by decide) (rfl) rfl ?_
      refine yb_isub (x := (-1 : Int)) (y := (d3 146 (13 : Int))) rfl ?_
      exact yb_ret rfl h
  · replace h := h.2 c
    show yB D xm_c202 _ L 6 [.ref 146, .int (xJ a1), .double 0] [.int (xJ (0 : Int))] (xs d 146 (8 : Int) (0 : Int)) e
    refine yb_if_ne (x := (0 : Int)) rfl rfl (by decide) (fun c => absurd (by decide) c) (fun _ => ?_)
    refine yb_aload rfl rfl ?_
    refine yb_push (v := 0) rfl ?_
    refine yb_put (z := (0 : Int)) (k := 5) rfl rfl (by decide) (by decide) (rfl) (Nat.le_of_ble_eq_true rfl) rfl (rfl) ?_
    refine yb_push (v := (-100)) rfl ?_
    exact yb_ret rfl h
theorem yk_202_23 {D L : Nat} {P : Int → xh_D → xd_E → Prop} {d : xh_D} {e : xd_E}  {l1 : Int} {l2 : Int}  (h : ((-2147483648 ≤ l2 ∧ l2 < 2147483648) ∧ ((((9 : Int) ≤ l2) → P (9 : Int) d e) ∧ ((¬ (9 : Int) ≤ l2) → ((0 ≤ l2 ∧ l2 < 80) ∧ ((0 ≤ (((9 : Int) * l1) + l2) ∧ (((9 : Int) * l1) + l2) < 81) ∧ yB D xm_c202 (yQi L P) L 23 [.ref 146, .int (xJ l1), .int (xJ (l2 + 1))] [] (xs d 149 (((9 : Int) * l1) + l2) ((d 150 l2) - (48 : Int))) e)))))) : yB D xm_c202 (yQi L P) L 23 [.ref 146, .int (xJ l1), .int (xJ l2)] [] d e := by
  refine yb_iload (x := l2) rfl rfl ?_
  refine yb_push (v := 9) rfl ?_
  have r1 := h.1
  replace h := h.2
  refine yb_icmp_ge (x := l2) (y := (9 : Int)) rfl rfl r1 (by decide) (fun c => ?_) (fun c => ?_)
  · replace h := h.1 c
    refine yb_push (v := 9) rfl ?_
    exact yb_ret rfl h
  · replace h := h.2 c
    refine yb_aload rfl rfl ?_
    refine yb_get (v := .ref 149) rfl (by decide) (by decide) (rfl) rfl ?_
    refine yb_push (v := 9) rfl ?_
    refine yb_iload (x := l1) rfl rfl ?_
    refine yb_imul (x := (9 : Int)) (y := l1) rfl ?_
    refine yb_iload (x := l2) rfl rfl ?_
    refine yb_iadd (x := ((9 : Int) * l1)) (y := l2) rfl ?_
    refine yb_aload rfl rfl ?_
    refine yb_get (v := .ref 150) rfl (by decide) (by decide) (rfl) rfl ?_
    refine yb_iload (x := l2) rfl rfl ?_
    have r2 := h.1
    replace h := h.2
    refine yb_bald (j := l2) rfl (by decide) xd_A150 r2 (v := (d 150 l2)) rfl ?_
    refine yb_push (v := 48) rfl ?_
    refine yb_isub (x := (d 150 l2)) (y := (48 : Int)) rfl ?_
    have r3 := h.1
    replace h := h.2
    refine yb_iast (j := (((9 : Int) * l1) + l2)) (x := ((d 150 l2) - (48 : Int))) rfl xd_A149 (by decide) r3 ?_
    refine yb_iinc (x := l2) (n := 1) rfl rfl rfl rfl ?_
    refine yb_goto rfl rfl ?_
    exact h
theorem yk_203_0 {D L : Nat} {P : Int → xh_D → xd_E → Prop} {d : xh_D} {e : xd_E} {a1 : Int}   (h : yC D 204 L [.ref 146, .int (xJ a1)] d e (fun x1 d2 e3 => yZ D 193 L [.ref 146, .int (xJ (60 : Int))] d2 e3 (fun d4 e5 => yC D 204 L [.ref 146, .int (xJ a1)] d4 e5 (fun x6 d7 e8 => ((-2147483648 ≤ x1 ∧ x1 < 2147483648) ∧ ((-2147483648 ≤ x6 ∧ x6 < 2147483648) ∧ (((x6 ≤ x1) → P (0 : Int) d7 e8) ∧ ((¬ x6 ≤ x1) → P (1 : Int) d7 e8)))))) (fun d4 e5 => yZ D 193 L [.ref 146, .int (xJ (62 : Int))] d4 e5 (fun d11 e12 => yC D 204 L [.ref 146, .int (xJ a1)] d11 e12 (fun x13 d14 e15 => ((-2147483648 ≤ x1 ∧ x1 < 2147483648) ∧ ((-2147483648 ≤ x13 ∧ x13 < 2147483648) ∧ (((x1 ≤ x13) → P (0 : Int) d14 e15) ∧ ((¬ x1 ≤ x13) → P (1 : Int) d14 e15)))))) (fun d11 e12 => yZ D 193 L [.ref 146, .int (xJ (61 : Int))] d11 e12 (fun d18 e19 => yC D 204 L [.ref 146, .int (xJ a1)] d18 e19 (fun x20 d21 e22 => ((-2147483648 ≤ x1 ∧ x1 < 2147483648) ∧ ((-2147483648 ≤ x20 ∧ x20 < 2147483648) ∧ (((¬ x1 = x20) → P (0 : Int) d21 e22) ∧ ((x1 = x20) → P (1 : Int) d21 e22)))))) (fun d18 e19 => P x1 d18 e19))))) : yB D xm_c203 (yQi L P) L 0 [.ref 146, .int (xJ a1), .double 0] [] d e := by
  refine yb_aload rfl rfl ?_
  refine yb_iload (x := a1) rfl rfl ?_
  refine yb_callVi (As := [.int (xJ a1)]) (a := 146) rfl rfl rfl rfl rfl rfl rfl rfl (by decide) (by decide) (rfl) (by decide) (yC_mono h (fun x1 d2 e3 h => ?_))
  refine yb_istore rfl rfl rfl ?_
  refine yb_aload rfl rfl ?_
  refine yb_push (v := 60) rfl ?_
  refine yb_callVz (As := [.int (xJ (60 : Int))]) (a := 146) rfl rfl rfl rfl rfl rfl rfl rfl (by decide) (by decide) (rfl) (by decide) (yZ_mono h (fun d4 e5 h => ?_) (fun d4 e5 h => ?_))
  · refine yb_if_eq (x := (1 : Int)) rfl rfl (by decide) (fun c => absurd c (by decide)) (fun _ => ?_)
    refine yb_iload (x := x1) rfl rfl ?_
    refine yb_aload rfl rfl ?_
    refine yb_iload (x := a1) rfl rfl ?_
    refine yb_callVi (As := [.int (xJ a1)]) (a := 146) rfl rfl rfl rfl rfl rfl rfl rfl (by decide) (by decide) (rfl) (by show (1 : Nat) ≤ 8; decide) (yC_mono h (fun x6 d7 e8 h => ?_))
    have r9 := h.1
    replace h := h.2
    have r10 := h.1
    replace h := h.2
    refine yb_icmp_ge (x := x1) (y := x6) rfl rfl r9 r10 (fun c => ?_) (fun c => ?_)
    · replace h := h.1 c
      refine yb_push (v := 0) rfl ?_
      exact yb_ret rfl h
    · replace h := h.2 c
      refine yb_push (v := 1) rfl ?_
      refine yb_goto rfl rfl ?_
      exact yb_ret rfl h
  · refine yb_if_eq (x := (0 : Int)) rfl rfl (by decide) (fun _ => ?_) (fun c => absurd (by decide) c)
    refine yb_aload rfl rfl ?_
    refine yb_push (v := 62) rfl ?_
    refine yb_callVz (As := [.int (xJ (62 : Int))]) (a := 146) rfl rfl rfl rfl rfl rfl rfl rfl (by decide) (by decide) (rfl) (by decide) (yZ_mono h (fun d11 e12 h => ?_) (fun d11 e12 h => ?_))
    · refine yb_if_eq (x := (1 : Int)) rfl rfl (by decide) (fun c => absurd c (by decide)) (fun _ => ?_)
      refine yb_iload (x := x1) rfl rfl ?_
      refine yb_aload rfl rfl ?_
      refine yb_iload (x := a1) rfl rfl ?_
      refine yb_callVi (As := [.int (xJ a1)]) (a := 146) rfl rfl rfl rfl rfl rfl rfl rfl (by decide) (by decide) (rfl) (by show (1 : Nat) ≤ 8; decide) (yC_mono h (fun x13 d14 e15 h => ?_))
      have r16 := h.1
      replace h := h.2
      have r17 := h.1
      replace h := h.2
      refine yb_icmp_le (x := x1) (y := x13) rfl rfl r16 r17 (fun c => ?_) (fun c => ?_)
      · replace h := h.1 c
        refine yb_push (v := 0) rfl ?_
        exact yb_ret rfl h
      · replace h := h.2 c
        refine yb_push (v := 1) rfl ?_
        refine yb_goto rfl rfl ?_
        exact yb_ret rfl h
    · refine yb_if_eq (x := (0 : Int)) rfl rfl (by decide) (fun _ => ?_) (fun c => absurd (by decide) c)
      refine yb_aload rfl rfl ?_
      refine yb_push (v := 61) rfl ?_
      refine yb_callVz (As := [.int (xJ (61 : Int))]) (a := 146) rfl rfl rfl rfl rfl rfl rfl rfl (by decide) (by decide) (rfl) (by decide) (yZ_mono h (fun d18 e19 h => ?_) (fun d18 e19 h => ?_))
      · refine yb_if_eq (x := (1 : Int)) rfl rfl (by decide) (fun c => absurd c (by decide)) (fun _ => ?_)
        refine yb_iload (x := x1) rfl rfl ?_
        refine yb_aload rfl rfl ?_
        refine yb_iload (x := a1) rfl rfl ?_
        refine yb_callVi (As := [.int (xJ a1)]) (a := 146) rfl rfl rfl rfl rfl rfl rfl rfl (by decide) (by decide) (rfl) (by show (1 : Nat) ≤ 8; decide) (yC_mono h (fun x20 d21 e22 h => ?_))
        have r23 := h.1
        replace h := h.2
        have r24 := h.1
        replace h := h.2
        refine yb_icmp_ne (x := x1) (y := x20) rfl rfl r23 r24 (fun c => ?_) (fun c => ?_)
        · replace h := h.1 c
          refine yb_push (v := 0) rfl ?_
          exact yb_ret rfl h
        · replace h := h.2 c
          refine yb_push (v := 1) rfl ?_
          refine yb_goto rfl rfl ?_
          exact yb_ret rfl h
      · refine yb_if_eq (x := (0 : Int)) rfl rfl (by decide) (fun _ => ?_) (fun c => absurd (by decide) c)
        refine yb_iload (x := x1) rfl rfl ?_
        exact yb_ret rfl h
theorem yk_204_0 {D L : Nat} {P : Int → xh_D → xd_E → Prop} {d : xh_D} {e : xd_E} {a1 : Int}   (h : yC D 205 L [.ref 146, .int (xJ a1)] d e (fun x1 d2 e3 => yB D xm_c204 (yQi L P) L 4 [.ref 146, .int (xJ a1), .int (xJ x1), .double 0, .double 0] [] d2 e3)) : yB D xm_c204 (yQi L P) L 0 [.ref 146, .int (xJ a1), .double 0, .double 0, .double 0] [] d e := by
  refine yb_aload rfl rfl ?_
  refine yb_iload (x := a1) rfl rfl ?_
  refine yb_callVi (As := [.int (xJ a1)]) (a := 146) rfl rfl rfl rfl rfl rfl rfl rfl (by decide) (by decide) (rfl) (by decide) (yC_mono h (fun x1 d2 e3 h => ?_))
  refine yb_istore rfl rfl rfl ?_
  exact h
theorem yk_204_4 {D L : Nat} {P : Int → xh_D → xd_E → Prop} {d : xh_D} {e : xd_E}  {l1 : Int} {l2 : Int}  (hD : 1 ≤ D) (h : ((-2147483648 ≤ (d 146 (13 : Int)) ∧ (d 146 (13 : Int)) < 2147483648) ∧ ((((d 146 (13 : Int)) = -1) → (xm_hok d ∧ ((-2147483648 ≤ (xm_here d) ∧ (xm_here d) < 2147483648) ∧ ((((xm_here d) = (43 : Int)) → yB D xm_c204 (yQi L P) L 15 [.ref 146, .int (xJ l1), .int (xJ l2), .double 0, .double 0] [] d e) ∧ ((¬ (xm_here d) = (43 : Int)) → (((¬ (xm_here d) = (45 : Int)) → P l2 d e) ∧ (((xm_here d) = (45 : Int)) → yB D xm_c204 (yQi L P) L 15 [.ref 146, .int (xJ l1), .int (xJ l2), .double 0, .double 0] [] d e))))))) ∧ (¬ ((d 146 (13 : Int)) = -1) → P l2 d e)))) : yB D xm_c204 (yQi L P) L 4 [.ref 146, .int (xJ l1), .int (xJ l2), .double 0, .double 0] [] d e := by
  refine yb_aload rfl rfl ?_
  have r1 := h.1
  replace h := h.2
  refine yb_callVz (As := []) (a := 146) rfl rfl rfl rfl rfl rfl rfl rfl (by decide) (by decide) (rfl) (by decide) (sp_191 (by omega) r1 (fun c => ?_) (fun c => ?_))
  · replace h := h.1 c
    show yB D xm_c204 _ L 6 [.ref 146, .int (xJ l1), .int (xJ l2), .double 0, .double 0] [.int (xJ (1 : Int))] d e
    refine yb_if_eq (x := (1 : Int)) rfl rfl (by decide) (fun c => absurd c (by decide)) (fun _ => ?_)
    refine yb_aload rfl rfl ?_
    have r2 := h.1
    replace h := h.2
    refine yb_callVi (As := []) (a := 146) rfl rfl rfl rfl rfl rfl rfl rfl (by decide) (by decide) (rfl) (by decide) (sp_190 (by omega) r2 ?_)
    show yB D xm_c204 _ L 9 [.ref 146, .int (xJ l1), .int (xJ l2), .double 0, .double 0] [.int (xJ (xm_here d))] d e
    refine yb_push (v := 43) rfl ?_
    have r3 := h.1
    replace h := h.2
    refine yb_icmp_eq (x := (xm_here d)) (y := (43 : Int)) rfl rfl r3 (by decide) (fun c => ?_) (fun c => ?_)
    · replace h := h.1 c
      exact h
    · replace h := h.2 c
      refine yb_aload rfl rfl ?_
      refine yb_callVi (As := []) (a := 146) rfl rfl rfl rfl rfl rfl rfl rfl (by decide) (by decide) (rfl) (by decide) (sp_190 (by omega) r2 ?_)
      show yB D xm_c204 _ L 13 [.ref 146, .int (xJ l1), .int (xJ l2), .double 0, .double 0] [.int (xJ (xm_here d))] d e
      refine yb_push (v := 45) rfl ?_
      refine yb_icmp_ne (x := (xm_here d)) (y := (45 : Int)) rfl rfl r3 (by decide) (fun c => ?_) (fun c => ?_)
      · replace h := h.1 c
        refine yb_iload (x := l2) rfl rfl ?_
        exact yb_ret rfl h
      · replace h := h.2 c
        exact h
  · replace h := h.2 c
    show yB D xm_c204 _ L 6 [.ref 146, .int (xJ l1), .int (xJ l2), .double 0, .double 0] [.int (xJ (0 : Int))] d e
    refine yb_if_eq (x := (0 : Int)) rfl rfl (by decide) (fun _ => ?_) (fun c => absurd (by decide) c)
    refine yb_iload (x := l2) rfl rfl ?_
    exact yb_ret rfl h
theorem yk_204_15 {D L : Nat} {P : Int → xh_D → xd_E → Prop} {d : xh_D} {e : xd_E}  {l1 : Int} {l2 : Int}  (hD : 1 ≤ D) (h : (xm_hok d ∧ ((-2147483648 ≤ (xm_here d) ∧ (xm_here d) < 2147483648) ∧ (((¬ (xm_here d) = (43 : Int)) → yC D 205 L [.ref 146, .int (xJ l1)] (xs d 146 (12 : Int) ((d 146 (12 : Int)) + (1 : Int))) e (fun x3 d4 e5 => yB D xm_c204 (yQi L P) L 4 [.ref 146, .int (xJ l1), .int (xJ (l2 - x3)), .double 0, .double 0] [] d4 e5)) ∧ (((xm_here d) = (43 : Int)) → yC D 205 L [.ref 146, .int (xJ l1)] (xs d 146 (12 : Int) ((d 146 (12 : Int)) + (1 : Int))) e (fun x6 d7 e8 => yB D xm_c204 (yQi L P) L 4 [.ref 146, .int (xJ l1), .int (xJ (l2 + x6)), .double 0, .double 0] [] d7 e8)))))) : yB D xm_c204 (yQi L P) L 15 [.ref 146, .int (xJ l1), .int (xJ l2), .double 0, .double 0] [] d e := by
  refine yb_aload rfl rfl ?_
  have r1 := h.1
  replace h := h.2
  refine yb_callVi (As := []) (a := 146) rfl rfl rfl rfl rfl rfl rfl rfl (by decide) (by decide) (rfl) (by decide) (sp_190 (by omega) r1 ?_)
  show yB D xm_c204 _ L 17 [.ref 146, .int (xJ l1), .int (xJ l2), .double 0, .double 0] [.int (xJ (xm_here d))] d e
  refine yb_push (v := 43) rfl ?_
  have r2 := h.1
  replace h := h.2
  refine yb_icmp_ne (x := (xm_here d)) (y := (43 : Int)) rfl rfl r2 (by decide) (fun c => ?_) (fun c => ?_)
  · replace h := h.1 c
    refine yb_push (v := 0) rfl ?_
    refine yb_istore rfl rfl rfl ?_
    refine yb_aload rfl rfl ?_
    refine yb_dup rfl rfl ?_
    refine yb_get (v := .int (xJ (d 146 (12 : Int)))) rfl (by decide) (by decide) (rfl) rfl ?_
    refine yb_push (v := 1) rfl ?_
    refine yb_iadd (x := (d 146 (12 : Int))) (y := (1 : Int)) rfl ?_
    refine yb_put (z := ((d 146 (12 : Int)) + (1 : Int))) (k := 12) rfl rfl (by decide) (by decide) (rfl) (Nat.le_of_ble_eq_true rfl) rfl (rfl) ?_
    refine yb_aload rfl rfl ?_
    refine yb_iload (x := l1) rfl rfl ?_
    refine yb_callVi (As := [.int (xJ l1)]) (a := 146) rfl rfl rfl rfl rfl rfl rfl rfl (by decide) (by decide) (rfl) (by decide) (yC_mono h (fun x3 d4 e5 h => ?_))
    refine yb_istore rfl rfl rfl ?_
    refine yb_iload (x := (0 : Int)) rfl rfl ?_
    refine yb_if_eq (x := (0 : Int)) rfl rfl (by decide) (fun _ => ?_) (fun c => absurd (by decide) c)
    refine yb_iload (x := l2) rfl rfl ?_
    refine yb_iload (x := x3) rfl rfl ?_
    refine yb_isub (x := l2) (y := x3) rfl ?_
    refine yb_istore rfl rfl rfl ?_
    refine yb_goto rfl rfl ?_
    refine yb_forget (dl := [.ref 146, .int (xJ l1), .int (xJ (l2 - x3)), .double 0, .double 0]) ⟨Or.inl rfl, ⟨Or.inl rfl, ⟨Or.inl rfl, ⟨Or.inr ⟨rfl, rfl⟩, ⟨Or.inr ⟨rfl, rfl⟩, trivial⟩⟩⟩⟩⟩ ?_
    exact h
  · replace h := h.2 c
    refine yb_push (v := 1) rfl ?_
    refine yb_goto rfl rfl ?_
    refine yb_istore rfl rfl rfl ?_
    refine yb_aload rfl rfl ?_
    refine yb_dup rfl rfl ?_
    refine yb_get (v := .int (xJ (d 146 (12 : Int)))) rfl (by decide) (by decide) (rfl) rfl ?_
    refine yb_push (v := 1) rfl ?_
    refine yb_iadd (x := (d 146 (12 : Int))) (y := (1 : Int)) rfl ?_
    refine yb_put (z := ((d 146 (12 : Int)) + (1 : Int))) (k := 12) rfl rfl (by decide) (by decide) (rfl) (Nat.le_of_ble_eq_true rfl) rfl (rfl) ?_
    refine yb_aload rfl rfl ?_
    refine yb_iload (x := l1) rfl rfl ?_
    refine yb_callVi (As := [.int (xJ l1)]) (a := 146) rfl rfl rfl rfl rfl rfl rfl rfl (by decide) (by decide) (rfl) (by decide) (yC_mono h (fun x6 d7 e8 h => ?_))
    refine yb_istore rfl rfl rfl ?_
    refine yb_iload (x := (1 : Int)) rfl rfl ?_
    refine yb_if_eq (x := (1 : Int)) rfl rfl (by decide) (fun c => absurd c (by decide)) (fun _ => ?_)
    refine yb_iload (x := l2) rfl rfl ?_
    refine yb_iload (x := x6) rfl rfl ?_
    refine yb_iadd (x := l2) (y := x6) rfl ?_
    refine yb_goto rfl rfl ?_
    refine yb_istore rfl rfl rfl ?_
    refine yb_goto rfl rfl ?_
    refine yb_forget (dl := [.ref 146, .int (xJ l1), .int (xJ (l2 + x6)), .double 0, .double 0]) ⟨Or.inl rfl, ⟨Or.inl rfl, ⟨Or.inl rfl, ⟨Or.inr ⟨rfl, rfl⟩, ⟨Or.inr ⟨rfl, rfl⟩, trivial⟩⟩⟩⟩⟩ ?_
    exact h
theorem yk_205_0 {D L : Nat} {P : Int → xh_D → xd_E → Prop} {d : xh_D} {e : xd_E} {a1 : Int}   (h : yC D 206 L [.ref 146, .int (xJ a1)] d e (fun x1 d2 e3 => yB D xm_c205 (yQi L P) L 4 [.ref 146, .int (xJ a1), .int (xJ x1), .double 0, .double 0] [] d2 e3)) : yB D xm_c205 (yQi L P) L 0 [.ref 146, .int (xJ a1), .double 0, .double 0, .double 0] [] d e := by
  refine yb_aload rfl rfl ?_
  refine yb_iload (x := a1) rfl rfl ?_
  refine yb_callVi (As := [.int (xJ a1)]) (a := 146) rfl rfl rfl rfl rfl rfl rfl rfl (by decide) (by decide) (rfl) (by decide) (yC_mono h (fun x1 d2 e3 h => ?_))
  refine yb_istore rfl rfl rfl ?_
  exact h
theorem yk_205_4 {D L : Nat} {P : Int → xh_D → xd_E → Prop} {d : xh_D} {e : xd_E}  {l1 : Int} {l2 : Int}  (hD : 1 ≤ D) (h : ((-2147483648 ≤ (d 146 (13 : Int)) ∧ (d 146 (13 : Int)) < 2147483648) ∧ ((((d 146 (13 : Int)) = -1) → (xm_hok d ∧ ((-2147483648 ≤ (xm_here d) ∧ (xm_here d) < 2147483648) ∧ ((((xm_here d) = (42 : Int)) → yB D xm_c205 (yQi L P) L 15 [.ref 146, .int (xJ l1), .int (xJ l2), .double 0, .double 0] [] d e) ∧ ((¬ (xm_here d) = (42 : Int)) → (((¬ (xm_here d) = (47 : Int)) → P l2 d e) ∧ (((xm_here d) = (47 : Int)) → yB D xm_c205 (yQi L P) L 15 [.ref 146, .int (xJ l1), .int (xJ l2), .double 0, .double 0] [] d e))))))) ∧ (¬ ((d 146 (13 : Int)) = -1) → P l2 d e)))) : yB D xm_c205 (yQi L P) L 4 [.ref 146, .int (xJ l1), .int (xJ l2), .double 0, .double 0] [] d e := by
  refine yb_aload rfl rfl ?_
  have r1 := h.1
  replace h := h.2
  refine yb_callVz (As := []) (a := 146) rfl rfl rfl rfl rfl rfl rfl rfl (by decide) (by decide) (rfl) (by decide) (sp_191 (by omega) r1 (fun c => ?_) (fun c => ?_))
  · replace h := h.1 c
    show yB D xm_c205 _ L 6 [.ref 146, .int (xJ l1), .int (xJ l2), .double 0, .double 0] [.int (xJ (1 : Int))] d e
    refine yb_if_eq (x := (1 : Int)) rfl rfl (by decide) (fun c => absurd c (by decide)) (fun _ => ?_)
    refine yb_aload rfl rfl ?_
    have r2 := h.1
    replace h := h.2
    refine yb_callVi (As := []) (a := 146) rfl rfl rfl rfl rfl rfl rfl rfl (by decide) (by decide) (rfl) (by decide) (sp_190 (by omega) r2 ?_)
    show yB D xm_c205 _ L 9 [.ref 146, .int (xJ l1), .int (xJ l2), .double 0, .double 0] [.int (xJ (xm_here d))] d e
    refine yb_push (v := 42) rfl ?_
    have r3 := h.1
    replace h := h.2
    refine yb_icmp_eq (x := (xm_here d)) (y := (42 : Int)) rfl rfl r3 (by decide) (fun c => ?_) (fun c => ?_)
    · replace h := h.1 c
      exact h
    · replace h := h.2 c
      refine yb_aload rfl rfl ?_
      refine yb_callVi (As := []) (a := 146) rfl rfl rfl rfl rfl rfl rfl rfl (by decide) (by decide) (rfl) (by decide) (sp_190 (by omega) r2 ?_)
      show yB D xm_c205 _ L 13 [.ref 146, .int (xJ l1), .int (xJ l2), .double 0, .double 0] [.int (xJ (xm_here d))] d e
      refine yb_push (v := 47) rfl ?_
      refine yb_icmp_ne (x := (xm_here d)) (y := (47 : Int)) rfl rfl r3 (by decide) (fun c => ?_) (fun c => ?_)
      · replace h := h.1 c
        refine yb_iload (x := l2) rfl rfl ?_
        exact yb_ret rfl h
      · replace h := h.2 c
        exact h
  · replace h := h.2 c
    show yB D xm_c205 _ L 6 [.ref 146, .int (xJ l1), .int (xJ l2), .double 0, .double 0] [.int (xJ (0 : Int))] d e
    refine yb_if_eq (x := (0 : Int)) rfl rfl (by decide) (fun _ => ?_) (fun c => absurd (by decide) c)
    refine yb_iload (x := l2) rfl rfl ?_
    exact yb_ret rfl h
theorem yk_205_15 {D L : Nat} {P : Int → xh_D → xd_E → Prop} {d : xh_D} {e : xd_E}  {l1 : Int} {l2 : Int}  (hD : 1 ≤ D) (h : (xm_hok d ∧ ((-2147483648 ≤ (xm_here d) ∧ (xm_here d) < 2147483648) ∧ (((¬ (xm_here d) = (42 : Int)) → yC D 206 L [.ref 146, .int (xJ l1)] (xs d 146 (12 : Int) ((d 146 (12 : Int)) + (1 : Int))) e (fun x3 d4 e5 => ((-2147483648 ≤ x3 ∧ x3 < 2147483648) ∧ (((¬ x3 = 0) → (((-2147483648 ≤ x3 ∧ x3 < 2147483648) ∧ ¬ x3 = 0) ∧ yB D xm_c205 (yQi L P) L 4 [.ref 146, .int (xJ l1), .int (xJ (xi_div l2 x3)), .double 0, .double 0] [] d4 e5)) ∧ ((x3 = 0) → yB D xm_c205 (yQi L P) L 4 [.ref 146, .int (xJ l1), .int (xJ (0 : Int)), .double 0, .double 0] [] d4 e5))))) ∧ (((xm_here d) = (42 : Int)) → yC D 206 L [.ref 146, .int (xJ l1)] (xs d 146 (12 : Int) ((d 146 (12 : Int)) + (1 : Int))) e (fun x8 d9 e10 => yB D xm_c205 (yQi L P) L 4 [.ref 146, .int (xJ l1), .int (xJ (l2 * x8)), .double 0, .double 0] [] d9 e10)))))) : yB D xm_c205 (yQi L P) L 15 [.ref 146, .int (xJ l1), .int (xJ l2), .double 0, .double 0] [] d e := by
  refine yb_aload rfl rfl ?_
  have r1 := h.1
  replace h := h.2
  refine yb_callVi (As := []) (a := 146) rfl rfl rfl rfl rfl rfl rfl rfl (by decide) (by decide) (rfl) (by decide) (sp_190 (by omega) r1 ?_)
  show yB D xm_c205 _ L 17 [.ref 146, .int (xJ l1), .int (xJ l2), .double 0, .double 0] [.int (xJ (xm_here d))] d e
  refine yb_push (v := 42) rfl ?_
  have r2 := h.1
  replace h := h.2
  refine yb_icmp_ne (x := (xm_here d)) (y := (42 : Int)) rfl rfl r2 (by decide) (fun c => ?_) (fun c => ?_)
  · replace h := h.1 c
    refine yb_push (v := 0) rfl ?_
    refine yb_istore rfl rfl rfl ?_
    refine yb_aload rfl rfl ?_
    refine yb_dup rfl rfl ?_
    refine yb_get (v := .int (xJ (d 146 (12 : Int)))) rfl (by decide) (by decide) (rfl) rfl ?_
    refine yb_push (v := 1) rfl ?_
    refine yb_iadd (x := (d 146 (12 : Int))) (y := (1 : Int)) rfl ?_
    refine yb_put (z := ((d 146 (12 : Int)) + (1 : Int))) (k := 12) rfl rfl (by decide) (by decide) (rfl) (Nat.le_of_ble_eq_true rfl) rfl (rfl) ?_
    refine yb_aload rfl rfl ?_
    refine yb_iload (x := l1) rfl rfl ?_
    refine yb_callVi (As := [.int (xJ l1)]) (a := 146) rfl rfl rfl rfl rfl rfl rfl rfl (by decide) (by decide) (rfl) (by decide) (yC_mono h (fun x3 d4 e5 h => ?_))
    refine yb_istore rfl rfl rfl ?_
    refine yb_iload (x := (0 : Int)) rfl rfl ?_
    refine yb_if_eq (x := (0 : Int)) rfl rfl (by decide) (fun _ => ?_) (fun c => absurd (by decide) c)
    refine yb_iload (x := x3) rfl rfl ?_
    have r6 := h.1
    replace h := h.2
    refine yb_if_ne (x := x3) rfl rfl r6 (fun c => ?_) (fun c => ?_)
    · replace h := h.1 c
      refine yb_iload (x := l2) rfl rfl ?_
      refine yb_iload (x := x3) rfl rfl ?_
      have r7 := h.1
      replace h := h.2
      refine yb_idivg (x := l2) (y := x3) rfl r7 ?_
      refine yb_istore rfl rfl rfl ?_
      refine yb_goto rfl rfl ?_
      refine yb_forget (dl := [.ref 146, .int (xJ l1), .int (xJ (xi_div l2 x3)), .double 0, .double 0]) ⟨Or.inl rfl, ⟨Or.inl rfl, ⟨Or.inl rfl, ⟨Or.inr ⟨rfl, rfl⟩, ⟨Or.inr ⟨rfl, rfl⟩, trivial⟩⟩⟩⟩⟩ ?_
      exact h
    · replace h := h.2 c
      refine yb_push (v := 0) rfl ?_
      refine yb_goto rfl rfl ?_
      refine yb_istore rfl rfl rfl ?_
      refine yb_goto rfl rfl ?_
      refine yb_forget (dl := [.ref 146, .int (xJ l1), .int (xJ (0 : Int)), .double 0, .double 0]) ⟨Or.inl rfl, ⟨Or.inl rfl, ⟨Or.inl rfl, ⟨Or.inr ⟨rfl, rfl⟩, ⟨Or.inr ⟨rfl, rfl⟩, trivial⟩⟩⟩⟩⟩ ?_
      exact h
  · replace h := h.2 c
    refine yb_push (v := 1) rfl ?_
    refine yb_goto rfl rfl ?_
    refine yb_istore rfl rfl rfl ?_
    refine yb_aload rfl rfl ?_
    refine yb_dup rfl rfl ?_
    refine yb_get (v := .int (xJ (d 146 (12 : Int)))) rfl (by decide) (by decide) (rfl) rfl ?_
    refine yb_push (v := 1) rfl ?_
    refine yb_iadd (x := (d 146 (12 : Int))) (y := (1 : Int)) rfl ?_
    refine yb_put (z := ((d 146 (12 : Int)) + (1 : Int))) (k := 12) rfl rfl (by decide) (by decide) (rfl) (Nat.le_of_ble_eq_true rfl) rfl (rfl) ?_
    refine yb_aload rfl rfl ?_
    refine yb_iload (x := l1) rfl rfl ?_
    refine yb_callVi (As := [.int (xJ l1)]) (a := 146) rfl rfl rfl rfl rfl rfl rfl rfl (by decide) (by decide) (rfl) (by decide) (yC_mono h (fun x8 d9 e10 h => ?_))
    refine yb_istore rfl rfl rfl ?_
    refine yb_iload (x := (1 : Int)) rfl rfl ?_
    refine yb_if_eq (x := (1 : Int)) rfl rfl (by decide) (fun c => absurd c (by decide)) (fun _ => ?_)
    refine yb_iload (x := l2) rfl rfl ?_
    refine yb_iload (x := x8) rfl rfl ?_
    refine yb_imul (x := l2) (y := x8) rfl ?_
    refine yb_goto rfl rfl ?_
    refine yb_istore rfl rfl rfl ?_
    refine yb_goto rfl rfl ?_
    refine yb_forget (dl := [.ref 146, .int (xJ l1), .int (xJ (l2 * x8)), .double 0, .double 0]) ⟨Or.inl rfl, ⟨Or.inl rfl, ⟨Or.inl rfl, ⟨Or.inr ⟨rfl, rfl⟩, ⟨Or.inr ⟨rfl, rfl⟩, trivial⟩⟩⟩⟩⟩ ?_
    exact h
theorem yk_206_0 {D L : Nat} {P : Int → xh_D → xd_E → Prop} {d : xh_D} {e : xd_E} {a1 : Int}   (hD : 1 ≤ D) (h : yZ D 193 L [.ref 146, .int (xJ (45 : Int))] d e (fun d1 e2 => yC D 206 L [.ref 146, .int (xJ a1)] d1 e2 (fun x3 d4 e5 => P (-x3) d4 e5)) (fun d1 e2 => ((-2147483648 ≤ (d1 146 (13 : Int)) ∧ (d1 146 (13 : Int)) < 2147483648) ∧ ((((d1 146 (13 : Int)) = -1) → (xm_hok d1 ∧ ((-2147483648 ≤ (xm_here d1) ∧ (xm_here d1) < 2147483648) ∧ (((¬ (xm_here d1) = (40 : Int)) → yB D xm_c206 (yQi L P) L 40 [.ref 146, .double 0, .int (xJ (xm_here d1)), .double 0, .double 0] [] d1 e2) ∧ (((xm_here d1) = (40 : Int)) → ((-2147483648 ≤ a1 ∧ a1 < 2147483648) ∧ ((((4 : Int) ≤ a1) → yB D xm_c206 (yQi L P) L 40 [.ref 146, .double 0, .int (xJ (xm_here d1)), .double 0, .double 0] [] d1 e2) ∧ ((¬ (4 : Int) ≤ a1) → yC D 203 L [.ref 146, .int (xJ (a1 + (1 : Int)))] (xs d1 146 (12 : Int) ((d1 146 (12 : Int)) + (1 : Int))) e2 (fun x10 d11 e12 => yV D 194 L [.ref 146, .int (xJ (41 : Int))] d11 e12 (fun d13 e14 => P x10 d13 e14)))))))))) ∧ (¬ ((d1 146 (13 : Int)) = -1) → P (0 : Int) d1 e2))))) : yB D xm_c206 (yQi L P) L 0 [.ref 146, .int (xJ a1), .double 0, .double 0, .double 0] [] d e := by
  refine yb_aload rfl rfl ?_
  refine yb_push (v := 45) rfl ?_
  refine yb_callVz (As := [.int (xJ (45 : Int))]) (a := 146) rfl rfl rfl rfl rfl rfl rfl rfl (by decide) (by decide) (rfl) (by decide) (yZ_mono h (fun d1 e2 h => ?_) (fun d1 e2 h => ?_))
  · refine yb_if_eq (x := (1 : Int)) rfl rfl (by decide) (fun c => absurd c (by decide)) (fun _ => ?_)
    refine yb_aload rfl rfl ?_
    refine yb_iload (x := a1) rfl rfl ?_
    refine yb_callVi (As := [.int (xJ a1)]) (a := 146) rfl rfl rfl rfl rfl rfl rfl rfl (by decide) (by decide) (rfl) (by decide) (yC_mono h (fun x3 d4 e5 h => ?_))
    refine yb_ineg (x := x3) rfl ?_
    exact yb_ret rfl h
  · refine yb_if_eq (x := (0 : Int)) rfl rfl (by decide) (fun _ => ?_) (fun c => absurd (by decide) c)
    refine yb_aload rfl rfl ?_
    have r6 := h.1
    replace h := h.2
    refine yb_callVz (As := []) (a := 146) rfl rfl rfl rfl rfl rfl rfl rfl (by decide) (by decide) (rfl) (by decide) (sp_191 (by omega) r6 (fun c => ?_) (fun c => ?_))
    · replace h := h.1 c
      show yB D xm_c206 _ L 11 [.ref 146, .int (xJ a1), .double 0, .double 0, .double 0] [.int (xJ (1 : Int))] d1 e2
      refine yb_if_ne (x := (1 : Int)) rfl rfl (by decide) (fun _ => ?_) (fun c => absurd c (by decide))
      refine yb_aload rfl rfl ?_
      have r7 := h.1
      replace h := h.2
      refine yb_callVi (As := []) (a := 146) rfl rfl rfl rfl rfl rfl rfl rfl (by decide) (by decide) (rfl) (by decide) (sp_190 (by omega) r7 ?_)
      show yB D xm_c206 _ L 16 [.ref 146, .int (xJ a1), .double 0, .double 0, .double 0] [.int (xJ (xm_here d1))] d1 e2
      refine yb_istore rfl rfl rfl ?_
      refine yb_iload (x := (xm_here d1)) rfl rfl ?_
      refine yb_push (v := 40) rfl ?_
      have r8 := h.1
      replace h := h.2
      refine yb_icmp_ne (x := (xm_here d1)) (y := (40 : Int)) rfl rfl r8 (by decide) (fun c => ?_) (fun c => ?_)
      · replace h := h.1 c
        refine yb_forget (dl := [.ref 146, .double 0, .int (xJ (xm_here d1)), .double 0, .double 0]) ⟨Or.inl rfl, ⟨Or.inr ⟨rfl, rfl⟩, ⟨Or.inl rfl, ⟨Or.inl rfl, ⟨Or.inl rfl, trivial⟩⟩⟩⟩⟩ ?_
        exact h
      · replace h := h.2 c
        refine yb_iload (x := a1) rfl rfl ?_
        refine yb_push (v := 4) rfl ?_
        have r9 := h.1
        replace h := h.2
        refine yb_icmp_ge (x := a1) (y := (4 : Int)) rfl rfl r9 (by decide) (fun c => ?_) (fun c => ?_)
        · replace h := h.1 c
          refine yb_forget (dl := [.ref 146, .double 0, .int (xJ (xm_here d1)), .double 0, .double 0]) ⟨Or.inl rfl, ⟨Or.inr ⟨rfl, rfl⟩, ⟨Or.inl rfl, ⟨Or.inl rfl, ⟨Or.inl rfl, trivial⟩⟩⟩⟩⟩ ?_
          exact h
        · replace h := h.2 c
          refine yb_aload rfl rfl ?_
          refine yb_dup rfl rfl ?_
          refine yb_get (v := .int (xJ (d1 146 (12 : Int)))) rfl (by decide) (by decide) (rfl) rfl ?_
          refine yb_push (v := 1) rfl ?_
          refine yb_iadd (x := (d1 146 (12 : Int))) (y := (1 : Int)) rfl ?_
          refine yb_put (z := ((d1 146 (12 : Int)) + (1 : Int))) (k := 12) rfl rfl (by decide) (by decide) (rfl) (Nat.le_of_ble_eq_true rfl) rfl (rfl) ?_
          refine yb_aload rfl rfl ?_
          refine yb_iload (x := a1) rfl rfl ?_
          refine yb_push (v := 1) rfl ?_
          refine yb_iadd (x := a1) (y := (1 : Int)) rfl ?_
          refine yb_callVi (As := [.int (xJ (a1 + (1 : Int)))]) (a := 146) rfl rfl rfl rfl rfl rfl rfl rfl (by decide) (by decide) (rfl) (by decide) (yC_mono h (fun x10 d11 e12 h => ?_))
          refine yb_istore rfl rfl rfl ?_
          refine yb_aload rfl rfl ?_
          refine yb_push (v := 41) rfl ?_
          refine yb_callVv (As := [.int (xJ (41 : Int))]) (a := 146) rfl rfl rfl rfl rfl rfl rfl rfl (by decide) (by decide) (rfl) (by decide) (yV_mono h (fun d13 e14 h => ?_))
          refine yb_iload (x := x10) rfl rfl ?_
          exact yb_ret rfl h
    · replace h := h.2 c
      show yB D xm_c206 _ L 11 [.ref 146, .int (xJ a1), .double 0, .double 0, .double 0] [.int (xJ (0 : Int))] d1 e2
      refine yb_if_ne (x := (0 : Int)) rfl rfl (by decide) (fun c => absurd (by decide) c) (fun _ => ?_)
      refine yb_push (v := 0) rfl ?_
      exact yb_ret rfl h
theorem yk_206_40 {D L : Nat} {P : Int → xh_D → xd_E → Prop} {d : xh_D} {e : xd_E}  {l2 : Int}  (hD : 2 ≤ D) (h : ((-2147483648 ≤ l2 ∧ l2 < 2147483648) ∧ ((((48 : Int) ≤ l2 ∧ l2 ≤ (57 : Int)) → yB D xm_c206 (yQi L P) L 49 [.ref 146, .double 0, .double 0, .int (xJ (0 : Int)), .int (xJ (0 : Int))] [] d e) ∧ (¬ ((48 : Int) ≤ l2 ∧ l2 ≤ (57 : Int)) → (((l2 = (116 : Int)) → yB D xm_c206 (yQi L P) L 104 [.ref 146, .double 0, .int (xJ l2), .double 0, .double 0] [] d e) ∧ ((¬ l2 = (116 : Int)) → (((l2 = (117 : Int)) → yB D xm_c206 (yQi L P) L 104 [.ref 146, .double 0, .int (xJ l2), .double 0, .double 0] [] d e) ∧ ((¬ l2 = (117 : Int)) → (((l2 = (114 : Int)) → yB D xm_c206 (yQi L P) L 104 [.ref 146, .double 0, .int (xJ l2), .double 0, .double 0] [] d e) ∧ ((¬ l2 = (114 : Int)) → (((l2 = (107 : Int)) → yB D xm_c206 (yQi L P) L 104 [.ref 146, .double 0, .int (xJ l2), .double 0, .double 0] [] d e) ∧ ((¬ l2 = (107 : Int)) → (((l2 = (100 : Int)) → yB D xm_c206 (yQi L P) L 104 [.ref 146, .double 0, .int (xJ l2), .double 0, .double 0] [] d e) ∧ ((¬ l2 = (100 : Int)) → (((l2 = (105 : Int)) → yB D xm_c206 (yQi L P) L 104 [.ref 146, .double 0, .int (xJ l2), .double 0, .double 0] [] d e) ∧ ((¬ l2 = (105 : Int)) → (((l2 = (106 : Int)) → yB D xm_c206 (yQi L P) L 104 [.ref 146, .double 0, .int (xJ l2), .double 0, .double 0] [] d e) ∧ ((¬ l2 = (106 : Int)) → ((-2147483648 ≤ (d 146 (13 : Int)) ∧ (d 146 (13 : Int)) < 2147483648) ∧ P (0 : Int) (xs d 146 (13 : Int) (if (d 146 (13 : Int)) = -1 then (d 146 (12 : Int)) else (d 146 (13 : Int)))) e))))))))))))))))))) : yB D xm_c206 (yQi L P) L 40 [.ref 146, .double 0, .int (xJ l2), .double 0, .double 0] [] d e := by
  refine yb_iload (x := l2) rfl rfl ?_
  refine yb_push (v := 48) rfl ?_
  refine yb_push (v := 57) rfl ?_
  have r1 := h.1
  replace h := h.2
  refine yb_callSz (As := [.int (xJ l2), .int (xJ (48 : Int)), .int (xJ (57 : Int))]) rfl rfl rfl rfl rfl rfl rfl rfl (by decide) (sp_180 (by omega) ⟨r1, (by show (-2147483648 ≤ (48 : Int) ∧ (48 : Int) < 2147483648); decide), (by show (-2147483648 ≤ (57 : Int) ∧ (57 : Int) < 2147483648); decide)⟩ (fun c => ?_) (fun c => ?_))
  · replace h := h.1 c
    show yB D xm_c206 _ L 44 [.ref 146, .double 0, .int (xJ l2), .double 0, .double 0] [.int (xJ (1 : Int))] d e
    refine yb_if_eq (x := (1 : Int)) rfl rfl (by decide) (fun c => absurd c (by decide)) (fun _ => ?_)
    refine yb_push (v := 0) rfl ?_
    refine yb_istore rfl rfl rfl ?_
    refine yb_push (v := 0) rfl ?_
    refine yb_istore rfl rfl rfl ?_
    refine yb_forget (dl := [.ref 146, .double 0, .double 0, .int (xJ (0 : Int)), .int (xJ (0 : Int))]) ⟨Or.inl rfl, ⟨Or.inl rfl, ⟨Or.inr ⟨rfl, rfl⟩, ⟨Or.inl rfl, ⟨Or.inl rfl, trivial⟩⟩⟩⟩⟩ ?_
    exact h
  · replace h := h.2 c
    show yB D xm_c206 _ L 44 [.ref 146, .double 0, .int (xJ l2), .double 0, .double 0] [.int (xJ (0 : Int))] d e
    refine yb_if_eq (x := (0 : Int)) rfl rfl (by decide) (fun _ => ?_) (fun c => absurd (by decide) c)
    refine yb_iload (x := l2) rfl rfl ?_
    refine yb_push (v := 116) rfl ?_
    refine yb_icmp_eq (x := l2) (y := (116 : Int)) rfl rfl r1 (by decide) (fun c => ?_) (fun c => ?_)
    · replace h := h.1 c
      exact h
    · replace h := h.2 c
      refine yb_iload (x := l2) rfl rfl ?_
      refine yb_push (v := 117) rfl ?_
      refine yb_icmp_eq (x := l2) (y := (117 : Int)) rfl rfl r1 (by decide) (fun c => ?_) (fun c => ?_)
      · replace h := h.1 c
        exact h
      · replace h := h.2 c
        refine yb_iload (x := l2) rfl rfl ?_
        refine yb_push (v := 114) rfl ?_
        refine yb_icmp_eq (x := l2) (y := (114 : Int)) rfl rfl r1 (by decide) (fun c => ?_) (fun c => ?_)
        · replace h := h.1 c
          exact h
        · replace h := h.2 c
          refine yb_iload (x := l2) rfl rfl ?_
          refine yb_push (v := 107) rfl ?_
          refine yb_icmp_eq (x := l2) (y := (107 : Int)) rfl rfl r1 (by decide) (fun c => ?_) (fun c => ?_)
          · replace h := h.1 c
            exact h
          · replace h := h.2 c
            refine yb_iload (x := l2) rfl rfl ?_
            refine yb_push (v := 100) rfl ?_
            refine yb_icmp_eq (x := l2) (y := (100 : Int)) rfl rfl r1 (by decide) (fun c => ?_) (fun c => ?_)
            · replace h := h.1 c
              exact h
            · replace h := h.2 c
              refine yb_iload (x := l2) rfl rfl ?_
              refine yb_push (v := 105) rfl ?_
              refine yb_icmp_eq (x := l2) (y := (105 : Int)) rfl rfl r1 (by decide) (fun c => ?_) (fun c => ?_)
              · replace h := h.1 c
                exact h
              · replace h := h.2 c
                refine yb_iload (x := l2) rfl rfl ?_
                refine yb_push (v := 106) rfl ?_
                refine yb_icmp_eq (x := l2) (y := (106 : Int)) rfl rfl r1 (by decide) (fun c => ?_) (fun c => ?_)
                · replace h := h.1 c
                  exact h
                · replace h := h.2 c
                  refine yb_aload rfl rfl ?_
                  refine yb_aload rfl rfl ?_
                  refine yb_get (v := .int (xJ (d 146 (12 : Int)))) rfl (by decide) (by decide) (rfl) rfl ?_
                  have r2 := h.1
                  replace h := h.2
                  refine yb_callVv (As := [.int (xJ (d 146 (12 : Int)))]) (a := 146) rfl rfl rfl rfl rfl rfl rfl rfl (by decide) (by decide) (rfl) (by decide) (sp_192 (by omega) r2 ?_)
                  show yB D xm_c206 _ L 102 [.ref 146, .double 0, .int (xJ l2), .double 0, .double 0] [] (xs d 146 (13 : Int) (if (d 146 (13 : Int)) = -1 then (d 146 (12 : Int)) else (d 146 (13 : Int)))) e
                  refine yb_push (v := 0) rfl ?_
                  exact yb_ret rfl h
theorem yk_206_49 {D L : Nat} {P : Int → xh_D → xd_E → Prop} {d : xh_D} {e : xd_E}  {l3 : Int} {l4 : Int}  (hD : 1 ≤ D) (h : ((-2147483648 ≤ l4 ∧ l4 < 2147483648) ∧ ((((3 : Int) ≤ l4) → P l3 d e) ∧ ((¬ (3 : Int) ≤ l4) → (xm_hok d ∧ ((-2147483648 ≤ (xm_here d) ∧ (xm_here d) < 2147483648) ∧ ((((48 : Int) ≤ (xm_here d) ∧ (xm_here d) ≤ (57 : Int)) → (∀ v4, v4 = ((((10 : Int) * l3) + (xm_here d)) - (48 : Int)) → yB D xm_c206 (yQi L P) L 49 [.ref 146, .double 0, .double 0, .int (xJ v4), .int (xJ (l4 + 1))] [] (xs d 146 (12 : Int) ((d 146 (12 : Int)) + (1 : Int))) e)) ∧ (¬ ((48 : Int) ≤ (xm_here d) ∧ (xm_here d) ≤ (57 : Int)) → P l3 d e)))))))) : yB D xm_c206 (yQi L P) L 49 [.ref 146, .double 0, .double 0, .int (xJ l3), .int (xJ l4)] [] d e := by
  refine yb_iload (x := l4) rfl rfl ?_
  refine yb_push (v := 3) rfl ?_
  have r1 := h.1
  replace h := h.2
  refine yb_icmp_ge (x := l4) (y := (3 : Int)) rfl rfl r1 (by decide) (fun c => ?_) (fun c => ?_)
  · replace h := h.1 c
    refine yb_iload (x := l3) rfl rfl ?_
    exact yb_ret rfl h
  · replace h := h.2 c
    refine yb_aload rfl rfl ?_
    have r2 := h.1
    replace h := h.2
    refine yb_callVi (As := []) (a := 146) rfl rfl rfl rfl rfl rfl rfl rfl (by decide) (by decide) (rfl) (by decide) (sp_190 (by omega) r2 ?_)
    show yB D xm_c206 _ L 54 [.ref 146, .double 0, .double 0, .int (xJ l3), .int (xJ l4)] [.int (xJ (xm_here d))] d e
    refine yb_push (v := 48) rfl ?_
    refine yb_push (v := 57) rfl ?_
    have r3 := h.1
    replace h := h.2
    refine yb_callSz (As := [.int (xJ (xm_here d)), .int (xJ (48 : Int)), .int (xJ (57 : Int))]) rfl rfl rfl rfl rfl rfl rfl rfl (by decide) (sp_180 (by omega) ⟨r3, (by show (-2147483648 ≤ (48 : Int) ∧ (48 : Int) < 2147483648); decide), (by show (-2147483648 ≤ (57 : Int) ∧ (57 : Int) < 2147483648); decide)⟩ (fun c => ?_) (fun c => ?_))
    · replace h := h.1 c
      show yB D xm_c206 _ L 57 [.ref 146, .double 0, .double 0, .int (xJ l3), .int (xJ l4)] [.int (xJ (1 : Int))] d e
      refine yb_if_eq (x := (1 : Int)) rfl rfl (by decide) (fun c => absurd c (by decide)) (fun _ => ?_)
      refine yb_push (v := 10) rfl ?_
      refine yb_iload (x := l3) rfl rfl ?_
      refine yb_imul (x := (10 : Int)) (y := l3) rfl ?_
      refine yb_aload rfl rfl ?_
      refine yb_callVi (As := []) (a := 146) rfl rfl rfl rfl rfl rfl rfl rfl (by decide) (by decide) (rfl) (by show (1 : Nat) ≤ 8; decide) (sp_190 (by omega) r2 ?_)
      show yB D xm_c206 _ L 63 [.ref 146, .double 0, .double 0, .int (xJ l3), .int (xJ l4)] [.int (xJ (xm_here d)), .int (xJ ((10 : Int) * l3))] d e
      refine yb_iadd (x := ((10 : Int) * l3)) (y := (xm_here d)) rfl ?_
      refine yb_push (v := 48) rfl ?_
      refine yb_isub (x := (((10 : Int) * l3) + (xm_here d))) (y := (48 : Int)) rfl ?_
      replace h := h _ rfl
      refine yb_istore rfl rfl rfl ?_
      refine yb_aload rfl rfl ?_
      refine yb_dup rfl rfl ?_
      refine yb_get (v := .int (xJ (d 146 (12 : Int)))) rfl (by decide) (by decide) (rfl) rfl ?_
      refine yb_push (v := 1) rfl ?_
      refine yb_iadd (x := (d 146 (12 : Int))) (y := (1 : Int)) rfl ?_
      refine yb_put (z := ((d 146 (12 : Int)) + (1 : Int))) (k := 12) rfl rfl (by decide) (by decide) (rfl) (Nat.le_of_ble_eq_true rfl) rfl (rfl) ?_
      refine yb_iinc (x := l4) (n := 1) rfl rfl rfl rfl ?_
      refine yb_goto rfl rfl ?_
      exact h
    · replace h := h.2 c
      show yB D xm_c206 _ L 57 [.ref 146, .double 0, .double 0, .int (xJ l3), .int (xJ l4)] [.int (xJ (0 : Int))] d e
      refine yb_if_eq (x := (0 : Int)) rfl rfl (by decide) (fun _ => ?_) (fun c => absurd (by decide) c)
      refine yb_iload (x := l3) rfl rfl ?_
      exact yb_ret rfl h
theorem yk_206_104 {D L : Nat} {P : Int → xh_D → xd_E → Prop} {d : xh_D} {e : xd_E}  {l2 : Int}  (h : ((-2147483648 ≤ (d 146 (17 : Int)) ∧ (d 146 (17 : Int)) < 2147483648) ∧ ((¬ (d 146 (17 : Int)) = 0 → (((d 146 (17 : Int)) = 147 → yC D 207 L [.ref 146, .int (xJ l2), .ref 147] (xs d 146 (12 : Int) ((d 146 (12 : Int)) + (1 : Int))) e (fun x2 d3 e4 => P x2 d3 e4)) ∧ ((d 146 (17 : Int)) = 162 → yC D 207 L [.ref 146, .int (xJ l2), .ref 162] (xs d 146 (12 : Int) ((d 146 (12 : Int)) + (1 : Int))) e (fun x5 d6 e7 => P x5 d6 e7)) ∧ ((d 146 (17 : Int)) = 147 ∨ (d 146 (17 : Int)) = 162))) ∧ ((d 146 (17 : Int)) = 0 → P (0 : Int) (xs d 146 (12 : Int) ((d 146 (12 : Int)) + (1 : Int))) e)))) : yB D xm_c206 (yQi L P) L 104 [.ref 146, .double 0, .int (xJ l2), .double 0, .double 0] [] d e := by
  refine yb_aload rfl rfl ?_
  refine yb_dup rfl rfl ?_
  refine yb_get (v := .int (xJ (d 146 (12 : Int)))) rfl (by decide) (by decide) (rfl) rfl ?_
  refine yb_push (v := 1) rfl ?_
  refine yb_iadd (x := (d 146 (12 : Int))) (y := (1 : Int)) rfl ?_
  refine yb_put (z := ((d 146 (12 : Int)) + (1 : Int))) (k := 12) rfl rfl (by decide) (by decide) (rfl) (Nat.le_of_ble_eq_true rfl) rfl (rfl) ?_
  refine yb_aload rfl rfl ?_
  refine yb_get (v := xd_r (xJ (d 146 (17 : Int)))) rfl (by decide) (by decide) (rfl) rfl ?_
  have r1 := h.1
  replace h := h.2
  refine yb_nnull rfl rfl r1 (fun c => ?_) (fun c => ?_)
  · replace h := h.1 c
    refine yb_aload rfl rfl ?_
    refine yb_iload (x := l2) rfl rfl ?_
    refine yb_aload rfl rfl ?_
    rcases h.2.2 with c | c
    · replace h := h.1 c
      refine yb_get (v := .ref 147) rfl (by decide) (by decide) rfl (by show some (xd_r (xJ (d 146 (17 : Int)))) = some (.ref 147); rw [c]; rfl) ?_
      refine yb_callVi (As := [.int (xJ l2), .ref 147]) (a := 146) rfl rfl rfl rfl rfl rfl rfl rfl (by decide) (by decide) (rfl) (by decide) (yC_mono h (fun x2 d3 e4 h => ?_))
      exact yb_ret rfl h
    · replace h := h.2.1 c
      refine yb_get (v := .ref 162) rfl (by decide) (by decide) rfl (by show some (xd_r (xJ (d 146 (17 : Int)))) = some (.ref 162); rw [c]; rfl) ?_
      refine yb_callVi (As := [.int (xJ l2), .ref 162]) (a := 146) rfl rfl rfl rfl rfl rfl rfl rfl (by decide) (by decide) (rfl) (by decide) (yC_mono h (fun x5 d6 e7 h => ?_))
      exact yb_ret rfl h
  · replace h := h.2 c
    refine yb_push (v := 0) rfl ?_
    refine yb_goto rfl rfl ?_
    exact yb_ret rfl h
theorem yk_207_147_0 {D L : Nat} {P : Int → xh_D → xd_E → Prop} {d : xh_D} {e : xd_E} {a1 : Int}   (hD : 2 ≤ D) (h : ((-2147483648 ≤ a1 ∧ a1 < 2147483648) ∧ (((a1 < 100 ∨ 117 < a1) → P (d 146 (19 : Int)) d e) ∧ (a1 = 100 → ((0 ≤ (d 146 (20 : Int)) ∧ (d 146 (20 : Int)) < 2147483648) ∧ P ((d 146 (20 : Int)) % (9 : Int)) d e)) ∧ (a1 = 101 → P (d 146 (19 : Int)) d e) ∧ (a1 = 102 → P (d 146 (19 : Int)) d e) ∧ (a1 = 103 → P (d 146 (19 : Int)) d e) ∧ (a1 = 104 → P (d 146 (19 : Int)) d e) ∧ (a1 = 105 → P (d 146 (18 : Int)) d e) ∧ (a1 = 106 → P (d 146 (19 : Int)) d e) ∧ (a1 = 107 → ((0 ≤ ((18 : Int) + (d 146 (19 : Int))) ∧ ((18 : Int) + (d 146 (19 : Int))) < 353) ∧ ((0 ≤ ((18 : Int) + (d 146 (18 : Int))) ∧ ((18 : Int) + (d 146 (18 : Int))) < 353) ∧ P (xp_bc (xi_and (d 147 ((18 : Int) + (d 146 (19 : Int)))) (xi_xor (d 147 ((18 : Int) + (d 146 (18 : Int)))) (-1 : Int)))) d e))) ∧ (a1 = 108 → P (d 146 (19 : Int)) d e) ∧ (a1 = 109 → P (d 146 (19 : Int)) d e) ∧ (a1 = 110 → P (d 146 (19 : Int)) d e) ∧ (a1 = 111 → P (d 146 (19 : Int)) d e) ∧ (a1 = 112 → P (d 146 (19 : Int)) d e) ∧ (a1 = 113 → P (d 146 (19 : Int)) d e) ∧ (a1 = 114 → ((0 ≤ ((9 : Int) + (d 146 (18 : Int))) ∧ ((9 : Int) + (d 146 (18 : Int))) < 353) ∧ ((0 ≤ ((9 : Int) + (d 146 (19 : Int))) ∧ ((9 : Int) + (d 146 (19 : Int))) < 353) ∧ ((0 ≤ (d 147 ((9 : Int) + (d 146 (18 : Int)))) ∧ (d 147 ((9 : Int) + (d 146 (18 : Int)))) < 9) ∧ ((0 ≤ (d 147 ((9 : Int) + (d 146 (19 : Int)))) ∧ (d 147 ((9 : Int) + (d 146 (19 : Int)))) < 9) ∧ P (xp_apart (d 147 ((9 : Int) + (d 146 (18 : Int)))) (d 147 ((9 : Int) + (d 146 (19 : Int))))) d e))))) ∧ (a1 = 115 → P (d 146 (19 : Int)) d e) ∧ (a1 = 116 → ((0 ≤ (((9 : Int) * (d 146 (18 : Int))) + (d 146 (19 : Int))) ∧ (((9 : Int) * (d 146 (18 : Int))) + (d 146 (19 : Int))) < 81) ∧ P (d 148 (((9 : Int) * (d 146 (18 : Int))) + (d 146 (19 : Int)))) d e)) ∧ (a1 = 117 → ((0 ≤ (((9 : Int) * (d 146 (19 : Int))) + (d 146 (18 : Int))) ∧ (((9 : Int) * (d 146 (19 : Int))) + (d 146 (18 : Int))) < 81) ∧ P (d 148 (((9 : Int) * (d 146 (19 : Int))) + (d 146 (18 : Int)))) d e))))) : yB D xm_c207 (yQi L P) L 0 [.ref 146, .int (xJ a1), .ref 147] [] d e := by
  refine yb_iload (x := a1) rfl rfl ?_
  have r1 := h.1
  replace h := h.2
  refine yb_table (x := a1) rfl rfl r1 (fun c => ?_) (fun c1 c2 => ?_)
  · replace h := h.1 c
    refine yb_aload rfl rfl ?_
    refine yb_get (v := .int (xJ (d 146 (19 : Int)))) rfl (by decide) (by decide) (rfl) rfl ?_
    exact yb_ret rfl h
  · rcases (show a1 = 100 ∨ a1 = 101 ∨ a1 = 102 ∨ a1 = 103 ∨ a1 = 104 ∨ a1 = 105 ∨ a1 = 106 ∨ a1 = 107 ∨ a1 = 108 ∨ a1 = 109 ∨ a1 = 110 ∨ a1 = 111 ∨ a1 = 112 ∨ a1 = 113 ∨ a1 = 114 ∨ a1 = 115 ∨ a1 = 116 ∨ a1 = 117 by omega) with c | c | c | c | c | c | c | c | c | c | c | c | c | c | c | c | c | c
    · replace h := h.2.1 c
      refine ⟨_, by rw [c]; rfl, ?_⟩
      refine yb_aload rfl rfl ?_
      refine yb_get (v := .int (xJ (d 146 (20 : Int)))) rfl (by decide) (by decide) (rfl) rfl ?_
      refine yb_push (v := 9) rfl ?_
      have r2 := h.1
      replace h := h.2
      refine yb_irem (x := (d 146 (20 : Int))) (y := (9 : Int)) rfl r2 (by decide) ?_
      exact yb_ret rfl h
    · replace h := h.2.2.1 c
      refine ⟨_, by rw [c]; rfl, ?_⟩
      refine yb_aload rfl rfl ?_
      refine yb_get (v := .int (xJ (d 146 (19 : Int)))) rfl (by decide) (by decide) (rfl) rfl ?_
      exact yb_ret rfl h
    · replace h := h.2.2.2.1 c
      refine ⟨_, by rw [c]; rfl, ?_⟩
      refine yb_aload rfl rfl ?_
      refine yb_get (v := .int (xJ (d 146 (19 : Int)))) rfl (by decide) (by decide) (rfl) rfl ?_
      exact yb_ret rfl h
    · replace h := h.2.2.2.2.1 c
      refine ⟨_, by rw [c]; rfl, ?_⟩
      refine yb_aload rfl rfl ?_
      refine yb_get (v := .int (xJ (d 146 (19 : Int)))) rfl (by decide) (by decide) (rfl) rfl ?_
      exact yb_ret rfl h
    · replace h := h.2.2.2.2.2.1 c
      refine ⟨_, by rw [c]; rfl, ?_⟩
      refine yb_aload rfl rfl ?_
      refine yb_get (v := .int (xJ (d 146 (19 : Int)))) rfl (by decide) (by decide) (rfl) rfl ?_
      exact yb_ret rfl h
    · replace h := h.2.2.2.2.2.2.1 c
      refine ⟨_, by rw [c]; rfl, ?_⟩
      refine yb_aload rfl rfl ?_
      refine yb_get (v := .int (xJ (d 146 (18 : Int)))) rfl (by decide) (by decide) (rfl) rfl ?_
      exact yb_ret rfl h
    · replace h := h.2.2.2.2.2.2.2.1 c
      refine ⟨_, by rw [c]; rfl, ?_⟩
      refine yb_aload rfl rfl ?_
      refine yb_get (v := .int (xJ (d 146 (19 : Int)))) rfl (by decide) (by decide) (rfl) rfl ?_
      exact yb_ret rfl h
    · replace h := h.2.2.2.2.2.2.2.2.1 c
      refine ⟨_, by rw [c]; rfl, ?_⟩
      refine yb_aload rfl rfl ?_
      refine yb_push (v := 18) rfl ?_
      refine yb_aload rfl rfl ?_
      refine yb_get (v := .int (xJ (d 146 (19 : Int)))) rfl (by decide) (by decide) (rfl) rfl ?_
      refine yb_iadd (x := (18 : Int)) (y := (d 146 (19 : Int))) rfl ?_
      have r3 := h.1
      replace h := h.2
      refine yb_iald (j := ((18 : Int) + (d 146 (19 : Int)))) rfl xd_A147 (by decide) r3 (v := (d 147 ((18 : Int) + (d 146 (19 : Int))))) rfl ?_
      refine yb_aload rfl rfl ?_
      refine yb_push (v := 18) rfl ?_
      refine yb_aload rfl rfl ?_
      refine yb_get (v := .int (xJ (d 146 (18 : Int)))) rfl (by decide) (by decide) (rfl) rfl ?_
      refine yb_iadd (x := (18 : Int)) (y := (d 146 (18 : Int))) rfl ?_
      have r4 := h.1
      replace h := h.2
      refine yb_iald (j := ((18 : Int) + (d 146 (18 : Int)))) rfl xd_A147 (by decide) r4 (v := (d 147 ((18 : Int) + (d 146 (18 : Int))))) rfl ?_
      refine yb_push (v := (-1)) rfl ?_
      refine yb_ixor (x := (d 147 ((18 : Int) + (d 146 (18 : Int))))) (y := (-1 : Int)) rfl ?_
      refine yb_iand (x := (d 147 ((18 : Int) + (d 146 (19 : Int))))) (y := (xi_xor (d 147 ((18 : Int) + (d 146 (18 : Int)))) (-1 : Int))) rfl ?_
      refine yb_callSi (As := [.int (xJ (xi_and (d 147 ((18 : Int) + (d 146 (19 : Int)))) (xi_xor (d 147 ((18 : Int) + (d 146 (18 : Int)))) (-1 : Int))))]) rfl rfl rfl rfl rfl rfl rfl rfl (by decide) (sp_0 (by omega) ?_)
      show yB D xm_c207 _ L 54 [.ref 146, .int (xJ a1), .ref 147] [.int (xJ (xp_bc (xi_and (d 147 ((18 : Int) + (d 146 (19 : Int)))) (xi_xor (d 147 ((18 : Int) + (d 146 (18 : Int)))) (-1 : Int)))))] d e
      exact yb_ret rfl h
    · replace h := h.2.2.2.2.2.2.2.2.2.1 c
      refine ⟨_, by rw [c]; rfl, ?_⟩
      refine yb_aload rfl rfl ?_
      refine yb_get (v := .int (xJ (d 146 (19 : Int)))) rfl (by decide) (by decide) (rfl) rfl ?_
      exact yb_ret rfl h
    · replace h := h.2.2.2.2.2.2.2.2.2.2.1 c
      refine ⟨_, by rw [c]; rfl, ?_⟩
      refine yb_aload rfl rfl ?_
      refine yb_get (v := .int (xJ (d 146 (19 : Int)))) rfl (by decide) (by decide) (rfl) rfl ?_
      exact yb_ret rfl h
    · replace h := h.2.2.2.2.2.2.2.2.2.2.2.1 c
      refine ⟨_, by rw [c]; rfl, ?_⟩
      refine yb_aload rfl rfl ?_
      refine yb_get (v := .int (xJ (d 146 (19 : Int)))) rfl (by decide) (by decide) (rfl) rfl ?_
      exact yb_ret rfl h
    · replace h := h.2.2.2.2.2.2.2.2.2.2.2.2.1 c
      refine ⟨_, by rw [c]; rfl, ?_⟩
      refine yb_aload rfl rfl ?_
      refine yb_get (v := .int (xJ (d 146 (19 : Int)))) rfl (by decide) (by decide) (rfl) rfl ?_
      exact yb_ret rfl h
    · replace h := h.2.2.2.2.2.2.2.2.2.2.2.2.2.1 c
      refine ⟨_, by rw [c]; rfl, ?_⟩
      refine yb_aload rfl rfl ?_
      refine yb_get (v := .int (xJ (d 146 (19 : Int)))) rfl (by decide) (by decide) (rfl) rfl ?_
      exact yb_ret rfl h
    · replace h := h.2.2.2.2.2.2.2.2.2.2.2.2.2.2.1 c
      refine ⟨_, by rw [c]; rfl, ?_⟩
      refine yb_aload rfl rfl ?_
      refine yb_get (v := .int (xJ (d 146 (19 : Int)))) rfl (by decide) (by decide) (rfl) rfl ?_
      exact yb_ret rfl h
    · replace h := h.2.2.2.2.2.2.2.2.2.2.2.2.2.2.2.1 c
      refine ⟨_, by rw [c]; rfl, ?_⟩
      refine yb_aload rfl rfl ?_
      refine yb_push (v := 9) rfl ?_
      refine yb_aload rfl rfl ?_
      refine yb_get (v := .int (xJ (d 146 (18 : Int)))) rfl (by decide) (by decide) (rfl) rfl ?_
      refine yb_iadd (x := (9 : Int)) (y := (d 146 (18 : Int))) rfl ?_
      have r5 := h.1
      replace h := h.2
      refine yb_iald (j := ((9 : Int) + (d 146 (18 : Int)))) rfl xd_A147 (by decide) r5 (v := (d 147 ((9 : Int) + (d 146 (18 : Int))))) rfl ?_
      refine yb_aload rfl rfl ?_
      refine yb_push (v := 9) rfl ?_
      refine yb_aload rfl rfl ?_
      refine yb_get (v := .int (xJ (d 146 (19 : Int)))) rfl (by decide) (by decide) (rfl) rfl ?_
      refine yb_iadd (x := (9 : Int)) (y := (d 146 (19 : Int))) rfl ?_
      have r6 := h.1
      replace h := h.2
      refine yb_iald (j := ((9 : Int) + (d 146 (19 : Int)))) rfl xd_A147 (by decide) r6 (v := (d 147 ((9 : Int) + (d 146 (19 : Int))))) rfl ?_
      have r7 := h.1
      replace h := h.2
      have r8 := h.1
      replace h := h.2
      refine yb_callSi (As := [.int (xJ (d 147 ((9 : Int) + (d 146 (18 : Int))))), .int (xJ (d 147 ((9 : Int) + (d 146 (19 : Int)))))]) rfl rfl rfl rfl rfl rfl rfl rfl (by decide) (sp_208 (by omega) ⟨r7, r8⟩ ?_)
      show yB D xm_c207 _ L 37 [.ref 146, .int (xJ a1), .ref 147] [.int (xJ (xp_apart (d 147 ((9 : Int) + (d 146 (18 : Int)))) (d 147 ((9 : Int) + (d 146 (19 : Int))))))] d e
      exact yb_ret rfl h
    · replace h := h.2.2.2.2.2.2.2.2.2.2.2.2.2.2.2.2.1 c
      refine ⟨_, by rw [c]; rfl, ?_⟩
      refine yb_aload rfl rfl ?_
      refine yb_get (v := .int (xJ (d 146 (19 : Int)))) rfl (by decide) (by decide) (rfl) rfl ?_
      exact yb_ret rfl h
    · replace h := h.2.2.2.2.2.2.2.2.2.2.2.2.2.2.2.2.2.1 c
      refine ⟨_, by rw [c]; rfl, ?_⟩
      refine yb_aload rfl rfl ?_
      refine yb_get (v := .ref 148) rfl (by decide) (by decide) (rfl) rfl ?_
      refine yb_push (v := 9) rfl ?_
      refine yb_aload rfl rfl ?_
      refine yb_get (v := .int (xJ (d 146 (18 : Int)))) rfl (by decide) (by decide) (rfl) rfl ?_
      refine yb_imul (x := (9 : Int)) (y := (d 146 (18 : Int))) rfl ?_
      refine yb_aload rfl rfl ?_
      refine yb_get (v := .int (xJ (d 146 (19 : Int)))) rfl (by decide) (by decide) (rfl) rfl ?_
      refine yb_iadd (x := ((9 : Int) * (d 146 (18 : Int)))) (y := (d 146 (19 : Int))) rfl ?_
      have r9 := h.1
      replace h := h.2
      refine yb_iald (j := (((9 : Int) * (d 146 (18 : Int))) + (d 146 (19 : Int)))) rfl xd_A148 (by decide) r9 (v := (d 148 (((9 : Int) * (d 146 (18 : Int))) + (d 146 (19 : Int))))) rfl ?_
      exact yb_ret rfl h
    · replace h := h.2.2.2.2.2.2.2.2.2.2.2.2.2.2.2.2.2.2 c
      refine ⟨_, by rw [c]; rfl, ?_⟩
      refine yb_aload rfl rfl ?_
      refine yb_get (v := .ref 148) rfl (by decide) (by decide) (rfl) rfl ?_
      refine yb_push (v := 9) rfl ?_
      refine yb_aload rfl rfl ?_
      refine yb_get (v := .int (xJ (d 146 (19 : Int)))) rfl (by decide) (by decide) (rfl) rfl ?_
      refine yb_imul (x := (9 : Int)) (y := (d 146 (19 : Int))) rfl ?_
      refine yb_aload rfl rfl ?_
      refine yb_get (v := .int (xJ (d 146 (18 : Int)))) rfl (by decide) (by decide) (rfl) rfl ?_
      refine yb_iadd (x := ((9 : Int) * (d 146 (19 : Int)))) (y := (d 146 (18 : Int))) rfl ?_
      have r10 := h.1
      replace h := h.2
      refine yb_iald (j := (((9 : Int) * (d 146 (19 : Int))) + (d 146 (18 : Int)))) rfl xd_A148 (by decide) r10 (v := (d 148 (((9 : Int) * (d 146 (19 : Int))) + (d 146 (18 : Int))))) rfl ?_
      exact yb_ret rfl h
theorem yk_207_162_0 {D L : Nat} {P : Int → xh_D → xd_E → Prop} {d : xh_D} {e : xd_E} {a1 : Int}   (hD : 2 ≤ D) (h : ((-2147483648 ≤ a1 ∧ a1 < 2147483648) ∧ (((a1 < 100 ∨ 117 < a1) → P (d 146 (19 : Int)) d e) ∧ (a1 = 100 → ((0 ≤ (d 146 (20 : Int)) ∧ (d 146 (20 : Int)) < 2147483648) ∧ P ((d 146 (20 : Int)) % (9 : Int)) d e)) ∧ (a1 = 101 → P (d 146 (19 : Int)) d e) ∧ (a1 = 102 → P (d 146 (19 : Int)) d e) ∧ (a1 = 103 → P (d 146 (19 : Int)) d e) ∧ (a1 = 104 → P (d 146 (19 : Int)) d e) ∧ (a1 = 105 → P (d 146 (18 : Int)) d e) ∧ (a1 = 106 → P (d 146 (19 : Int)) d e) ∧ (a1 = 107 → ((0 ≤ ((18 : Int) + (d 146 (19 : Int))) ∧ ((18 : Int) + (d 146 (19 : Int))) < 353) ∧ ((0 ≤ ((18 : Int) + (d 146 (18 : Int))) ∧ ((18 : Int) + (d 146 (18 : Int))) < 353) ∧ P (xp_bc (xi_and (d 162 ((18 : Int) + (d 146 (19 : Int)))) (xi_xor (d 162 ((18 : Int) + (d 146 (18 : Int)))) (-1 : Int)))) d e))) ∧ (a1 = 108 → P (d 146 (19 : Int)) d e) ∧ (a1 = 109 → P (d 146 (19 : Int)) d e) ∧ (a1 = 110 → P (d 146 (19 : Int)) d e) ∧ (a1 = 111 → P (d 146 (19 : Int)) d e) ∧ (a1 = 112 → P (d 146 (19 : Int)) d e) ∧ (a1 = 113 → P (d 146 (19 : Int)) d e) ∧ (a1 = 114 → ((0 ≤ ((9 : Int) + (d 146 (18 : Int))) ∧ ((9 : Int) + (d 146 (18 : Int))) < 353) ∧ ((0 ≤ ((9 : Int) + (d 146 (19 : Int))) ∧ ((9 : Int) + (d 146 (19 : Int))) < 353) ∧ ((0 ≤ (d 162 ((9 : Int) + (d 146 (18 : Int)))) ∧ (d 162 ((9 : Int) + (d 146 (18 : Int)))) < 9) ∧ ((0 ≤ (d 162 ((9 : Int) + (d 146 (19 : Int)))) ∧ (d 162 ((9 : Int) + (d 146 (19 : Int)))) < 9) ∧ P (xp_apart (d 162 ((9 : Int) + (d 146 (18 : Int)))) (d 162 ((9 : Int) + (d 146 (19 : Int))))) d e))))) ∧ (a1 = 115 → P (d 146 (19 : Int)) d e) ∧ (a1 = 116 → ((0 ≤ (((9 : Int) * (d 146 (18 : Int))) + (d 146 (19 : Int))) ∧ (((9 : Int) * (d 146 (18 : Int))) + (d 146 (19 : Int))) < 81) ∧ P (d 148 (((9 : Int) * (d 146 (18 : Int))) + (d 146 (19 : Int)))) d e)) ∧ (a1 = 117 → ((0 ≤ (((9 : Int) * (d 146 (19 : Int))) + (d 146 (18 : Int))) ∧ (((9 : Int) * (d 146 (19 : Int))) + (d 146 (18 : Int))) < 81) ∧ P (d 148 (((9 : Int) * (d 146 (19 : Int))) + (d 146 (18 : Int)))) d e))))) : yB D xm_c207 (yQi L P) L 0 [.ref 146, .int (xJ a1), .ref 162] [] d e := by
  refine yb_iload (x := a1) rfl rfl ?_
  have r1 := h.1
  replace h := h.2
  refine yb_table (x := a1) rfl rfl r1 (fun c => ?_) (fun c1 c2 => ?_)
  · replace h := h.1 c
    refine yb_aload rfl rfl ?_
    refine yb_get (v := .int (xJ (d 146 (19 : Int)))) rfl (by decide) (by decide) (rfl) rfl ?_
    exact yb_ret rfl h
  · rcases (show a1 = 100 ∨ a1 = 101 ∨ a1 = 102 ∨ a1 = 103 ∨ a1 = 104 ∨ a1 = 105 ∨ a1 = 106 ∨ a1 = 107 ∨ a1 = 108 ∨ a1 = 109 ∨ a1 = 110 ∨ a1 = 111 ∨ a1 = 112 ∨ a1 = 113 ∨ a1 = 114 ∨ a1 = 115 ∨ a1 = 116 ∨ a1 = 117 by omega) with c | c | c | c | c | c | c | c | c | c | c | c | c | c | c | c | c | c
    · replace h := h.2.1 c
      refine ⟨_, by rw [c]; rfl, ?_⟩
      refine yb_aload rfl rfl ?_
      refine yb_get (v := .int (xJ (d 146 (20 : Int)))) rfl (by decide) (by decide) (rfl) rfl ?_
      refine yb_push (v := 9) rfl ?_
      have r2 := h.1
      replace h := h.2
      refine yb_irem (x := (d 146 (20 : Int))) (y := (9 : Int)) rfl r2 (by decide) ?_
      exact yb_ret rfl h
    · replace h := h.2.2.1 c
      refine ⟨_, by rw [c]; rfl, ?_⟩
      refine yb_aload rfl rfl ?_
      refine yb_get (v := .int (xJ (d 146 (19 : Int)))) rfl (by decide) (by decide) (rfl) rfl ?_
      exact yb_ret rfl h
    · replace h := h.2.2.2.1 c
      refine ⟨_, by rw [c]; rfl, ?_⟩
      refine yb_aload rfl rfl ?_
      refine yb_get (v := .int (xJ (d 146 (19 : Int)))) rfl (by decide) (by decide) (rfl) rfl ?_
      exact yb_ret rfl h
    · replace h := h.2.2.2.2.1 c
      refine ⟨_, by rw [c]; rfl, ?_⟩
      refine yb_aload rfl rfl ?_
      refine yb_get (v := .int (xJ (d 146 (19 : Int)))) rfl (by decide) (by decide) (rfl) rfl ?_
      exact yb_ret rfl h
    · replace h := h.2.2.2.2.2.1 c
      refine ⟨_, by rw [c]; rfl, ?_⟩
      refine yb_aload rfl rfl ?_
      refine yb_get (v := .int (xJ (d 146 (19 : Int)))) rfl (by decide) (by decide) (rfl) rfl ?_
      exact yb_ret rfl h
    · replace h := h.2.2.2.2.2.2.1 c
      refine ⟨_, by rw [c]; rfl, ?_⟩
      refine yb_aload rfl rfl ?_
      refine yb_get (v := .int (xJ (d 146 (18 : Int)))) rfl (by decide) (by decide) (rfl) rfl ?_
      exact yb_ret rfl h
    · replace h := h.2.2.2.2.2.2.2.1 c
      refine ⟨_, by rw [c]; rfl, ?_⟩
      refine yb_aload rfl rfl ?_
      refine yb_get (v := .int (xJ (d 146 (19 : Int)))) rfl (by decide) (by decide) (rfl) rfl ?_
      exact yb_ret rfl h
    · replace h := h.2.2.2.2.2.2.2.2.1 c
      refine ⟨_, by rw [c]; rfl, ?_⟩
      refine yb_aload rfl rfl ?_
      refine yb_push (v := 18) rfl ?_
      refine yb_aload rfl rfl ?_
      refine yb_get (v := .int (xJ (d 146 (19 : Int)))) rfl (by decide) (by decide) (rfl) rfl ?_
      refine yb_iadd (x := (18 : Int)) (y := (d 146 (19 : Int))) rfl ?_
      have r3 := h.1
      replace h := h.2
      refine yb_iald (j := ((18 : Int) + (d 146 (19 : Int)))) rfl xd_A162 (by decide) r3 (v := (d 162 ((18 : Int) + (d 146 (19 : Int))))) rfl ?_
      refine yb_aload rfl rfl ?_
      refine yb_push (v := 18) rfl ?_
      refine yb_aload rfl rfl ?_
      refine yb_get (v := .int (xJ (d 146 (18 : Int)))) rfl (by decide) (by decide) (rfl) rfl ?_
      refine yb_iadd (x := (18 : Int)) (y := (d 146 (18 : Int))) rfl ?_
      have r4 := h.1
      replace h := h.2
      refine yb_iald (j := ((18 : Int) + (d 146 (18 : Int)))) rfl xd_A162 (by decide) r4 (v := (d 162 ((18 : Int) + (d 146 (18 : Int))))) rfl ?_
      refine yb_push (v := (-1)) rfl ?_
      refine yb_ixor (x := (d 162 ((18 : Int) + (d 146 (18 : Int))))) (y := (-1 : Int)) rfl ?_
      refine yb_iand (x := (d 162 ((18 : Int) + (d 146 (19 : Int))))) (y := (xi_xor (d 162 ((18 : Int) + (d 146 (18 : Int)))) (-1 : Int))) rfl ?_
      refine yb_callSi (As := [.int (xJ (xi_and (d 162 ((18 : Int) + (d 146 (19 : Int)))) (xi_xor (d 162 ((18 : Int) + (d 146 (18 : Int)))) (-1 : Int))))]) rfl rfl rfl rfl rfl rfl rfl rfl (by decide) (sp_0 (by omega) ?_)
      show yB D xm_c207 _ L 54 [.ref 146, .int (xJ a1), .ref 162] [.int (xJ (xp_bc (xi_and (d 162 ((18 : Int) + (d 146 (19 : Int)))) (xi_xor (d 162 ((18 : Int) + (d 146 (18 : Int)))) (-1 : Int)))))] d e
      exact yb_ret rfl h
    · replace h := h.2.2.2.2.2.2.2.2.2.1 c
      refine ⟨_, by rw [c]; rfl, ?_⟩
      refine yb_aload rfl rfl ?_
      refine yb_get (v := .int (xJ (d 146 (19 : Int)))) rfl (by decide) (by decide) (rfl) rfl ?_
      exact yb_ret rfl h
    · replace h := h.2.2.2.2.2.2.2.2.2.2.1 c
      refine ⟨_, by rw [c]; rfl, ?_⟩
      refine yb_aload rfl rfl ?_
      refine yb_get (v := .int (xJ (d 146 (19 : Int)))) rfl (by decide) (by decide) (rfl) rfl ?_
      exact yb_ret rfl h
    · replace h := h.2.2.2.2.2.2.2.2.2.2.2.1 c
      refine ⟨_, by rw [c]; rfl, ?_⟩
      refine yb_aload rfl rfl ?_
      refine yb_get (v := .int (xJ (d 146 (19 : Int)))) rfl (by decide) (by decide) (rfl) rfl ?_
      exact yb_ret rfl h
    · replace h := h.2.2.2.2.2.2.2.2.2.2.2.2.1 c
      refine ⟨_, by rw [c]; rfl, ?_⟩
      refine yb_aload rfl rfl ?_
      refine yb_get (v := .int (xJ (d 146 (19 : Int)))) rfl (by decide) (by decide) (rfl) rfl ?_
      exact yb_ret rfl h
    · replace h := h.2.2.2.2.2.2.2.2.2.2.2.2.2.1 c
      refine ⟨_, by rw [c]; rfl, ?_⟩
      refine yb_aload rfl rfl ?_
      refine yb_get (v := .int (xJ (d 146 (19 : Int)))) rfl (by decide) (by decide) (rfl) rfl ?_
      exact yb_ret rfl h
    · replace h := h.2.2.2.2.2.2.2.2.2.2.2.2.2.2.1 c
      refine ⟨_, by rw [c]; rfl, ?_⟩
      refine yb_aload rfl rfl ?_
      refine yb_get (v := .int (xJ (d 146 (19 : Int)))) rfl (by decide) (by decide) (rfl) rfl ?_
      exact yb_ret rfl h
    · replace h := h.2.2.2.2.2.2.2.2.2.2.2.2.2.2.2.1 c
      refine ⟨_, by rw [c]; rfl, ?_⟩
      refine yb_aload rfl rfl ?_
      refine yb_push (v := 9) rfl ?_
      refine yb_aload rfl rfl ?_
      refine yb_get (v := .int (xJ (d 146 (18 : Int)))) rfl (by decide) (by decide) (rfl) rfl ?_
      refine yb_iadd (x := (9 : Int)) (y := (d 146 (18 : Int))) rfl ?_
      have r5 := h.1
      replace h := h.2
      refine yb_iald (j := ((9 : Int) + (d 146 (18 : Int)))) rfl xd_A162 (by decide) r5 (v := (d 162 ((9 : Int) + (d 146 (18 : Int))))) rfl ?_
      refine yb_aload rfl rfl ?_
      refine yb_push (v := 9) rfl ?_
      refine yb_aload rfl rfl ?_
      refine yb_get (v := .int (xJ (d 146 (19 : Int)))) rfl (by decide) (by decide) (rfl) rfl ?_
      refine yb_iadd (x := (9 : Int)) (y := (d 146 (19 : Int))) rfl ?_
      have r6 := h.1
      replace h := h.2
      refine yb_iald (j := ((9 : Int) + (d 146 (19 : Int)))) rfl xd_A162 (by decide) r6 (v := (d 162 ((9 : Int) + (d 146 (19 : Int))))) rfl ?_
      have r7 := h.1
      replace h := h.2
      have r8 := h.1
      replace h := h.2
      refine yb_callSi (As := [.int (xJ (d 162 ((9 : Int) + (d 146 (18 : Int))))), .int (xJ (d 162 ((9 : Int) + (d 146 (19 : Int)))))]) rfl rfl rfl rfl rfl rfl rfl rfl (by decide) (sp_208 (by omega) ⟨r7, r8⟩ ?_)
      show yB D xm_c207 _ L 37 [.ref 146, .int (xJ a1), .ref 162] [.int (xJ (xp_apart (d 162 ((9 : Int) + (d 146 (18 : Int)))) (d 162 ((9 : Int) + (d 146 (19 : Int))))))] d e
      exact yb_ret rfl h
    · replace h := h.2.2.2.2.2.2.2.2.2.2.2.2.2.2.2.2.1 c
      refine ⟨_, by rw [c]; rfl, ?_⟩
      refine yb_aload rfl rfl ?_
      refine yb_get (v := .int (xJ (d 146 (19 : Int)))) rfl (by decide) (by decide) (rfl) rfl ?_
      exact yb_ret rfl h
    · replace h := h.2.2.2.2.2.2.2.2.2.2.2.2.2.2.2.2.2.1 c
      refine ⟨_, by rw [c]; rfl, ?_⟩
      refine yb_aload rfl rfl ?_
      refine yb_get (v := .ref 148) rfl (by decide) (by decide) (rfl) rfl ?_
      refine yb_push (v := 9) rfl ?_
      refine yb_aload rfl rfl ?_
      refine yb_get (v := .int (xJ (d 146 (18 : Int)))) rfl (by decide) (by decide) (rfl) rfl ?_
      refine yb_imul (x := (9 : Int)) (y := (d 146 (18 : Int))) rfl ?_
      refine yb_aload rfl rfl ?_
      refine yb_get (v := .int (xJ (d 146 (19 : Int)))) rfl (by decide) (by decide) (rfl) rfl ?_
      refine yb_iadd (x := ((9 : Int) * (d 146 (18 : Int)))) (y := (d 146 (19 : Int))) rfl ?_
      have r9 := h.1
      replace h := h.2
      refine yb_iald (j := (((9 : Int) * (d 146 (18 : Int))) + (d 146 (19 : Int)))) rfl xd_A148 (by decide) r9 (v := (d 148 (((9 : Int) * (d 146 (18 : Int))) + (d 146 (19 : Int))))) rfl ?_
      exact yb_ret rfl h
    · replace h := h.2.2.2.2.2.2.2.2.2.2.2.2.2.2.2.2.2.2 c
      refine ⟨_, by rw [c]; rfl, ?_⟩
      refine yb_aload rfl rfl ?_
      refine yb_get (v := .ref 148) rfl (by decide) (by decide) (rfl) rfl ?_
      refine yb_push (v := 9) rfl ?_
      refine yb_aload rfl rfl ?_
      refine yb_get (v := .int (xJ (d 146 (19 : Int)))) rfl (by decide) (by decide) (rfl) rfl ?_
      refine yb_imul (x := (9 : Int)) (y := (d 146 (19 : Int))) rfl ?_
      refine yb_aload rfl rfl ?_
      refine yb_get (v := .int (xJ (d 146 (18 : Int)))) rfl (by decide) (by decide) (rfl) rfl ?_
      refine yb_iadd (x := ((9 : Int) * (d 146 (19 : Int)))) (y := (d 146 (18 : Int))) rfl ?_
      have r10 := h.1
      replace h := h.2
      refine yb_iald (j := (((9 : Int) * (d 146 (19 : Int))) + (d 146 (18 : Int)))) rfl xd_A148 (by decide) r10 (v := (d 148 (((9 : Int) * (d 146 (19 : Int))) + (d 146 (18 : Int))))) rfl ?_
      exact yb_ret rfl h
theorem yk_209_0 {D L : Nat} {P : Int → xh_D → xd_E → Prop} {d : xh_D} {e : xd_E}    (hD : 2 ≤ D) (h : ((-2147483648 ≤ (d 146 (5 : Int)) ∧ (d 146 (5 : Int)) < 2147483648) ∧ ((((d 146 (5 : Int)) ≤ 0) → yB D xm_c209 (yQi L P) L 42 [.ref 146, .int (xJ (d 146 (5 : Int))), .int (xJ (0 : Int))] [] (xs (xs (xs (xs (xs (xs (xs (xs d 146 (8 : Int) (0 : Int)) 146 (9 : Int) (150 : Int)) 146 (10 : Int) (d 146 (5 : Int))) 146 (11 : Int) (40 : Int)) 146 (12 : Int) (0 : Int)) 146 (13 : Int) (-1 : Int)) 146 (5 : Int) (0 : Int)) 146 (17 : Int) (0 : Int)) e) ∧ ((¬ (d 146 (5 : Int)) ≤ 0) → yC D 203 L [.ref 146, .int (xJ (0 : Int))] (xs (xs (xs (xs (xs (xs (xs (xs d 146 (8 : Int) (0 : Int)) 146 (9 : Int) (150 : Int)) 146 (10 : Int) (d 146 (5 : Int))) 146 (11 : Int) (40 : Int)) 146 (12 : Int) (0 : Int)) 146 (13 : Int) (-1 : Int)) 146 (5 : Int) (0 : Int)) 146 (17 : Int) (0 : Int)) e (fun x2 d3 e4 => ((-2147483648 ≤ (d3 146 (12 : Int)) ∧ (d3 146 (12 : Int)) < 2147483648) ∧ ((((d 146 (5 : Int)) ≤ (d3 146 (12 : Int))) → ((-2147483648 ≤ (d3 146 (13 : Int)) ∧ (d3 146 (13 : Int)) < 2147483648) ∧ ((((d3 146 (13 : Int)) = -1) → yB D xm_c209 (yQi L P) L 42 [.ref 146, .int (xJ (d 146 (5 : Int))), .int (xJ (0 : Int))] [] d3 e4) ∧ (¬ ((d3 146 (13 : Int)) = -1) → P ((-1 : Int) - (d3 146 (13 : Int))) d3 e4)))) ∧ ((¬ (d 146 (5 : Int)) ≤ (d3 146 (12 : Int))) → ((-2147483648 ≤ (d3 146 (13 : Int)) ∧ (d3 146 (13 : Int)) < 2147483648) ∧ ((-2147483648 ≤ (if (d3 146 (13 : Int)) = -1 then (d3 146 (12 : Int)) else (d3 146 (13 : Int))) ∧ (if (d3 146 (13 : Int)) = -1 then (d3 146 (12 : Int)) else (d3 146 (13 : Int))) < 2147483648) ∧ ((((if (d3 146 (13 : Int)) = -1 then (d3 146 (12 : Int)) else (d3 146 (13 : Int))) = -1) → yB D xm_c209 (yQi L P) L 42 [.ref 146, .int (xJ (d 146 (5 : Int))), .int (xJ (0 : Int))] [] (xs d3 146 (13 : Int) (if (d3 146 (13 : Int)) = -1 then (d3 146 (12 : Int)) else (d3 146 (13 : Int)))) e4) ∧ (¬ ((if (d3 146 (13 : Int)) = -1 then (d3 146 (12 : Int)) else (d3 146 (13 : Int))) = -1) → P ((-1 : Int) - (if (d3 146 (13 : Int)) = -1 then (d3 146 (12 : Int)) else (d3 146 (13 : Int)))) (xs d3 146 (13 : Int) (if (d3 146 (13 : Int)) = -1 then (d3 146 (12 : Int)) else (d3 146 (13 : Int)))) e4)))))))))))) : yB D xm_c209 (yQi L P) L 0 [.ref 146, .double 0, .double 0] [] d e := by
  refine yb_aload rfl rfl ?_
  refine yb_push (v := 0) rfl ?_
  refine yb_put (z := (0 : Int)) (k := 8) rfl rfl (by decide) (by decide) (rfl) (Nat.le_of_ble_eq_true rfl) rfl (rfl) ?_
  refine yb_aload rfl rfl ?_
  refine yb_get (v := .int (xJ (d 146 (5 : Int)))) rfl (by decide) (by decide) (rfl) rfl ?_
  refine yb_istore rfl rfl rfl ?_
  refine yb_aload rfl rfl ?_
  refine yb_aload rfl rfl ?_
  refine yb_get (v := .ref 150) rfl (by decide) (by decide) (rfl) rfl ?_
  refine yb_iload (x := (d 146 (5 : Int))) rfl rfl ?_
  refine yb_push (v := 40) rfl ?_
  refine yb_callVv (As := [.ref 150, .int (xJ (d 146 (5 : Int))), .int (xJ (40 : Int))]) (a := 146) rfl rfl rfl rfl rfl rfl rfl rfl (by decide) (by decide) (rfl) (by decide) (sp_189_150 (by omega) ?_)
  show yB D xm_c209 _ L 12 [.ref 146, .int (xJ (d 146 (5 : Int))), .double 0] [] (xs (xs (xs (xs (xs (xs d 146 (8 : Int) (0 : Int)) 146 (9 : Int) (150 : Int)) 146 (10 : Int) (d 146 (5 : Int))) 146 (11 : Int) (40 : Int)) 146 (12 : Int) (0 : Int)) 146 (13 : Int) (-1 : Int)) e
  refine yb_aload rfl rfl ?_
  refine yb_push (v := 0) rfl ?_
  refine yb_put (z := (0 : Int)) (k := 5) rfl rfl (by decide) (by decide) (rfl) (Nat.le_of_ble_eq_true rfl) rfl (rfl) ?_
  refine yb_aload rfl rfl ?_
  refine yb_null rfl ?_
  refine yb_put (z := (0 : Int)) (k := 17) rfl rfl (by decide) (by decide) (rfl) (Nat.le_of_ble_eq_true rfl) rfl (rfl) ?_
  refine yb_iload (x := (d 146 (5 : Int))) rfl rfl ?_
  have r1 := h.1
  replace h := h.2
  refine yb_if_le (x := (d 146 (5 : Int))) rfl rfl r1 (fun c => ?_) (fun c => ?_)
  · replace h := h.1 c
    refine yb_push (v := 0) rfl ?_
    refine yb_istore rfl rfl rfl ?_
    exact h
  · replace h := h.2 c
    refine yb_aload rfl rfl ?_
    refine yb_push (v := 0) rfl ?_
    refine yb_callVi (As := [.int (xJ (0 : Int))]) (a := 146) rfl rfl rfl rfl rfl rfl rfl rfl (by decide) (by decide) (rfl) (by decide) (yC_mono h (fun x2 d3 e4 h => ?_))
    refine yb_pop rfl rfl ?_
    refine yb_aload rfl rfl ?_
    refine yb_get (v := .int (xJ (d3 146 (12 : Int)))) rfl (by decide) (by decide) (rfl) rfl ?_
    refine yb_iload (x := (d 146 (5 : Int))) rfl rfl ?_
    have r5 := h.1
    replace h := h.2
    refine yb_icmp_ge (x := (d3 146 (12 : Int))) (y := (d 146 (5 : Int))) rfl rfl r5 r1 (fun c => ?_) (fun c => ?_)
    · replace h := h.1 c
      refine yb_aload rfl rfl ?_
      have r6 := h.1
      replace h := h.2
      refine yb_callVz (As := []) (a := 146) rfl rfl rfl rfl rfl rfl rfl rfl (by decide) (by decide) (rfl) (by decide) (sp_191 (by omega) r6 (fun c => ?_) (fun c => ?_))
      · replace h := h.1 c
        show yB D xm_c209 _ L 34 [.ref 146, .int (xJ (d 146 (5 : Int))), .double 0] [.int (xJ (1 : Int))] d3 e4
        refine yb_if_ne (x := (1 : Int)) rfl rfl (by decide) (fun _ => ?_) (fun c => absurd c (by decide))
        refine yb_push (v := 0) rfl ?_
        refine yb_istore rfl rfl rfl ?_
        exact h
      · replace h := h.2 c
        show yB D xm_c209 _ L 34 [.ref 146, .int (xJ (d 146 (5 : Int))), .double 0] [.int (xJ (0 : Int))] d3 e4
        refine yb_if_ne (x := (0 : Int)) rfl rfl (by decide) (fun c => absurd (by decide) c) (fun _ => ?_)
        refine yb_push (v := (-1)) rfl ?_
        refine yb_aload rfl rfl ?_
        refine yb_get (v := .int (xJ (d3 146 (13 : Int)))) rfl (by decide) (by decide) (rfl) rfl ?_
        refine yb_isub (x := (-1 : Int)) (y := (d3 146 (13 : Int))) rfl ?_
        exact yb_ret rfl h
    · replace h := h.2 c
      refine yb_aload rfl rfl ?_
      refine yb_aload rfl rfl ?_
      refine yb_get (v := .int (xJ (d3 146 (12 : Int)))) rfl (by decide) (by decide) (rfl) rfl ?_
      have r7 := h.1
      replace h := h.2
      refine yb_callVv (As := [.int (xJ (d3 146 (12 : Int)))]) (a := 146) rfl rfl rfl rfl rfl rfl rfl rfl (by decide) (by decide) (rfl) (by decide) (sp_192 (by omega) r7 ?_)
      show yB D xm_c209 _ L 32 [.ref 146, .int (xJ (d 146 (5 : Int))), .double 0] [] (xs d3 146 (13 : Int) (if (d3 146 (13 : Int)) = -1 then (d3 146 (12 : Int)) else (d3 146 (13 : Int)))) e4
      refine yb_aload rfl rfl ?_
      have r8 := h.1
      replace h := h.2
      refine yb_callVz (As := []) (a := 146) rfl rfl rfl rfl rfl rfl rfl rfl (by decide) (by decide) (rfl) (by decide) (sp_191 (by omega) r8 (fun c => ?_) (fun c => ?_))
      · replace h := h.1 c
        show yB D xm_c209 _ L 34 [.ref 146, .int (xJ (d 146 (5 : Int))), .double 0] [.int (xJ (1 : Int))] (xs d3 146 (13 : Int) (if (d3 146 (13 : Int)) = -1 then (d3 146 (12 : Int)) else (d3 146 (13 : Int)))) e4
        refine yb_if_ne (x := (1 : Int)) rfl rfl (by decide) (fun _ => ?_) (fun c => absurd c (by decide))
        refine yb_push (v := 0) rfl ?_
        refine yb_istore rfl rfl rfl ?_
        exact h
      · replace h := h.2 c
        show yB D xm_c209 _ L 34 [.ref 146, .int (xJ (d 146 (5 : Int))), .double 0] [.int (xJ (0 : Int))] (xs d3 146 (13 : Int) (if (d3 146 (13 : Int)) = -1 then (d3 146 (12 : Int)) else (d3 146 (13 : Int)))) e4
        refine yb_if_ne (x := (0 : Int)) rfl rfl (by decide) (fun c => absurd (by decide) c) (fun _ => ?_)
        refine yb_push (v := (-1)) rfl ?_
        refine yb_aload rfl rfl ?_
        refine yb_get (v := .int (xJ (if (d3 146 (13 : Int)) = -1 then (d3 146 (12 : Int)) else (d3 146 (13 : Int))))) rfl (by decide) (by decide) (rfl) rfl ?_
        refine yb_isub (x := (-1 : Int)) (y := (if (d3 146 (13 : Int)) = -1 then (d3 146 (12 : Int)) else (d3 146 (13 : Int)))) rfl ?_
        exact yb_ret rfl h
theorem yk_209_42 {D L : Nat} {P : Int → xh_D → xd_E → Prop} {d : xh_D} {e : xd_E}  {l1 : Int} {l2 : Int}  (h : ((-2147483648 ≤ l2 ∧ l2 < 2147483648) ∧ ((-2147483648 ≤ l1 ∧ l1 < 2147483648) ∧ (((l1 ≤ l2) → P (0 : Int) (xs d 146 (16 : Int) l1) e) ∧ ((¬ l1 ≤ l2) → ((0 ≤ l2 ∧ l2 < 80) ∧ ((0 ≤ l2 ∧ l2 < 40) ∧ ((-128 ≤ (d 150 l2) ∧ (d 150 l2) < 128) ∧ yB D xm_c209 (yQi L P) L 42 [.ref 146, .int (xJ l1), .int (xJ (l2 + 1))] [] (xs d 153 l2 (d 150 l2)) e)))))))) : yB D xm_c209 (yQi L P) L 42 [.ref 146, .int (xJ l1), .int (xJ l2)] [] d e := by
  refine yb_iload (x := l2) rfl rfl ?_
  refine yb_iload (x := l1) rfl rfl ?_
  have r1 := h.1
  replace h := h.2
  have r2 := h.1
  replace h := h.2
  refine yb_icmp_ge (x := l2) (y := l1) rfl rfl r1 r2 (fun c => ?_) (fun c => ?_)
  · replace h := h.1 c
    refine yb_aload rfl rfl ?_
    refine yb_iload (x := l1) rfl rfl ?_
    refine yb_put (z := l1) (k := 16) rfl rfl (by decide) (by decide) (rfl) (Nat.le_of_ble_eq_true rfl) rfl (rfl) ?_
    refine yb_push (v := 0) rfl ?_
    exact yb_ret rfl h
  · replace h := h.2 c
    refine yb_aload rfl rfl ?_
    refine yb_get (v := .ref 153) rfl (by decide) (by decide) (rfl) rfl ?_
    refine yb_iload (x := l2) rfl rfl ?_
    refine yb_aload rfl rfl ?_
    refine yb_get (v := .ref 150) rfl (by decide) (by decide) (rfl) rfl ?_
    refine yb_iload (x := l2) rfl rfl ?_
    have r3 := h.1
    replace h := h.2
    refine yb_bald (j := l2) rfl (by decide) xd_A150 r3 (v := (d 150 l2)) rfl ?_
    have r4 := h.1
    replace h := h.2
    have r5 := h.1
    replace h := h.2
    refine yb_bast (j := l2) (x := (d 150 l2)) rfl (Or.inl ⟨rfl, xJ_b8 r5⟩) xd_A153 r4 ?_
    refine yb_iinc (x := l2) (n := 1) rfl rfl rfl rfl ?_
    refine yb_goto rfl rfl ?_
    exact h
theorem yk_210_147_0 {D L : Nat} {P : Int → xh_D → xd_E → Prop} {d : xh_D} {e : xd_E} {a2 : Int} {a3 : Int} {a4 : Int}   (hD : 2 ≤ D) (h : ((-2147483648 ≤ (d 146 (16 : Int)) ∧ (d 146 (16 : Int)) < 2147483648) ∧ (((¬ (d 146 (16 : Int)) = 0) → yC D 203 L [.ref 146, .int (xJ (0 : Int))] (xs (xs (xs (xs (xs (xs (xs (xs (xs d 146 (9 : Int) (153 : Int)) 146 (10 : Int) (d 146 (16 : Int))) 146 (11 : Int) (40 : Int)) 146 (12 : Int) (0 : Int)) 146 (13 : Int) (-1 : Int)) 146 (17 : Int) (147 : Int)) 146 (18 : Int) a2) 146 (19 : Int) a3) 146 (20 : Int) a4) e (fun x2 d3 e4 => ((-2147483648 ≤ x2 ∧ x2 < 2147483648) ∧ P (max (0 : Int) (min (99 : Int) x2)) d3 e4))) ∧ (((d 146 (16 : Int)) = 0) → ((0 ≤ (((9 : Int) * a2) + a3) ∧ (((9 : Int) * a2) + a3) < 81) ∧ ((0 ≤ ((9 : Int) + a2) ∧ ((9 : Int) + a2) < 353) ∧ ((0 ≤ ((9 : Int) + a3) ∧ ((9 : Int) + a3) < 353) ∧ ((0 ≤ (d 147 ((9 : Int) + a2)) ∧ (d 147 ((9 : Int) + a2)) < 9) ∧ ((0 ≤ (d 147 ((9 : Int) + a3)) ∧ (d 147 ((9 : Int) + a3)) < 9) ∧ (∀ v12, v12 = (((9 : Int) - (d 148 (((9 : Int) * a2) + a3))) + (xp_apart (d 147 ((9 : Int) + a2)) (d 147 ((9 : Int) + a3)))) → ((-2147483648 ≤ v12 ∧ v12 < 2147483648) ∧ P (max (0 : Int) (min (99 : Int) v12)) d e))))))))))) : yB D xm_c210 (yQi L P) L 0 [.ref 146, .ref 147, .int (xJ a2), .int (xJ a3), .int (xJ a4), .double 0] [] d e := by
  refine yb_aload rfl rfl ?_
  refine yb_get (v := .int (xJ (d 146 (16 : Int)))) rfl (by decide) (by decide) (rfl) rfl ?_
  have r1 := h.1
  replace h := h.2
  refine yb_if_ne (x := (d 146 (16 : Int))) rfl rfl r1 (fun c => ?_) (fun c => ?_)
  · replace h := h.1 c
    refine yb_aload rfl rfl ?_
    refine yb_aload rfl rfl ?_
    refine yb_get (v := .ref 153) rfl (by decide) (by decide) (rfl) rfl ?_
    refine yb_aload rfl rfl ?_
    refine yb_get (v := .int (xJ (d 146 (16 : Int)))) rfl (by decide) (by decide) (rfl) rfl ?_
    refine yb_push (v := 40) rfl ?_
    refine yb_callVv (As := [.ref 153, .int (xJ (d 146 (16 : Int))), .int (xJ (40 : Int))]) (a := 146) rfl rfl rfl rfl rfl rfl rfl rfl (by decide) (by decide) (rfl) (by decide) (sp_189_153 (by omega) ?_)
    show yB D xm_c210 _ L 34 [.ref 146, .ref 147, .int (xJ a2), .int (xJ a3), .int (xJ a4), .double 0] [] (xs (xs (xs (xs (xs d 146 (9 : Int) (153 : Int)) 146 (10 : Int) (d 146 (16 : Int))) 146 (11 : Int) (40 : Int)) 146 (12 : Int) (0 : Int)) 146 (13 : Int) (-1 : Int)) e
    refine yb_aload rfl rfl ?_
    refine yb_aload rfl rfl ?_
    refine yb_put (z := (147 : Int)) (k := 17) rfl rfl (by decide) (by decide) (rfl) (Nat.le_of_ble_eq_true rfl) rfl (rfl) ?_
    refine yb_aload rfl rfl ?_
    refine yb_iload (x := a2) rfl rfl ?_
    refine yb_put (z := a2) (k := 18) rfl rfl (by decide) (by decide) (rfl) (Nat.le_of_ble_eq_true rfl) rfl (rfl) ?_
    refine yb_aload rfl rfl ?_
    refine yb_iload (x := a3) rfl rfl ?_
    refine yb_put (z := a3) (k := 19) rfl rfl (by decide) (by decide) (rfl) (Nat.le_of_ble_eq_true rfl) rfl (rfl) ?_
    refine yb_aload rfl rfl ?_
    refine yb_iload (x := a4) rfl rfl ?_
    refine yb_put (z := a4) (k := 20) rfl rfl (by decide) (by decide) (rfl) (Nat.le_of_ble_eq_true rfl) rfl (rfl) ?_
    refine yb_aload rfl rfl ?_
    refine yb_push (v := 0) rfl ?_
    refine yb_callVi (As := [.int (xJ (0 : Int))]) (a := 146) rfl rfl rfl rfl rfl rfl rfl rfl (by decide) (by decide) (rfl) (by decide) (yC_mono h (fun x2 d3 e4 h => ?_))
    refine yb_istore rfl rfl rfl ?_
    refine yb_push (v := 0) rfl ?_
    refine yb_push (v := 99) rfl ?_
    refine yb_iload (x := x2) rfl rfl ?_
    have r5 := h.1
    replace h := h.2
    refine yb_callSi (As := [.int (xJ (99 : Int)), .int (xJ x2)]) rfl rfl rfl rfl rfl rfl rfl rfl (by show (1 : Nat) ≤ 8; decide) (sp_5 (by omega) ⟨(by show (-2147483648 ≤ (99 : Int) ∧ (99 : Int) < 2147483648); decide), r5⟩ ?_)
    show yB D xm_c210 _ L 54 [.ref 146, .ref 147, .int (xJ a2), .int (xJ a3), .int (xJ a4), .int (xJ x2)] [.int (xJ (min (99 : Int) x2)), .int (xJ (0 : Int))] d3 e4
    have r6 : (-2147483648 ≤ (min (99 : Int) x2) ∧ (min (99 : Int) x2) < 2147483648) := (by omega)
    refine yb_callSi (As := [.int (xJ (0 : Int)), .int (xJ (min (99 : Int) x2))]) rfl rfl rfl rfl rfl rfl rfl rfl (by decide) (sp_4 (by omega) ⟨(by show (-2147483648 ≤ (0 : Int) ∧ (0 : Int) < 2147483648); decide), r6⟩ ?_)
    show yB D xm_c210 _ L 55 [.ref 146, .ref 147, .int (xJ a2), .int (xJ a3), .int (xJ a4), .int (xJ x2)] [.int (xJ (max (0 : Int) (min (99 : Int) x2)))] d3 e4
    exact yb_ret rfl h
  · replace h := h.2 c
    refine yb_push (v := 9) rfl ?_
    refine yb_aload rfl rfl ?_
    refine yb_get (v := .ref 148) rfl (by decide) (by decide) (rfl) rfl ?_
    refine yb_push (v := 9) rfl ?_
    refine yb_iload (x := a2) rfl rfl ?_
    refine yb_imul (x := (9 : Int)) (y := a2) rfl ?_
    refine yb_iload (x := a3) rfl rfl ?_
    refine yb_iadd (x := ((9 : Int) * a2)) (y := a3) rfl ?_
    have r7 := h.1
    replace h := h.2
    refine yb_iald (j := (((9 : Int) * a2) + a3)) rfl xd_A148 (by decide) r7 (v := (d 148 (((9 : Int) * a2) + a3))) rfl ?_
    refine yb_isub (x := (9 : Int)) (y := (d 148 (((9 : Int) * a2) + a3))) rfl ?_
    refine yb_aload rfl rfl ?_
    refine yb_push (v := 9) rfl ?_
    refine yb_iload (x := a2) rfl rfl ?_
    refine yb_iadd (x := (9 : Int)) (y := a2) rfl ?_
    have r8 := h.1
    replace h := h.2
    refine yb_iald (j := ((9 : Int) + a2)) rfl xd_A147 (by decide) r8 (v := (d 147 ((9 : Int) + a2))) rfl ?_
    refine yb_aload rfl rfl ?_
    refine yb_push (v := 9) rfl ?_
    refine yb_iload (x := a3) rfl rfl ?_
    refine yb_iadd (x := (9 : Int)) (y := a3) rfl ?_
    have r9 := h.1
    replace h := h.2
    refine yb_iald (j := ((9 : Int) + a3)) rfl xd_A147 (by decide) r9 (v := (d 147 ((9 : Int) + a3))) rfl ?_
    have r10 := h.1
    replace h := h.2
    have r11 := h.1
    replace h := h.2
    refine yb_callSi (As := [.int (xJ (d 147 ((9 : Int) + a2))), .int (xJ (d 147 ((9 : Int) + a3)))]) rfl rfl rfl rfl rfl rfl rfl rfl (by show (1 : Nat) ≤ 8; decide) (sp_208 (by omega) ⟨r10, r11⟩ ?_)
    show yB D xm_c210 _ L 24 [.ref 146, .ref 147, .int (xJ a2), .int (xJ a3), .int (xJ a4), .double 0] [.int (xJ (xp_apart (d 147 ((9 : Int) + a2)) (d 147 ((9 : Int) + a3)))), .int (xJ ((9 : Int) - (d 148 (((9 : Int) * a2) + a3))))] d e
    refine yb_iadd (x := ((9 : Int) - (d 148 (((9 : Int) * a2) + a3)))) (y := (xp_apart (d 147 ((9 : Int) + a2)) (d 147 ((9 : Int) + a3)))) rfl ?_
    replace h := h _ rfl
    refine yb_istore rfl rfl rfl ?_
    refine yb_goto rfl rfl ?_
    refine yb_push (v := 0) rfl ?_
    refine yb_push (v := 99) rfl ?_
    refine yb_iload (x := (((9 : Int) - (d 148 (((9 : Int) * a2) + a3))) + (xp_apart (d 147 ((9 : Int) + a2)) (d 147 ((9 : Int) + a3))))) rfl rfl ?_
    have r13 := h.1
    replace h := h.2
    refine yb_callSi (As := [.int (xJ (99 : Int)), .int (xJ (((9 : Int) - (d 148 (((9 : Int) * a2) + a3))) + (xp_apart (d 147 ((9 : Int) + a2)) (d 147 ((9 : Int) + a3)))))]) rfl rfl rfl rfl rfl rfl rfl rfl (by show (1 : Nat) ≤ 8; decide) (sp_5 (by omega) ⟨(by show (-2147483648 ≤ (99 : Int) ∧ (99 : Int) < 2147483648); decide), r13⟩ ?_)
    show yB D xm_c210 _ L 54 [.ref 146, .ref 147, .int (xJ a2), .int (xJ a3), .int (xJ a4), .int (xJ (((9 : Int) - (d 148 (((9 : Int) * a2) + a3))) + (xp_apart (d 147 ((9 : Int) + a2)) (d 147 ((9 : Int) + a3)))))] [.int (xJ (min (99 : Int) (((9 : Int) - (d 148 (((9 : Int) * a2) + a3))) + (xp_apart (d 147 ((9 : Int) + a2)) (d 147 ((9 : Int) + a3)))))), .int (xJ (0 : Int))] d e
    have r14 : (-2147483648 ≤ (min (99 : Int) (((9 : Int) - (d 148 (((9 : Int) * a2) + a3))) + (xp_apart (d 147 ((9 : Int) + a2)) (d 147 ((9 : Int) + a3))))) ∧ (min (99 : Int) (((9 : Int) - (d 148 (((9 : Int) * a2) + a3))) + (xp_apart (d 147 ((9 : Int) + a2)) (d 147 ((9 : Int) + a3))))) < 2147483648) := (by omega)
    refine yb_callSi (As := [.int (xJ (0 : Int)), .int (xJ (min (99 : Int) (((9 : Int) - (d 148 (((9 : Int) * a2) + a3))) + (xp_apart (d 147 ((9 : Int) + a2)) (d 147 ((9 : Int) + a3))))))]) rfl rfl rfl rfl rfl rfl rfl rfl (by decide) (sp_4 (by omega) ⟨(by show (-2147483648 ≤ (0 : Int) ∧ (0 : Int) < 2147483648); decide), r14⟩ ?_)
    show yB D xm_c210 _ L 55 [.ref 146, .ref 147, .int (xJ a2), .int (xJ a3), .int (xJ a4), .int (xJ (((9 : Int) - (d 148 (((9 : Int) * a2) + a3))) + (xp_apart (d 147 ((9 : Int) + a2)) (d 147 ((9 : Int) + a3)))))] [.int (xJ (max (0 : Int) (min (99 : Int) (((9 : Int) - (d 148 (((9 : Int) * a2) + a3))) + (xp_apart (d 147 ((9 : Int) + a2)) (d 147 ((9 : Int) + a3)))))))] d e
    exact yb_ret rfl h
theorem yk_210_162_0 {D L : Nat} {P : Int → xh_D → xd_E → Prop} {d : xh_D} {e : xd_E} {a2 : Int} {a3 : Int} {a4 : Int}   (hD : 2 ≤ D) (h : ((-2147483648 ≤ (d 146 (16 : Int)) ∧ (d 146 (16 : Int)) < 2147483648) ∧ (((¬ (d 146 (16 : Int)) = 0) → yC D 203 L [.ref 146, .int (xJ (0 : Int))] (xs (xs (xs (xs (xs (xs (xs (xs (xs d 146 (9 : Int) (153 : Int)) 146 (10 : Int) (d 146 (16 : Int))) 146 (11 : Int) (40 : Int)) 146 (12 : Int) (0 : Int)) 146 (13 : Int) (-1 : Int)) 146 (17 : Int) (162 : Int)) 146 (18 : Int) a2) 146 (19 : Int) a3) 146 (20 : Int) a4) e (fun x2 d3 e4 => ((-2147483648 ≤ x2 ∧ x2 < 2147483648) ∧ P (max (0 : Int) (min (99 : Int) x2)) d3 e4))) ∧ (((d 146 (16 : Int)) = 0) → ((0 ≤ (((9 : Int) * a2) + a3) ∧ (((9 : Int) * a2) + a3) < 81) ∧ ((0 ≤ ((9 : Int) + a2) ∧ ((9 : Int) + a2) < 353) ∧ ((0 ≤ ((9 : Int) + a3) ∧ ((9 : Int) + a3) < 353) ∧ ((0 ≤ (d 162 ((9 : Int) + a2)) ∧ (d 162 ((9 : Int) + a2)) < 9) ∧ ((0 ≤ (d 162 ((9 : Int) + a3)) ∧ (d 162 ((9 : Int) + a3)) < 9) ∧ (∀ v12, v12 = (((9 : Int) - (d 148 (((9 : Int) * a2) + a3))) + (xp_apart (d 162 ((9 : Int) + a2)) (d 162 ((9 : Int) + a3)))) → ((-2147483648 ≤ v12 ∧ v12 < 2147483648) ∧ P (max (0 : Int) (min (99 : Int) v12)) d e))))))))))) : yB D xm_c210 (yQi L P) L 0 [.ref 146, .ref 162, .int (xJ a2), .int (xJ a3), .int (xJ a4), .double 0] [] d e := by
  refine yb_aload rfl rfl ?_
  refine yb_get (v := .int (xJ (d 146 (16 : Int)))) rfl (by decide) (by decide) (rfl) rfl ?_
  have r1 := h.1
  replace h := h.2
  refine yb_if_ne (x := (d 146 (16 : Int))) rfl rfl r1 (fun c => ?_) (fun c => ?_)
  · replace h := h.1 c
    refine yb_aload rfl rfl ?_
    refine yb_aload rfl rfl ?_
    refine yb_get (v := .ref 153) rfl (by decide) (by decide) (rfl) rfl ?_
    refine yb_aload rfl rfl ?_
    refine yb_get (v := .int (xJ (d 146 (16 : Int)))) rfl (by decide) (by decide) (rfl) rfl ?_
    refine yb_push (v := 40) rfl ?_
    refine yb_callVv (As := [.ref 153, .int (xJ (d 146 (16 : Int))), .int (xJ (40 : Int))]) (a := 146) rfl rfl rfl rfl rfl rfl rfl rfl (by decide) (by decide) (rfl) (by decide) (sp_189_153 (by omega) ?_)
    show yB D xm_c210 _ L 34 [.ref 146, .ref 162, .int (xJ a2), .int (xJ a3), .int (xJ a4), .double 0] [] (xs (xs (xs (xs (xs d 146 (9 : Int) (153 : Int)) 146 (10 : Int) (d 146 (16 : Int))) 146 (11 : Int) (40 : Int)) 146 (12 : Int) (0 : Int)) 146 (13 : Int) (-1 : Int)) e
    refine yb_aload rfl rfl ?_
    refine yb_aload rfl rfl ?_
    refine yb_put (z := (162 : Int)) (k := 17) rfl rfl (by decide) (by decide) (rfl) (Nat.le_of_ble_eq_true rfl) rfl (rfl) ?_
    refine yb_aload rfl rfl ?_
    refine yb_iload (x := a2) rfl rfl ?_
    refine yb_put (z := a2) (k := 18) rfl rfl (by decide) (by decide) (rfl) (Nat.le_of_ble_eq_true rfl) rfl (rfl) ?_
    refine yb_aload rfl rfl ?_
    refine yb_iload (x := a3) rfl rfl ?_
    refine yb_put (z := a3) (k := 19) rfl rfl (by decide) (by decide) (rfl) (Nat.le_of_ble_eq_true rfl) rfl (rfl) ?_
    refine yb_aload rfl rfl ?_
    refine yb_iload (x := a4) rfl rfl ?_
    refine yb_put (z := a4) (k := 20) rfl rfl (by decide) (by decide) (rfl) (Nat.le_of_ble_eq_true rfl) rfl (rfl) ?_
    refine yb_aload rfl rfl ?_
    refine yb_push (v := 0) rfl ?_
    refine yb_callVi (As := [.int (xJ (0 : Int))]) (a := 146) rfl rfl rfl rfl rfl rfl rfl rfl (by decide) (by decide) (rfl) (by decide) (yC_mono h (fun x2 d3 e4 h => ?_))
    refine yb_istore rfl rfl rfl ?_
    refine yb_push (v := 0) rfl ?_
    refine yb_push (v := 99) rfl ?_
    refine yb_iload (x := x2) rfl rfl ?_
    have r5 := h.1
    replace h := h.2
    refine yb_callSi (As := [.int (xJ (99 : Int)), .int (xJ x2)]) rfl rfl rfl rfl rfl rfl rfl rfl (by show (1 : Nat) ≤ 8; decide) (sp_5 (by omega) ⟨(by show (-2147483648 ≤ (99 : Int) ∧ (99 : Int) < 2147483648); decide), r5⟩ ?_)
    show yB D xm_c210 _ L 54 [.ref 146, .ref 162, .int (xJ a2), .int (xJ a3), .int (xJ a4), .int (xJ x2)] [.int (xJ (min (99 : Int) x2)), .int (xJ (0 : Int))] d3 e4
    have r6 : (-2147483648 ≤ (min (99 : Int) x2) ∧ (min (99 : Int) x2) < 2147483648) := (by omega)
    refine yb_callSi (As := [.int (xJ (0 : Int)), .int (xJ (min (99 : Int) x2))]) rfl rfl rfl rfl rfl rfl rfl rfl (by decide) (sp_4 (by omega) ⟨(by show (-2147483648 ≤ (0 : Int) ∧ (0 : Int) < 2147483648); decide), r6⟩ ?_)
    show yB D xm_c210 _ L 55 [.ref 146, .ref 162, .int (xJ a2), .int (xJ a3), .int (xJ a4), .int (xJ x2)] [.int (xJ (max (0 : Int) (min (99 : Int) x2)))] d3 e4
    exact yb_ret rfl h
  · replace h := h.2 c
    refine yb_push (v := 9) rfl ?_
    refine yb_aload rfl rfl ?_
    refine yb_get (v := .ref 148) rfl (by decide) (by decide) (rfl) rfl ?_
    refine yb_push (v := 9) rfl ?_
    refine yb_iload (x := a2) rfl rfl ?_
    refine yb_imul (x := (9 : Int)) (y := a2) rfl ?_
    refine yb_iload (x := a3) rfl rfl ?_
    refine yb_iadd (x := ((9 : Int) * a2)) (y := a3) rfl ?_
    have r7 := h.1
    replace h := h.2
    refine yb_iald (j := (((9 : Int) * a2) + a3)) rfl xd_A148 (by decide) r7 (v := (d 148 (((9 : Int) * a2) + a3))) rfl ?_
    refine yb_isub (x := (9 : Int)) (y := (d 148 (((9 : Int) * a2) + a3))) rfl ?_
    refine yb_aload rfl rfl ?_
    refine yb_push (v := 9) rfl ?_
    refine yb_iload (x := a2) rfl rfl ?_
    refine yb_iadd (x := (9 : Int)) (y := a2) rfl ?_
    have r8 := h.1
    replace h := h.2
    refine yb_iald (j := ((9 : Int) + a2)) rfl xd_A162 (by decide) r8 (v := (d 162 ((9 : Int) + a2))) rfl ?_
    refine yb_aload rfl rfl ?_
    refine yb_push (v := 9) rfl ?_
    refine yb_iload (x := a3) rfl rfl ?_
    refine yb_iadd (x := (9 : Int)) (y := a3) rfl ?_
    have r9 := h.1
    replace h := h.2
    refine yb_iald (j := ((9 : Int) + a3)) rfl xd_A162 (by decide) r9 (v := (d 162 ((9 : Int) + a3))) rfl ?_
    have r10 := h.1
    replace h := h.2
    have r11 := h.1
    replace h := h.2
    refine yb_callSi (As := [.int (xJ (d 162 ((9 : Int) + a2))), .int (xJ (d 162 ((9 : Int) + a3)))]) rfl rfl rfl rfl rfl rfl rfl rfl (by show (1 : Nat) ≤ 8; decide) (sp_208 (by omega) ⟨r10, r11⟩ ?_)
    show yB D xm_c210 _ L 24 [.ref 146, .ref 162, .int (xJ a2), .int (xJ a3), .int (xJ a4), .double 0] [.int (xJ (xp_apart (d 162 ((9 : Int) + a2)) (d 162 ((9 : Int) + a3)))), .int (xJ ((9 : Int) - (d 148 (((9 : Int) * a2) + a3))))] d e
    refine yb_iadd (x := ((9 : Int) - (d 148 (((9 : Int) * a2) + a3)))) (y := (xp_apart (d 162 ((9 : Int) + a2)) (d 162 ((9 : Int) + a3)))) rfl ?_
    replace h := h _ rfl
    refine yb_istore rfl rfl rfl ?_
    refine yb_goto rfl rfl ?_
    refine yb_push (v := 0) rfl ?_
    refine yb_push (v := 99) rfl ?_
    refine yb_iload (x := (((9 : Int) - (d 148 (((9 : Int) * a2) + a3))) + (xp_apart (d 162 ((9 : Int) + a2)) (d 162 ((9 : Int) + a3))))) rfl rfl ?_
    have r13 := h.1
    replace h := h.2
    refine yb_callSi (As := [.int (xJ (99 : Int)), .int (xJ (((9 : Int) - (d 148 (((9 : Int) * a2) + a3))) + (xp_apart (d 162 ((9 : Int) + a2)) (d 162 ((9 : Int) + a3)))))]) rfl rfl rfl rfl rfl rfl rfl rfl (by show (1 : Nat) ≤ 8; decide) (sp_5 (by omega) ⟨(by show (-2147483648 ≤ (99 : Int) ∧ (99 : Int) < 2147483648); decide), r13⟩ ?_)
    show yB D xm_c210 _ L 54 [.ref 146, .ref 162, .int (xJ a2), .int (xJ a3), .int (xJ a4), .int (xJ (((9 : Int) - (d 148 (((9 : Int) * a2) + a3))) + (xp_apart (d 162 ((9 : Int) + a2)) (d 162 ((9 : Int) + a3)))))] [.int (xJ (min (99 : Int) (((9 : Int) - (d 148 (((9 : Int) * a2) + a3))) + (xp_apart (d 162 ((9 : Int) + a2)) (d 162 ((9 : Int) + a3)))))), .int (xJ (0 : Int))] d e
    have r14 : (-2147483648 ≤ (min (99 : Int) (((9 : Int) - (d 148 (((9 : Int) * a2) + a3))) + (xp_apart (d 162 ((9 : Int) + a2)) (d 162 ((9 : Int) + a3))))) ∧ (min (99 : Int) (((9 : Int) - (d 148 (((9 : Int) * a2) + a3))) + (xp_apart (d 162 ((9 : Int) + a2)) (d 162 ((9 : Int) + a3))))) < 2147483648) := (by omega)
    refine yb_callSi (As := [.int (xJ (0 : Int)), .int (xJ (min (99 : Int) (((9 : Int) - (d 148 (((9 : Int) * a2) + a3))) + (xp_apart (d 162 ((9 : Int) + a2)) (d 162 ((9 : Int) + a3))))))]) rfl rfl rfl rfl rfl rfl rfl rfl (by decide) (sp_4 (by omega) ⟨(by show (-2147483648 ≤ (0 : Int) ∧ (0 : Int) < 2147483648); decide), r14⟩ ?_)
    show yB D xm_c210 _ L 55 [.ref 146, .ref 162, .int (xJ a2), .int (xJ a3), .int (xJ a4), .int (xJ (((9 : Int) - (d 148 (((9 : Int) * a2) + a3))) + (xp_apart (d 162 ((9 : Int) + a2)) (d 162 ((9 : Int) + a3)))))] [.int (xJ (max (0 : Int) (min (99 : Int) (((9 : Int) - (d 148 (((9 : Int) * a2) + a3))) + (xp_apart (d 162 ((9 : Int) + a2)) (d 162 ((9 : Int) + a3)))))))] d e
    exact yb_ret rfl h
theorem yk_211_0 {D L : Nat} {P : Int → xh_D → xd_E → Prop} {d : xh_D} {e : xd_E} {a1 : Int} {a2 : Int}   (hD : 2 ≤ D) (h : ((-2147483648 ≤ a1 ∧ a1 < 2147483648) ∧ ((0 ≤ (d 146 (1 : Int)) ∧ (d 146 (1 : Int)) ≤ 9) ∧ (((0 ≤ a1 ∧ a1 < (d 146 (1 : Int))) → ((-2147483648 ≤ a2 ∧ a2 < 2147483648) ∧ ((((0 : Int) ≤ a2 ∧ a2 ≤ (5 : Int)) → (((a2 < 0 ∨ 4 < a2) → yB D xm_c211 (yQi L P) L 68 [.ref 146, .int (xJ a1), .double 0, .int (xJ (0 : Int)), .int (xJ (0 : Int))] [] (xs d 146 (8 : Int) (0 : Int)) e) ∧ (a2 = 0 → ((0 ≤ a1 ∧ a1 < 353) ∧ P (d 147 a1) (xs d 146 (8 : Int) (0 : Int)) e)) ∧ (a2 = 1 → ((0 ≤ ((9 : Int) + a1) ∧ ((9 : Int) + a1) < 353) ∧ P (d 147 ((9 : Int) + a1)) (xs d 146 (8 : Int) (0 : Int)) e)) ∧ (a2 = 2 → ((0 ≤ ((18 : Int) + a1) ∧ ((18 : Int) + a1) < 353) ∧ P (d 147 ((18 : Int) + a1)) (xs d 146 (8 : Int) (0 : Int)) e)) ∧ (a2 = 3 → ((0 ≤ a1 ∧ a1 < 353) ∧ ((0 ≤ (((9 : Int) * a1) + (d 147 a1)) ∧ (((9 : Int) * a1) + (d 147 a1)) < 81) ∧ P (d 149 (((9 : Int) * a1) + (d 147 a1))) (xs d 146 (8 : Int) (0 : Int)) e))) ∧ (a2 = 4 → ((0 ≤ a1 ∧ a1 < 353) ∧ ((0 ≤ (d 147 (81 : Int)) ∧ (d 147 (81 : Int)) < 2147483648) ∧ ((0 ≤ (((d 147 a1) + (9 : Int)) - ((d 147 (81 : Int)) % (9 : Int))) ∧ (((d 147 a1) + (9 : Int)) - ((d 147 (81 : Int)) % (9 : Int))) < 2147483648) ∧ P ((((d 147 a1) + (9 : Int)) - ((d 147 (81 : Int)) % (9 : Int))) % (9 : Int)) (xs d 146 (8 : Int) (0 : Int)) e)))))) ∧ (¬ ((0 : Int) ≤ a2 ∧ a2 ≤ (5 : Int)) → P (0 : Int) (xs (xs d 146 (8 : Int) (0 : Int)) 146 (8 : Int) (1 : Int)) e)))) ∧ (¬ (0 ≤ a1 ∧ a1 < (d 146 (1 : Int))) → P (0 : Int) (xs (xs d 146 (8 : Int) (0 : Int)) 146 (8 : Int) (1 : Int)) e))))) : yB D xm_c211 (yQi L P) L 0 [.ref 146, .int (xJ a1), .int (xJ a2), .double 0, .double 0] [] d e := by
  refine yb_aload rfl rfl ?_
  refine yb_push (v := 0) rfl ?_
  refine yb_put (z := (0 : Int)) (k := 8) rfl rfl (by decide) (by decide) (rfl) (Nat.le_of_ble_eq_true rfl) rfl (rfl) ?_
  refine yb_aload rfl rfl ?_
  refine yb_iload (x := a1) rfl rfl ?_
  have r1 := h.1
  replace h := h.2
  have r2 := h.1
  replace h := h.2
  refine yb_callVz (As := [.int (xJ a1)]) (a := 146) rfl rfl rfl rfl rfl rfl rfl rfl (by decide) (by decide) (rfl) (by decide) (sp_184 (by omega) ⟨r1, r2⟩ (fun c => ?_) (fun c => ?_))
  · replace h := h.1 c
    show yB D xm_c211 _ L 6 [.ref 146, .int (xJ a1), .int (xJ a2), .double 0, .double 0] [.int (xJ (1 : Int))] (xs d 146 (8 : Int) (0 : Int)) e
    refine yb_if_eq (x := (1 : Int)) rfl rfl (by decide) (fun c => absurd c (by decide)) (fun _ => ?_)
    refine yb_iload (x := a2) rfl rfl ?_
    refine yb_push (v := 0) rfl ?_
    refine yb_push (v := 5) rfl ?_
    have r3 := h.1
    replace h := h.2
    refine yb_callSz (As := [.int (xJ a2), .int (xJ (0 : Int)), .int (xJ (5 : Int))]) rfl rfl rfl rfl rfl rfl rfl rfl (by decide) (sp_180 (by omega) ⟨r3, (by show (-2147483648 ≤ (0 : Int) ∧ (0 : Int) < 2147483648); decide), (by show (-2147483648 ≤ (5 : Int) ∧ (5 : Int) < 2147483648); decide)⟩ (fun c => ?_) (fun c => ?_))
    · replace h := h.1 c
      show yB D xm_c211 _ L 11 [.ref 146, .int (xJ a1), .int (xJ a2), .double 0, .double 0] [.int (xJ (1 : Int))] (xs d 146 (8 : Int) (0 : Int)) e
      refine yb_if_ne (x := (1 : Int)) rfl rfl (by decide) (fun _ => ?_) (fun c => absurd c (by decide))
      refine yb_iload (x := a2) rfl rfl ?_
      refine yb_table (x := a2) rfl rfl r3 (fun c => ?_) (fun c1 c2 => ?_)
      · replace h := h.1 c
        refine yb_push (v := 0) rfl ?_
        refine yb_istore rfl rfl rfl ?_
        refine yb_push (v := 0) rfl ?_
        refine yb_istore rfl rfl rfl ?_
        refine yb_forget (dl := [.ref 146, .int (xJ a1), .double 0, .int (xJ (0 : Int)), .int (xJ (0 : Int))]) ⟨Or.inl rfl, ⟨Or.inl rfl, ⟨Or.inr ⟨rfl, rfl⟩, ⟨Or.inl rfl, ⟨Or.inl rfl, trivial⟩⟩⟩⟩⟩ ?_
        exact h
      · rcases (show a2 = 0 ∨ a2 = 1 ∨ a2 = 2 ∨ a2 = 3 ∨ a2 = 4 by omega) with c | c | c | c | c
        · replace h := h.2.1 c
          refine ⟨_, by rw [c]; rfl, ?_⟩
          refine yb_aload rfl rfl ?_
          refine yb_get (v := .ref 147) rfl (by decide) (by decide) (rfl) rfl ?_
          refine yb_iload (x := a1) rfl rfl ?_
          have r4 := h.1
          replace h := h.2
          refine yb_iald (j := a1) rfl xd_A147 (by decide) r4 (v := (d 147 a1)) (xs_np (by decide)) ?_
          exact yb_ret rfl h
        · replace h := h.2.2.1 c
          refine ⟨_, by rw [c]; rfl, ?_⟩
          refine yb_aload rfl rfl ?_
          refine yb_get (v := .ref 147) rfl (by decide) (by decide) (rfl) rfl ?_
          refine yb_push (v := 9) rfl ?_
          refine yb_iload (x := a1) rfl rfl ?_
          refine yb_iadd (x := (9 : Int)) (y := a1) rfl ?_
          have r5 := h.1
          replace h := h.2
          refine yb_iald (j := ((9 : Int) + a1)) rfl xd_A147 (by decide) r5 (v := (d 147 ((9 : Int) + a1))) (xs_np (by decide)) ?_
          exact yb_ret rfl h
        · replace h := h.2.2.2.1 c
          refine ⟨_, by rw [c]; rfl, ?_⟩
          refine yb_aload rfl rfl ?_
          refine yb_get (v := .ref 147) rfl (by decide) (by decide) (rfl) rfl ?_
          refine yb_push (v := 18) rfl ?_
          refine yb_iload (x := a1) rfl rfl ?_
          refine yb_iadd (x := (18 : Int)) (y := a1) rfl ?_
          have r6 := h.1
          replace h := h.2
          refine yb_iald (j := ((18 : Int) + a1)) rfl xd_A147 (by decide) r6 (v := (d 147 ((18 : Int) + a1))) (xs_np (by decide)) ?_
          exact yb_ret rfl h
        · replace h := h.2.2.2.2.1 c
          refine ⟨_, by rw [c]; rfl, ?_⟩
          refine yb_aload rfl rfl ?_
          refine yb_get (v := .ref 149) rfl (by decide) (by decide) (rfl) rfl ?_
          refine yb_push (v := 9) rfl ?_
          refine yb_iload (x := a1) rfl rfl ?_
          refine yb_imul (x := (9 : Int)) (y := a1) rfl ?_
          refine yb_aload rfl rfl ?_
          refine yb_get (v := .ref 147) rfl (by decide) (by decide) (rfl) rfl ?_
          refine yb_iload (x := a1) rfl rfl ?_
          have r7 := h.1
          replace h := h.2
          refine yb_iald (j := a1) rfl xd_A147 (by decide) r7 (v := (d 147 a1)) (xs_np (by decide)) ?_
          refine yb_iadd (x := ((9 : Int) * a1)) (y := (d 147 a1)) rfl ?_
          have r8 := h.1
          replace h := h.2
          refine yb_iald (j := (((9 : Int) * a1) + (d 147 a1))) rfl xd_A149 (by decide) r8 (v := (d 149 (((9 : Int) * a1) + (d 147 a1)))) (xs_np (by decide)) ?_
          exact yb_ret rfl h
        · replace h := h.2.2.2.2.2 c
          refine ⟨_, by rw [c]; rfl, ?_⟩
          refine yb_aload rfl rfl ?_
          refine yb_get (v := .ref 147) rfl (by decide) (by decide) (rfl) rfl ?_
          refine yb_iload (x := a1) rfl rfl ?_
          have r9 := h.1
          replace h := h.2
          refine yb_iald (j := a1) rfl xd_A147 (by decide) r9 (v := (d 147 a1)) (xs_np (by decide)) ?_
          refine yb_push (v := 9) rfl ?_
          refine yb_iadd (x := (d 147 a1)) (y := (9 : Int)) rfl ?_
          refine yb_aload rfl rfl ?_
          refine yb_get (v := .ref 147) rfl (by decide) (by decide) (rfl) rfl ?_
          refine yb_push (v := 81) rfl ?_
          refine yb_iald (j := (81 : Int)) rfl xd_A147 (by decide) (by decide) (v := (d 147 (81 : Int))) (xs_np (by decide)) ?_
          refine yb_push (v := 9) rfl ?_
          have r10 := h.1
          replace h := h.2
          refine yb_irem (x := (d 147 (81 : Int))) (y := (9 : Int)) rfl r10 (by decide) ?_
          refine yb_isub (x := ((d 147 a1) + (9 : Int))) (y := ((d 147 (81 : Int)) % (9 : Int))) rfl ?_
          refine yb_push (v := 9) rfl ?_
          have r11 := h.1
          replace h := h.2
          refine yb_irem (x := (((d 147 a1) + (9 : Int)) - ((d 147 (81 : Int)) % (9 : Int)))) (y := (9 : Int)) rfl r11 (by decide) ?_
          exact yb_ret rfl h
    · replace h := h.2 c
      show yB D xm_c211 _ L 11 [.ref 146, .int (xJ a1), .int (xJ a2), .double 0, .double 0] [.int (xJ (0 : Int))] (xs d 146 (8 : Int) (0 : Int)) e
      refine yb_if_ne (x := (0 : Int)) rfl rfl (by decide) (fun c => absurd (by decide) c) (fun _ => ?_)
      refine yb_aload rfl rfl ?_
      refine yb_callVi (As := []) (a := 146) rfl rfl rfl rfl rfl rfl rfl rfl (by decide) (by decide) (rfl) (by decide) (sp_182 (by omega) ?_)
      show yB D xm_c211 _ L 14 [.ref 146, .int (xJ a1), .int (xJ a2), .double 0, .double 0] [.int (xJ (0 : Int))] (xs (xs d 146 (8 : Int) (0 : Int)) 146 (8 : Int) (1 : Int)) e
      exact yb_ret rfl h
  · replace h := h.2 c
    show yB D xm_c211 _ L 6 [.ref 146, .int (xJ a1), .int (xJ a2), .double 0, .double 0] [.int (xJ (0 : Int))] (xs d 146 (8 : Int) (0 : Int)) e
    refine yb_if_eq (x := (0 : Int)) rfl rfl (by decide) (fun _ => ?_) (fun c => absurd (by decide) c)
    refine yb_aload rfl rfl ?_
    refine yb_callVi (As := []) (a := 146) rfl rfl rfl rfl rfl rfl rfl rfl (by decide) (by decide) (rfl) (by decide) (sp_182 (by omega) ?_)
    show yB D xm_c211 _ L 14 [.ref 146, .int (xJ a1), .int (xJ a2), .double 0, .double 0] [.int (xJ (0 : Int))] (xs (xs d 146 (8 : Int) (0 : Int)) 146 (8 : Int) (1 : Int)) e
    exact yb_ret rfl h
theorem yk_211_68 {D L : Nat} {P : Int → xh_D → xd_E → Prop} {d : xh_D} {e : xd_E}  {l1 : Int} {l3 : Int} {l4 : Int}  (hD : 1 ≤ D) (h : ((-2147483648 ≤ l4 ∧ l4 < 2147483648) ∧ ((((6 : Int) ≤ l4) → P l3 d e) ∧ ((¬ (6 : Int) ≤ l4) → ((0 ≤ ((18 : Int) + l1) ∧ ((18 : Int) + l1) < 353) ∧ (((xi_and (xi_shr (d 147 ((18 : Int) + l1)) l4) (1 : Int) = 1) → yB D xm_c211 (yQi L P) L 68 [.ref 146, .int (xJ l1), .double 0, .int (xJ (l3 + (0 : Int))), .int (xJ (l4 + 1))] [] d e) ∧ (¬ (xi_and (xi_shr (d 147 ((18 : Int) + l1)) l4) (1 : Int) = 1) → ((0 ≤ (((27 : Int) + ((6 : Int) * l1)) + l4) ∧ (((27 : Int) + ((6 : Int) * l1)) + l4) < 353) ∧ (∀ v4, v4 = (l3 + (d 147 (((27 : Int) + ((6 : Int) * l1)) + l4))) → yB D xm_c211 (yQi L P) L 68 [.ref 146, .int (xJ l1), .double 0, .int (xJ v4), .int (xJ (l4 + 1))] [] d e))))))))) : yB D xm_c211 (yQi L P) L 68 [.ref 146, .int (xJ l1), .double 0, .int (xJ l3), .int (xJ l4)] [] d e := by
  refine yb_iload (x := l4) rfl rfl ?_
  refine yb_push (v := 6) rfl ?_
  have r1 := h.1
  replace h := h.2
  refine yb_icmp_ge (x := l4) (y := (6 : Int)) rfl rfl r1 (by decide) (fun c => ?_) (fun c => ?_)
  · replace h := h.1 c
    refine yb_iload (x := l3) rfl rfl ?_
    exact yb_ret rfl h
  · replace h := h.2 c
    refine yb_iload (x := l3) rfl rfl ?_
    refine yb_aload rfl rfl ?_
    refine yb_get (v := .ref 147) rfl (by decide) (by decide) (rfl) rfl ?_
    refine yb_push (v := 18) rfl ?_
    refine yb_iload (x := l1) rfl rfl ?_
    refine yb_iadd (x := (18 : Int)) (y := l1) rfl ?_
    have r2 := h.1
    replace h := h.2
    refine yb_iald (j := ((18 : Int) + l1)) rfl xd_A147 (by decide) r2 (v := (d 147 ((18 : Int) + l1))) rfl ?_
    refine yb_iload (x := l4) rfl rfl ?_
    refine yb_callSz (As := [.int (xJ (d 147 ((18 : Int) + l1))), .int (xJ l4)]) rfl rfl rfl rfl rfl rfl rfl rfl (by show (1 : Nat) ≤ 8; decide) (sp_181 (by omega) (fun c => ?_) (fun c => ?_))
    · replace h := h.1 c
      show yB D xm_c211 _ L 80 [.ref 146, .int (xJ l1), .double 0, .int (xJ l3), .int (xJ l4)] [.int (xJ (1 : Int)), .int (xJ l3)] d e
      refine yb_if_eq (x := (1 : Int)) rfl rfl (by decide) (fun c => absurd c (by decide)) (fun _ => ?_)
      refine yb_push (v := 0) rfl ?_
      refine yb_goto rfl rfl ?_
      refine yb_iadd (x := l3) (y := (0 : Int)) rfl ?_
      refine yb_istore rfl rfl rfl ?_
      refine yb_iinc (x := l4) (n := 1) rfl rfl rfl rfl ?_
      refine yb_goto rfl rfl ?_
      exact h
    · replace h := h.2 c
      show yB D xm_c211 _ L 80 [.ref 146, .int (xJ l1), .double 0, .int (xJ l3), .int (xJ l4)] [.int (xJ (0 : Int)), .int (xJ l3)] d e
      refine yb_if_eq (x := (0 : Int)) rfl rfl (by decide) (fun _ => ?_) (fun c => absurd (by decide) c)
      refine yb_aload rfl rfl ?_
      refine yb_get (v := .ref 147) rfl (by decide) (by decide) (rfl) rfl ?_
      refine yb_push (v := 27) rfl ?_
      refine yb_push (v := 6) rfl ?_
      refine yb_iload (x := l1) rfl rfl ?_
      refine yb_imul (x := (6 : Int)) (y := l1) rfl ?_
      refine yb_iadd (x := (27 : Int)) (y := ((6 : Int) * l1)) rfl ?_
      refine yb_iload (x := l4) rfl rfl ?_
      refine yb_iadd (x := ((27 : Int) + ((6 : Int) * l1))) (y := l4) rfl ?_
      have r3 := h.1
      replace h := h.2
      refine yb_iald (j := (((27 : Int) + ((6 : Int) * l1)) + l4)) rfl xd_A147 (by decide) r3 (v := (d 147 (((27 : Int) + ((6 : Int) * l1)) + l4))) rfl ?_
      refine yb_iadd (x := l3) (y := (d 147 (((27 : Int) + ((6 : Int) * l1)) + l4))) rfl ?_
      replace h := h _ rfl
      refine yb_istore rfl rfl rfl ?_
      refine yb_iinc (x := l4) (n := 1) rfl rfl rfl rfl ?_
      refine yb_goto rfl rfl ?_
      exact h
theorem yk_212_0 {D L : Nat} {P : Int → xh_D → xd_E → Prop} {d : xh_D} {e : xd_E} {a1 : Int} {a2 : Int}   (hD : 3 ≤ D) (h : ((-2147483648 ≤ a1 ∧ a1 < 2147483648) ∧ ((-2147483648 ≤ a2 ∧ a2 < 2147483648) ∧ ((0 ≤ (d 146 (1 : Int)) ∧ (d 146 (1 : Int)) ≤ 9) ∧ ((((0 ≤ a1 ∧ a1 < (d 146 (1 : Int))) ∧ (0 ≤ a2 ∧ a2 < (d 146 (1 : Int))) ∧ ¬ a1 = a2) → ((0 ≤ (((9 : Int) * a1) + a2) ∧ (((9 : Int) * a1) + a2) < 81) ∧ P (d 148 (((9 : Int) * a1) + a2)) (xs d 146 (8 : Int) (0 : Int)) e)) ∧ (¬ ((0 ≤ a1 ∧ a1 < (d 146 (1 : Int))) ∧ (0 ≤ a2 ∧ a2 < (d 146 (1 : Int))) ∧ ¬ a1 = a2) → P (-1 : Int) (xs d 146 (8 : Int) (0 : Int)) e)))))) : yB D xm_c212 (yQi L P) L 0 [.ref 146, .int (xJ a1), .int (xJ a2)] [] d e := by
  refine yb_aload rfl rfl ?_
  refine yb_push (v := 0) rfl ?_
  refine yb_put (z := (0 : Int)) (k := 8) rfl rfl (by decide) (by decide) (rfl) (Nat.le_of_ble_eq_true rfl) rfl (rfl) ?_
  refine yb_aload rfl rfl ?_
  refine yb_iload (x := a1) rfl rfl ?_
  refine yb_iload (x := a2) rfl rfl ?_
  have r1 := h.1
  replace h := h.2
  have r2 := h.1
  replace h := h.2
  have r3 := h.1
  replace h := h.2
  refine yb_callVz (As := [.int (xJ a1), .int (xJ a2)]) (a := 146) rfl rfl rfl rfl rfl rfl rfl rfl (by decide) (by decide) (rfl) (by decide) (sp_185 (by omega) ⟨r1, r2, r3⟩ (fun c => ?_) (fun c => ?_))
  · replace h := h.1 c
    show yB D xm_c212 _ L 7 [.ref 146, .int (xJ a1), .int (xJ a2)] [.int (xJ (1 : Int))] (xs d 146 (8 : Int) (0 : Int)) e
    refine yb_if_eq (x := (1 : Int)) rfl rfl (by decide) (fun c => absurd c (by decide)) (fun _ => ?_)
    refine yb_aload rfl rfl ?_
    refine yb_get (v := .ref 148) rfl (by decide) (by decide) (rfl) rfl ?_
    refine yb_push (v := 9) rfl ?_
    refine yb_iload (x := a1) rfl rfl ?_
    refine yb_imul (x := (9 : Int)) (y := a1) rfl ?_
    refine yb_iload (x := a2) rfl rfl ?_
    refine yb_iadd (x := ((9 : Int) * a1)) (y := a2) rfl ?_
    have r4 := h.1
    replace h := h.2
    refine yb_iald (j := (((9 : Int) * a1) + a2)) rfl xd_A148 (by decide) r4 (v := (d 148 (((9 : Int) * a1) + a2))) (xs_np (by decide)) ?_
    refine yb_goto rfl rfl ?_
    exact yb_ret rfl h
  · replace h := h.2 c
    show yB D xm_c212 _ L 7 [.ref 146, .int (xJ a1), .int (xJ a2)] [.int (xJ (0 : Int))] (xs d 146 (8 : Int) (0 : Int)) e
    refine yb_if_eq (x := (0 : Int)) rfl rfl (by decide) (fun _ => ?_) (fun c => absurd (by decide) c)
    refine yb_push (v := (-1)) rfl ?_
    exact yb_ret rfl h
theorem yk_213_0 {D L : Nat} {P : Int → xh_D → xd_E → Prop} {d : xh_D} {e : xd_E} {a1 : Int} {a2 : Int}   (hD : 2 ≤ D) (h : ((-2147483648 ≤ a1 ∧ a1 < 2147483648) ∧ ((0 ≤ (d 146 (1 : Int)) ∧ (d 146 (1 : Int)) ≤ 9) ∧ (((0 ≤ a1 ∧ a1 < (d 146 (1 : Int))) → ((-2147483648 ≤ a2 ∧ a2 < 2147483648) ∧ ((((0 : Int) ≤ a2 ∧ a2 ≤ (5 : Int)) → ((0 ≤ (((27 : Int) + ((6 : Int) * a1)) + a2) ∧ (((27 : Int) + ((6 : Int) * a1)) + a2) < 353) ∧ P (d 147 (((27 : Int) + ((6 : Int) * a1)) + a2)) (xs d 146 (8 : Int) (0 : Int)) e)) ∧ (¬ ((0 : Int) ≤ a2 ∧ a2 ≤ (5 : Int)) → P (-1 : Int) (xs d 146 (8 : Int) (0 : Int)) e)))) ∧ (¬ (0 ≤ a1 ∧ a1 < (d 146 (1 : Int))) → P (-1 : Int) (xs d 146 (8 : Int) (0 : Int)) e))))) : yB D xm_c213 (yQi L P) L 0 [.ref 146, .int (xJ a1), .int (xJ a2)] [] d e := by
  refine yb_aload rfl rfl ?_
  refine yb_push (v := 0) rfl ?_
  refine yb_put (z := (0 : Int)) (k := 8) rfl rfl (by decide) (by decide) (rfl) (Nat.le_of_ble_eq_true rfl) rfl (rfl) ?_
  refine yb_aload rfl rfl ?_
  refine yb_iload (x := a1) rfl rfl ?_
  have r1 := h.1
  replace h := h.2
  have r2 := h.1
  replace h := h.2
  refine yb_callVz (As := [.int (xJ a1)]) (a := 146) rfl rfl rfl rfl rfl rfl rfl rfl (by decide) (by decide) (rfl) (by decide) (sp_184 (by omega) ⟨r1, r2⟩ (fun c => ?_) (fun c => ?_))
  · replace h := h.1 c
    show yB D xm_c213 _ L 6 [.ref 146, .int (xJ a1), .int (xJ a2)] [.int (xJ (1 : Int))] (xs d 146 (8 : Int) (0 : Int)) e
    refine yb_if_eq (x := (1 : Int)) rfl rfl (by decide) (fun c => absurd c (by decide)) (fun _ => ?_)
    refine yb_iload (x := a2) rfl rfl ?_
    refine yb_push (v := 0) rfl ?_
    refine yb_push (v := 5) rfl ?_
    have r3 := h.1
    replace h := h.2
    refine yb_callSz (As := [.int (xJ a2), .int (xJ (0 : Int)), .int (xJ (5 : Int))]) rfl rfl rfl rfl rfl rfl rfl rfl (by decide) (sp_180 (by omega) ⟨r3, (by show (-2147483648 ≤ (0 : Int) ∧ (0 : Int) < 2147483648); decide), (by show (-2147483648 ≤ (5 : Int) ∧ (5 : Int) < 2147483648); decide)⟩ (fun c => ?_) (fun c => ?_))
    · replace h := h.1 c
      show yB D xm_c213 _ L 11 [.ref 146, .int (xJ a1), .int (xJ a2)] [.int (xJ (1 : Int))] (xs d 146 (8 : Int) (0 : Int)) e
      refine yb_if_eq (x := (1 : Int)) rfl rfl (by decide) (fun c => absurd c (by decide)) (fun _ => ?_)
      refine yb_aload rfl rfl ?_
      refine yb_get (v := .ref 147) rfl (by decide) (by decide) (rfl) rfl ?_
      refine yb_push (v := 27) rfl ?_
      refine yb_push (v := 6) rfl ?_
      refine yb_iload (x := a1) rfl rfl ?_
      refine yb_imul (x := (6 : Int)) (y := a1) rfl ?_
      refine yb_iadd (x := (27 : Int)) (y := ((6 : Int) * a1)) rfl ?_
      refine yb_iload (x := a2) rfl rfl ?_
      refine yb_iadd (x := ((27 : Int) + ((6 : Int) * a1))) (y := a2) rfl ?_
      have r4 := h.1
      replace h := h.2
      refine yb_iald (j := (((27 : Int) + ((6 : Int) * a1)) + a2)) rfl xd_A147 (by decide) r4 (v := (d 147 (((27 : Int) + ((6 : Int) * a1)) + a2))) (xs_np (by decide)) ?_
      refine yb_goto rfl rfl ?_
      exact yb_ret rfl h
    · replace h := h.2 c
      show yB D xm_c213 _ L 11 [.ref 146, .int (xJ a1), .int (xJ a2)] [.int (xJ (0 : Int))] (xs d 146 (8 : Int) (0 : Int)) e
      refine yb_if_eq (x := (0 : Int)) rfl rfl (by decide) (fun _ => ?_) (fun c => absurd (by decide) c)
      refine yb_push (v := (-1)) rfl ?_
      exact yb_ret rfl h
  · replace h := h.2 c
    show yB D xm_c213 _ L 6 [.ref 146, .int (xJ a1), .int (xJ a2)] [.int (xJ (0 : Int))] (xs d 146 (8 : Int) (0 : Int)) e
    refine yb_if_eq (x := (0 : Int)) rfl rfl (by decide) (fun _ => ?_) (fun c => absurd (by decide) c)
    refine yb_push (v := (-1)) rfl ?_
    exact yb_ret rfl h
theorem yk_214_0 {D L : Nat} {P : Int → xh_D → xd_E → Prop} {d : xh_D} {e : xd_E} {a1 : Int} {a2 : Int} {a3 : Int}   (hD : 2 ≤ D) (h : ((-2147483648 ≤ a1 ∧ a1 < 2147483648) ∧ ((0 ≤ (d 146 (1 : Int)) ∧ (d 146 (1 : Int)) ≤ 9) ∧ (((0 ≤ a1 ∧ a1 < (d 146 (1 : Int))) → ((-2147483648 ≤ a2 ∧ a2 < 2147483648) ∧ ((((0 : Int) ≤ a2 ∧ a2 ≤ (2 : Int)) → (((¬ a2 = (2 : Int)) → ((-2147483648 ≤ a3 ∧ a3 < 2147483648) ∧ ((((0 : Int) ≤ a3 ∧ a3 ≤ (8 : Int)) → ((0 ≤ (((9 : Int) * a2) + a1) ∧ (((9 : Int) * a2) + a1) < 353) ∧ P (d 147 (((9 : Int) * a2) + a1)) (xs (xs d 146 (8 : Int) (0 : Int)) 147 (((9 : Int) * a2) + a1) a3) e)) ∧ (¬ ((0 : Int) ≤ a3 ∧ a3 ≤ (8 : Int)) → P (-1 : Int) (xs d 146 (8 : Int) (0 : Int)) e)))) ∧ ((a2 = (2 : Int)) → ((-2147483648 ≤ a3 ∧ a3 < 2147483648) ∧ ((((0 : Int) ≤ a3 ∧ a3 ≤ (63 : Int)) → ((0 ≤ (((9 : Int) * a2) + a1) ∧ (((9 : Int) * a2) + a1) < 353) ∧ P (d 147 (((9 : Int) * a2) + a1)) (xs (xs d 146 (8 : Int) (0 : Int)) 147 (((9 : Int) * a2) + a1) a3) e)) ∧ (¬ ((0 : Int) ≤ a3 ∧ a3 ≤ (63 : Int)) → P (-1 : Int) (xs d 146 (8 : Int) (0 : Int)) e)))))) ∧ (¬ ((0 : Int) ≤ a2 ∧ a2 ≤ (2 : Int)) → P (-1 : Int) (xs d 146 (8 : Int) (0 : Int)) e)))) ∧ (¬ (0 ≤ a1 ∧ a1 < (d 146 (1 : Int))) → P (-1 : Int) (xs d 146 (8 : Int) (0 : Int)) e))))) : yB D xm_c214 (yQi L P) L 0 [.ref 146, .int (xJ a1), .int (xJ a2), .int (xJ a3), .double 0, .double 0] [] d e := by
  refine yb_aload rfl rfl ?_
  refine yb_push (v := 0) rfl ?_
  refine yb_put (z := (0 : Int)) (k := 8) rfl rfl (by decide) (by decide) (rfl) (Nat.le_of_ble_eq_true rfl) rfl (rfl) ?_
  refine yb_aload rfl rfl ?_
  refine yb_iload (x := a1) rfl rfl ?_
  have r1 := h.1
  replace h := h.2
  have r2 := h.1
  replace h := h.2
  refine yb_callVz (As := [.int (xJ a1)]) (a := 146) rfl rfl rfl rfl rfl rfl rfl rfl (by decide) (by decide) (rfl) (by decide) (sp_184 (by omega) ⟨r1, r2⟩ (fun c => ?_) (fun c => ?_))
  · replace h := h.1 c
    show yB D xm_c214 _ L 6 [.ref 146, .int (xJ a1), .int (xJ a2), .int (xJ a3), .double 0, .double 0] [.int (xJ (1 : Int))] (xs d 146 (8 : Int) (0 : Int)) e
    refine yb_if_eq (x := (1 : Int)) rfl rfl (by decide) (fun c => absurd c (by decide)) (fun _ => ?_)
    refine yb_iload (x := a2) rfl rfl ?_
    refine yb_push (v := 0) rfl ?_
    refine yb_push (v := 2) rfl ?_
    have r3 := h.1
    replace h := h.2
    refine yb_callSz (As := [.int (xJ a2), .int (xJ (0 : Int)), .int (xJ (2 : Int))]) rfl rfl rfl rfl rfl rfl rfl rfl (by decide) (sp_180 (by omega) ⟨r3, (by show (-2147483648 ≤ (0 : Int) ∧ (0 : Int) < 2147483648); decide), (by show (-2147483648 ≤ (2 : Int) ∧ (2 : Int) < 2147483648); decide)⟩ (fun c => ?_) (fun c => ?_))
    · replace h := h.1 c
      show yB D xm_c214 _ L 11 [.ref 146, .int (xJ a1), .int (xJ a2), .int (xJ a3), .double 0, .double 0] [.int (xJ (1 : Int))] (xs d 146 (8 : Int) (0 : Int)) e
      refine yb_if_eq (x := (1 : Int)) rfl rfl (by decide) (fun c => absurd c (by decide)) (fun _ => ?_)
      refine yb_iload (x := a3) rfl rfl ?_
      refine yb_push (v := 0) rfl ?_
      refine yb_iload (x := a2) rfl rfl ?_
      refine yb_push (v := 2) rfl ?_
      refine yb_icmp_ne (x := a2) (y := (2 : Int)) rfl rfl r3 (by decide) (fun c => ?_) (fun c => ?_)
      · replace h := h.1 c
        refine yb_push (v := 8) rfl ?_
        have r4 := h.1
        replace h := h.2
        refine yb_callSz (As := [.int (xJ a3), .int (xJ (0 : Int)), .int (xJ (8 : Int))]) rfl rfl rfl rfl rfl rfl rfl rfl (by decide) (sp_180 (by omega) ⟨r4, (by show (-2147483648 ≤ (0 : Int) ∧ (0 : Int) < 2147483648); decide), (by show (-2147483648 ≤ (8 : Int) ∧ (8 : Int) < 2147483648); decide)⟩ (fun c => ?_) (fun c => ?_))
        · replace h := h.1 c
          show yB D xm_c214 _ L 21 [.ref 146, .int (xJ a1), .int (xJ a2), .int (xJ a3), .double 0, .double 0] [.int (xJ (1 : Int))] (xs d 146 (8 : Int) (0 : Int)) e
          refine yb_if_ne (x := (1 : Int)) rfl rfl (by decide) (fun _ => ?_) (fun c => absurd c (by decide))
          refine yb_push (v := 9) rfl ?_
          refine yb_iload (x := a2) rfl rfl ?_
          refine yb_imul (x := (9 : Int)) (y := a2) rfl ?_
          refine yb_iload (x := a1) rfl rfl ?_
          refine yb_iadd (x := ((9 : Int) * a2)) (y := a1) rfl ?_
          refine yb_istore rfl rfl rfl ?_
          refine yb_aload rfl rfl ?_
          refine yb_get (v := .ref 147) rfl (by decide) (by decide) (rfl) rfl ?_
          refine yb_iload (x := (((9 : Int) * a2) + a1)) rfl rfl ?_
          have r5 := h.1
          replace h := h.2
          refine yb_iald (j := (((9 : Int) * a2) + a1)) rfl xd_A147 (by decide) r5 (v := (d 147 (((9 : Int) * a2) + a1))) (xs_np (by decide)) ?_
          refine yb_istore rfl rfl rfl ?_
          refine yb_aload rfl rfl ?_
          refine yb_get (v := .ref 147) rfl (by decide) (by decide) (rfl) rfl ?_
          refine yb_iload (x := (((9 : Int) * a2) + a1)) rfl rfl ?_
          refine yb_iload (x := a3) rfl rfl ?_
          refine yb_iast (j := (((9 : Int) * a2) + a1)) (x := a3) rfl xd_A147 (by decide) r5 ?_
          refine yb_iload (x := (d 147 (((9 : Int) * a2) + a1))) rfl rfl ?_
          exact yb_ret rfl h
        · replace h := h.2 c
          show yB D xm_c214 _ L 21 [.ref 146, .int (xJ a1), .int (xJ a2), .int (xJ a3), .double 0, .double 0] [.int (xJ (0 : Int))] (xs d 146 (8 : Int) (0 : Int)) e
          refine yb_if_ne (x := (0 : Int)) rfl rfl (by decide) (fun c => absurd (by decide) c) (fun _ => ?_)
          refine yb_push (v := (-1)) rfl ?_
          exact yb_ret rfl h
      · replace h := h.2 c
        refine yb_push (v := 63) rfl ?_
        refine yb_goto rfl rfl ?_
        have r6 := h.1
        replace h := h.2
        refine yb_callSz (As := [.int (xJ a3), .int (xJ (0 : Int)), .int (xJ (63 : Int))]) rfl rfl rfl rfl rfl rfl rfl rfl (by decide) (sp_180 (by omega) ⟨r6, (by show (-2147483648 ≤ (0 : Int) ∧ (0 : Int) < 2147483648); decide), (by show (-2147483648 ≤ (63 : Int) ∧ (63 : Int) < 2147483648); decide)⟩ (fun c => ?_) (fun c => ?_))
        · replace h := h.1 c
          show yB D xm_c214 _ L 21 [.ref 146, .int (xJ a1), .int (xJ a2), .int (xJ a3), .double 0, .double 0] [.int (xJ (1 : Int))] (xs d 146 (8 : Int) (0 : Int)) e
          refine yb_if_ne (x := (1 : Int)) rfl rfl (by decide) (fun _ => ?_) (fun c => absurd c (by decide))
          refine yb_push (v := 9) rfl ?_
          refine yb_iload (x := a2) rfl rfl ?_
          refine yb_imul (x := (9 : Int)) (y := a2) rfl ?_
          refine yb_iload (x := a1) rfl rfl ?_
          refine yb_iadd (x := ((9 : Int) * a2)) (y := a1) rfl ?_
          refine yb_istore rfl rfl rfl ?_
          refine yb_aload rfl rfl ?_
          refine yb_get (v := .ref 147) rfl (by decide) (by decide) (rfl) rfl ?_
          refine yb_iload (x := (((9 : Int) * a2) + a1)) rfl rfl ?_
          have r7 := h.1
          replace h := h.2
          refine yb_iald (j := (((9 : Int) * a2) + a1)) rfl xd_A147 (by decide) r7 (v := (d 147 (((9 : Int) * a2) + a1))) (xs_np (by decide)) ?_
          refine yb_istore rfl rfl rfl ?_
          refine yb_aload rfl rfl ?_
          refine yb_get (v := .ref 147) rfl (by decide) (by decide) (rfl) rfl ?_
          refine yb_iload (x := (((9 : Int) * a2) + a1)) rfl rfl ?_
          refine yb_iload (x := a3) rfl rfl ?_
          refine yb_iast (j := (((9 : Int) * a2) + a1)) (x := a3) rfl xd_A147 (by decide) r7 ?_
          refine yb_iload (x := (d 147 (((9 : Int) * a2) + a1))) rfl rfl ?_
          exact yb_ret rfl h
        · replace h := h.2 c
          show yB D xm_c214 _ L 21 [.ref 146, .int (xJ a1), .int (xJ a2), .int (xJ a3), .double 0, .double 0] [.int (xJ (0 : Int))] (xs d 146 (8 : Int) (0 : Int)) e
          refine yb_if_ne (x := (0 : Int)) rfl rfl (by decide) (fun c => absurd (by decide) c) (fun _ => ?_)
          refine yb_push (v := (-1)) rfl ?_
          exact yb_ret rfl h
    · replace h := h.2 c
      show yB D xm_c214 _ L 11 [.ref 146, .int (xJ a1), .int (xJ a2), .int (xJ a3), .double 0, .double 0] [.int (xJ (0 : Int))] (xs d 146 (8 : Int) (0 : Int)) e
      refine yb_if_eq (x := (0 : Int)) rfl rfl (by decide) (fun _ => ?_) (fun c => absurd (by decide) c)
      refine yb_push (v := (-1)) rfl ?_
      exact yb_ret rfl h
  · replace h := h.2 c
    show yB D xm_c214 _ L 6 [.ref 146, .int (xJ a1), .int (xJ a2), .int (xJ a3), .double 0, .double 0] [.int (xJ (0 : Int))] (xs d 146 (8 : Int) (0 : Int)) e
    refine yb_if_eq (x := (0 : Int)) rfl rfl (by decide) (fun _ => ?_) (fun c => absurd (by decide) c)
    refine yb_push (v := (-1)) rfl ?_
    exact yb_ret rfl h
theorem yk_215_0 {D L : Nat} {P : Int → xh_D → xd_E → Prop} {d : xh_D} {e : xd_E} {a1 : Int} {a2 : Int} {a3 : Int} {a4 : Int}   (hD : 1 ≤ D) (h : ((-2147483648 ≤ a1 ∧ a1 < 2147483648) ∧ ((((0 : Int) ≤ a1 ∧ a1 ≤ (3 : Int)) → ((-2147483648 ≤ a2 ∧ a2 < 2147483648) ∧ (((a2 ≤ (9 : Int)) → ((((3 : Int) ≤ a1) → yB D xm_c215 (yQi L P) L 26 [.ref 146, .int (xJ a1), .int (xJ a2), .double 0, .int (xJ a4), .int (xJ (0 : Int)), .int (xJ a3), .int (xJ (0 : Int)), .double 0] [] (xs d 146 (8 : Int) (0 : Int)) e) ∧ ((¬ (3 : Int) ≤ a1) → (((0 ≤ a2) → yB D xm_c215 (yQi L P) L 26 [.ref 146, .int (xJ a1), .int (xJ a2), .double 0, .int (xJ a4), .int (xJ (0 : Int)), .int (xJ a3), .int (xJ (0 : Int)), .double 0] [] (xs d 146 (8 : Int) (0 : Int)) e) ∧ ((¬ 0 ≤ a2) → P (-2 : Int) (xs d 146 (8 : Int) (0 : Int)) e))))) ∧ ((¬ a2 ≤ (9 : Int)) → P (-1 : Int) (xs d 146 (8 : Int) (0 : Int)) e)))) ∧ (¬ ((0 : Int) ≤ a1 ∧ a1 ≤ (3 : Int)) → P (-1 : Int) (xs d 146 (8 : Int) (0 : Int)) e)))) : yB D xm_c215 (yQi L P) L 0 [.ref 146, .int (xJ a1), .int (xJ a2), .int (xJ a3), .int (xJ a4), .double 0, .double 0, .double 0, .double 0] [] d e := by
  refine yb_aload rfl rfl ?_
  refine yb_push (v := 0) rfl ?_
  refine yb_put (z := (0 : Int)) (k := 8) rfl rfl (by decide) (by decide) (rfl) (Nat.le_of_ble_eq_true rfl) rfl (rfl) ?_
  refine yb_iload (x := a1) rfl rfl ?_
  refine yb_push (v := 0) rfl ?_
  refine yb_push (v := 3) rfl ?_
  have r1 := h.1
  replace h := h.2
  refine yb_callSz (As := [.int (xJ a1), .int (xJ (0 : Int)), .int (xJ (3 : Int))]) rfl rfl rfl rfl rfl rfl rfl rfl (by decide) (sp_180 (by omega) ⟨r1, (by show (-2147483648 ≤ (0 : Int) ∧ (0 : Int) < 2147483648); decide), (by show (-2147483648 ≤ (3 : Int) ∧ (3 : Int) < 2147483648); decide)⟩ (fun c => ?_) (fun c => ?_))
  · replace h := h.1 c
    show yB D xm_c215 _ L 7 [.ref 146, .int (xJ a1), .int (xJ a2), .int (xJ a3), .int (xJ a4), .double 0, .double 0, .double 0, .double 0] [.int (xJ (1 : Int))] (xs d 146 (8 : Int) (0 : Int)) e
    refine yb_if_eq (x := (1 : Int)) rfl rfl (by decide) (fun c => absurd c (by decide)) (fun _ => ?_)
    refine yb_iload (x := a2) rfl rfl ?_
    refine yb_push (v := 9) rfl ?_
    have r2 := h.1
    replace h := h.2
    refine yb_icmp_le (x := a2) (y := (9 : Int)) rfl rfl r2 (by decide) (fun c => ?_) (fun c => ?_)
    · replace h := h.1 c
      refine yb_iload (x := a1) rfl rfl ?_
      refine yb_push (v := 3) rfl ?_
      refine yb_icmp_ge (x := a1) (y := (3 : Int)) rfl rfl r1 (by decide) (fun c => ?_) (fun c => ?_)
      · replace h := h.1 c
        refine yb_push (v := 0) rfl ?_
        refine yb_istore rfl rfl rfl ?_
        refine yb_iload (x := a3) rfl rfl ?_
        refine yb_istore rfl rfl rfl ?_
        refine yb_push (v := 0) rfl ?_
        refine yb_istore rfl rfl rfl ?_
        refine yb_forget (dl := [.ref 146, .int (xJ a1), .int (xJ a2), .double 0, .int (xJ a4), .int (xJ (0 : Int)), .int (xJ a3), .int (xJ (0 : Int)), .double 0]) ⟨Or.inl rfl, ⟨Or.inl rfl, ⟨Or.inl rfl, ⟨Or.inr ⟨rfl, rfl⟩, ⟨Or.inl rfl, ⟨Or.inl rfl, ⟨Or.inl rfl, ⟨Or.inl rfl, ⟨Or.inl rfl, trivial⟩⟩⟩⟩⟩⟩⟩⟩⟩ ?_
        exact h
      · replace h := h.2 c
        refine yb_iload (x := a2) rfl rfl ?_
        refine yb_if_ge (x := a2) rfl rfl r2 (fun c => ?_) (fun c => ?_)
        · replace h := h.1 c
          refine yb_push (v := 0) rfl ?_
          refine yb_istore rfl rfl rfl ?_
          refine yb_iload (x := a3) rfl rfl ?_
          refine yb_istore rfl rfl rfl ?_
          refine yb_push (v := 0) rfl ?_
          refine yb_istore rfl rfl rfl ?_
          refine yb_forget (dl := [.ref 146, .int (xJ a1), .int (xJ a2), .double 0, .int (xJ a4), .int (xJ (0 : Int)), .int (xJ a3), .int (xJ (0 : Int)), .double 0]) ⟨Or.inl rfl, ⟨Or.inl rfl, ⟨Or.inl rfl, ⟨Or.inr ⟨rfl, rfl⟩, ⟨Or.inl rfl, ⟨Or.inl rfl, ⟨Or.inl rfl, ⟨Or.inl rfl, ⟨Or.inl rfl, trivial⟩⟩⟩⟩⟩⟩⟩⟩⟩ ?_
          exact h
        · replace h := h.2 c
          refine yb_push (v := (-2)) rfl ?_
          exact yb_ret rfl h
    · replace h := h.2 c
      refine yb_push (v := (-1)) rfl ?_
      exact yb_ret rfl h
  · replace h := h.2 c
    show yB D xm_c215 _ L 7 [.ref 146, .int (xJ a1), .int (xJ a2), .int (xJ a3), .int (xJ a4), .double 0, .double 0, .double 0, .double 0] [.int (xJ (0 : Int))] (xs d 146 (8 : Int) (0 : Int)) e
    refine yb_if_eq (x := (0 : Int)) rfl rfl (by decide) (fun _ => ?_) (fun c => absurd (by decide) c)
    refine yb_push (v := (-1)) rfl ?_
    exact yb_ret rfl h
theorem yk_215_26 {D L : Nat} {P : Int → xh_D → xd_E → Prop} {d : xh_D} {e : xd_E}  {l1 : Int} {l2 : Int} {l4 : Int} {l5 : Int} {l6 : Int} {l7 : Int}  (hD : 1 ≤ D) (h : ((-2147483648 ≤ l7 ∧ l7 < 2147483648) ∧ ((-2147483648 ≤ (d 146 (1 : Int)) ∧ (d 146 (1 : Int)) < 2147483648) ∧ ((((d 146 (1 : Int)) ≤ l7) → ((-2147483648 ≤ l1 ∧ l1 < 2147483648) ∧ (((¬ l1 = (3 : Int)) → P l5 d e) ∧ ((l1 = (3 : Int)) → P (-3 : Int) d e)))) ∧ ((¬ (d 146 (1 : Int)) ≤ l7) → ((-2147483648 ≤ l1 ∧ l1 < 2147483648) ∧ (((¬ l1 = 0) → (((¬ l1 = (1 : Int)) → (((l1 = (3 : Int)) → ((0 ≤ l7 ∧ l7 < 353) ∧ yB D xm_c215 (yQi L P) L 26 [.ref 146, .int (xJ l1), .int (xJ l2), .double 0, .int (xJ l4), .int (xJ (l5 + (0 : Int))), .int (xJ (l6 + l4)), .int (xJ (l7 + 1)), .double 0] [] (xs d 147 l7 (0 : Int)) e)) ∧ ((¬ l1 = (3 : Int)) → ((-2147483648 ≤ l2 ∧ l2 < 2147483648) ∧ (((l7 < l2) → ((-2147483648 ≤ l6 ∧ l6 < 2147483648) ∧ ((0 ≤ l7 ∧ l7 < 353) ∧ (∀ v10, v10 = (l5 + (max (0 : Int) (min (8 : Int) l6))) → yB D xm_c215 (yQi L P) L 26 [.ref 146, .int (xJ l1), .int (xJ l2), .double 0, .int (xJ l4), .int (xJ v10), .int (xJ (l6 + l4)), .int (xJ (l7 + 1)), .double 0] [] (xs d 147 l7 (max (0 : Int) (min (8 : Int) l6))) e)))) ∧ ((¬ l7 < l2) → ((0 ≤ l7 ∧ l7 < 353) ∧ yB D xm_c215 (yQi L P) L 26 [.ref 146, .int (xJ l1), .int (xJ l2), .double 0, .int (xJ l4), .int (xJ (l5 + (0 : Int))), .int (xJ (l6 + l4)), .int (xJ (l7 + 1)), .double 0] [] (xs d 147 l7 (0 : Int)) e))))))) ∧ ((l1 = (1 : Int)) → (((l1 = (3 : Int)) → ((0 ≤ l7 ∧ l7 < 353) ∧ yB D xm_c215 (yQi L P) L 26 [.ref 146, .int (xJ l1), .int (xJ l2), .double 0, .int (xJ l4), .int (xJ (l5 + (0 : Int))), .int (xJ (l6 + l4)), .int (xJ (l7 + 1)), .double 0] [] (xs d 147 l7 (0 : Int)) e)) ∧ ((¬ l1 = (3 : Int)) → ((-2147483648 ≤ l2 ∧ l2 < 2147483648) ∧ (((l7 < l2) → ((0 ≤ l7 ∧ l7 < 353) ∧ (∀ v17, v17 = (l5 + (max (0 : Int) (min (8 : Int) (xi_i16 l6)))) → yB D xm_c215 (yQi L P) L 26 [.ref 146, .int (xJ l1), .int (xJ l2), .double 0, .int (xJ l4), .int (xJ v17), .int (xJ (l6 + l4)), .int (xJ (l7 + 1)), .double 0] [] (xs d 147 l7 (max (0 : Int) (min (8 : Int) (xi_i16 l6)))) e))) ∧ ((¬ l7 < l2) → ((0 ≤ l7 ∧ l7 < 353) ∧ yB D xm_c215 (yQi L P) L 26 [.ref 146, .int (xJ l1), .int (xJ l2), .double 0, .int (xJ l4), .int (xJ (l5 + (0 : Int))), .int (xJ (l6 + l4)), .int (xJ (l7 + 1)), .double 0] [] (xs d 147 l7 (0 : Int)) e))))))))) ∧ ((l1 = 0) → (((l1 = (3 : Int)) → ((0 ≤ l7 ∧ l7 < 353) ∧ yB D xm_c215 (yQi L P) L 26 [.ref 146, .int (xJ l1), .int (xJ l2), .double 0, .int (xJ l4), .int (xJ (l5 + (0 : Int))), .int (xJ (l6 + l4)), .int (xJ (l7 + 1)), .double 0] [] (xs d 147 l7 (0 : Int)) e)) ∧ ((¬ l1 = (3 : Int)) → ((-2147483648 ≤ l2 ∧ l2 < 2147483648) ∧ (((l7 < l2) → ((0 ≤ l7 ∧ l7 < 353) ∧ (∀ v24, v24 = (l5 + (max (0 : Int) (min (8 : Int) (xi_i8 l6)))) → yB D xm_c215 (yQi L P) L 26 [.ref 146, .int (xJ l1), .int (xJ l2), .double 0, .int (xJ l4), .int (xJ v24), .int (xJ (l6 + l4)), .int (xJ (l7 + 1)), .double 0] [] (xs d 147 l7 (max (0 : Int) (min (8 : Int) (xi_i8 l6)))) e))) ∧ ((¬ l7 < l2) → ((0 ≤ l7 ∧ l7 < 353) ∧ yB D xm_c215 (yQi L P) L 26 [.ref 146, .int (xJ l1), .int (xJ l2), .double 0, .int (xJ l4), .int (xJ (l5 + (0 : Int))), .int (xJ (l6 + l4)), .int (xJ (l7 + 1)), .double 0] [] (xs d 147 l7 (0 : Int)) e)))))))))))))) : yB D xm_c215 (yQi L P) L 26 [.ref 146, .int (xJ l1), .int (xJ l2), .double 0, .int (xJ l4), .int (xJ l5), .int (xJ l6), .int (xJ l7), .double 0] [] d e := by
  refine yb_iload (x := l7) rfl rfl ?_
  refine yb_aload rfl rfl ?_
  refine yb_get (v := .int (xJ (d 146 (1 : Int)))) rfl (by decide) (by decide) (rfl) rfl ?_
  have r1 := h.1
  replace h := h.2
  have r2 := h.1
  replace h := h.2
  refine yb_icmp_ge (x := l7) (y := (d 146 (1 : Int))) rfl rfl r1 r2 (fun c => ?_) (fun c => ?_)
  · replace h := h.1 c
    refine yb_iload (x := l1) rfl rfl ?_
    refine yb_push (v := 3) rfl ?_
    have r3 := h.1
    replace h := h.2
    refine yb_icmp_ne (x := l1) (y := (3 : Int)) rfl rfl r3 (by decide) (fun c => ?_) (fun c => ?_)
    · replace h := h.1 c
      refine yb_iload (x := l5) rfl rfl ?_
      exact yb_ret rfl h
    · replace h := h.2 c
      refine yb_push (v := (-3)) rfl ?_
      refine yb_goto rfl rfl ?_
      exact yb_ret rfl h
  · replace h := h.2 c
    refine yb_iload (x := l1) rfl rfl ?_
    have r4 := h.1
    replace h := h.2
    refine yb_if_ne (x := l1) rfl rfl r4 (fun c => ?_) (fun c => ?_)
    · replace h := h.1 c
      refine yb_iload (x := l1) rfl rfl ?_
      refine yb_push (v := 1) rfl ?_
      refine yb_icmp_ne (x := l1) (y := (1 : Int)) rfl rfl r4 (by decide) (fun c => ?_) (fun c => ?_)
      · replace h := h.1 c
        refine yb_iload (x := l6) rfl rfl ?_
        refine yb_istore rfl rfl rfl ?_
        refine yb_aload rfl rfl ?_
        refine yb_get (v := .ref 147) rfl (by decide) (by decide) (rfl) rfl ?_
        refine yb_iload (x := l7) rfl rfl ?_
        refine yb_iload (x := l1) rfl rfl ?_
        refine yb_push (v := 3) rfl ?_
        refine yb_icmp_eq (x := l1) (y := (3 : Int)) rfl rfl r4 (by decide) (fun c => ?_) (fun c => ?_)
        · replace h := h.1 c
          refine yb_push (v := 0) rfl ?_
          refine yb_goto rfl rfl ?_
          have r5 := h.1
          replace h := h.2
          refine yb_iast (j := l7) (x := (0 : Int)) rfl xd_A147 (by decide) r5 ?_
          refine yb_iload (x := l5) rfl rfl ?_
          refine yb_aload rfl rfl ?_
          refine yb_get (v := .ref 147) rfl (by decide) (by decide) (rfl) rfl ?_
          refine yb_iload (x := l7) rfl rfl ?_
          refine yb_iald (j := l7) rfl xd_A147 (by decide) r5 (v := (0 : Int)) xs_eq ?_
          refine yb_iadd (x := l5) (y := (0 : Int)) rfl ?_
          refine yb_istore rfl rfl rfl ?_
          refine yb_iload (x := l6) rfl rfl ?_
          refine yb_iload (x := l4) rfl rfl ?_
          refine yb_iadd (x := l6) (y := l4) rfl ?_
          refine yb_istore rfl rfl rfl ?_
          refine yb_iinc (x := l7) (n := 1) rfl rfl rfl rfl ?_
          refine yb_goto rfl rfl ?_
          refine yb_forget (dl := [.ref 146, .int (xJ l1), .int (xJ l2), .double 0, .int (xJ l4), .int (xJ (l5 + (0 : Int))), .int (xJ (l6 + l4)), .int (xJ (l7 + 1)), .double 0]) ⟨Or.inl rfl, ⟨Or.inl rfl, ⟨Or.inl rfl, ⟨Or.inl rfl, ⟨Or.inl rfl, ⟨Or.inl rfl, ⟨Or.inl rfl, ⟨Or.inl rfl, ⟨Or.inr ⟨rfl, rfl⟩, trivial⟩⟩⟩⟩⟩⟩⟩⟩⟩ ?_
          exact h
        · replace h := h.2 c
          refine yb_iload (x := l7) rfl rfl ?_
          refine yb_iload (x := l2) rfl rfl ?_
          have r6 := h.1
          replace h := h.2
          refine yb_icmp_lt (x := l7) (y := l2) rfl rfl r1 r6 (fun c => ?_) (fun c => ?_)
          · replace h := h.1 c
            refine yb_push (v := 0) rfl ?_
            refine yb_push (v := 8) rfl ?_
            refine yb_iload (x := l6) rfl rfl ?_
            have r7 := h.1
            replace h := h.2
            refine yb_callSi (As := [.int (xJ (8 : Int)), .int (xJ l6)]) rfl rfl rfl rfl rfl rfl rfl rfl (by show (3 : Nat) ≤ 8; decide) (sp_5 (by omega) ⟨(by show (-2147483648 ≤ (8 : Int) ∧ (8 : Int) < 2147483648); decide), r7⟩ ?_)
            show yB D xm_c215 _ L 58 [.ref 146, .int (xJ l1), .int (xJ l2), .double 0, .int (xJ l4), .int (xJ l5), .int (xJ l6), .int (xJ l7), .int (xJ l6)] [.int (xJ (min (8 : Int) l6)), .int (xJ (0 : Int)), .int (xJ l7), .ref 147] d e
            have r8 : (-2147483648 ≤ (min (8 : Int) l6) ∧ (min (8 : Int) l6) < 2147483648) := (by omega)
            refine yb_callSi (As := [.int (xJ (0 : Int)), .int (xJ (min (8 : Int) l6))]) rfl rfl rfl rfl rfl rfl rfl rfl (by show (2 : Nat) ≤ 8; decide) (sp_4 (by omega) ⟨(by show (-2147483648 ≤ (0 : Int) ∧ (0 : Int) < 2147483648); decide), r8⟩ ?_)
            show yB D xm_c215 _ L 59 [.ref 146, .int (xJ l1), .int (xJ l2), .double 0, .int (xJ l4), .int (xJ l5), .int (xJ l6), .int (xJ l7), .int (xJ l6)] [.int (xJ (max (0 : Int) (min (8 : Int) l6))), .int (xJ l7), .ref 147] d e
            have r9 := h.1
            replace h := h.2
            refine yb_iast (j := l7) (x := (max (0 : Int) (min (8 : Int) l6))) rfl xd_A147 (by decide) r9 ?_
            refine yb_iload (x := l5) rfl rfl ?_
            refine yb_aload rfl rfl ?_
            refine yb_get (v := .ref 147) rfl (by decide) (by decide) (rfl) rfl ?_
            refine yb_iload (x := l7) rfl rfl ?_
            refine yb_iald (j := l7) rfl xd_A147 (by decide) r9 (v := (max (0 : Int) (min (8 : Int) l6))) xs_eq ?_
            refine yb_iadd (x := l5) (y := (max (0 : Int) (min (8 : Int) l6))) rfl ?_
            replace h := h _ rfl
            refine yb_istore rfl rfl rfl ?_
            refine yb_iload (x := l6) rfl rfl ?_
            refine yb_iload (x := l4) rfl rfl ?_
            refine yb_iadd (x := l6) (y := l4) rfl ?_
            refine yb_istore rfl rfl rfl ?_
            refine yb_iinc (x := l7) (n := 1) rfl rfl rfl rfl ?_
            refine yb_goto rfl rfl ?_
            refine yb_forget (dl := [.ref 146, .int (xJ l1), .int (xJ l2), .double 0, .int (xJ l4), .int (xJ (l5 + (max (0 : Int) (min (8 : Int) l6)))), .int (xJ (l6 + l4)), .int (xJ (l7 + 1)), .double 0]) ⟨Or.inl rfl, ⟨Or.inl rfl, ⟨Or.inl rfl, ⟨Or.inl rfl, ⟨Or.inl rfl, ⟨Or.inl rfl, ⟨Or.inl rfl, ⟨Or.inl rfl, ⟨Or.inr ⟨rfl, rfl⟩, trivial⟩⟩⟩⟩⟩⟩⟩⟩⟩ ?_
            exact h
          · replace h := h.2 c
            refine yb_push (v := 0) rfl ?_
            refine yb_goto rfl rfl ?_
            have r11 := h.1
            replace h := h.2
            refine yb_iast (j := l7) (x := (0 : Int)) rfl xd_A147 (by decide) r11 ?_
            refine yb_iload (x := l5) rfl rfl ?_
            refine yb_aload rfl rfl ?_
            refine yb_get (v := .ref 147) rfl (by decide) (by decide) (rfl) rfl ?_
            refine yb_iload (x := l7) rfl rfl ?_
            refine yb_iald (j := l7) rfl xd_A147 (by decide) r11 (v := (0 : Int)) xs_eq ?_
            refine yb_iadd (x := l5) (y := (0 : Int)) rfl ?_
            refine yb_istore rfl rfl rfl ?_
            refine yb_iload (x := l6) rfl rfl ?_
            refine yb_iload (x := l4) rfl rfl ?_
            refine yb_iadd (x := l6) (y := l4) rfl ?_
            refine yb_istore rfl rfl rfl ?_
            refine yb_iinc (x := l7) (n := 1) rfl rfl rfl rfl ?_
            refine yb_goto rfl rfl ?_
            refine yb_forget (dl := [.ref 146, .int (xJ l1), .int (xJ l2), .double 0, .int (xJ l4), .int (xJ (l5 + (0 : Int))), .int (xJ (l6 + l4)), .int (xJ (l7 + 1)), .double 0]) ⟨Or.inl rfl, ⟨Or.inl rfl, ⟨Or.inl rfl, ⟨Or.inl rfl, ⟨Or.inl rfl, ⟨Or.inl rfl, ⟨Or.inl rfl, ⟨Or.inl rfl, ⟨Or.inr ⟨rfl, rfl⟩, trivial⟩⟩⟩⟩⟩⟩⟩⟩⟩ ?_
            exact h
      · replace h := h.2 c
        refine yb_iload (x := l6) rfl rfl ?_
        refine yb_i2s (x := l6) rfl ?_
        refine yb_goto rfl rfl ?_
        refine yb_istore rfl rfl rfl ?_
        refine yb_aload rfl rfl ?_
        refine yb_get (v := .ref 147) rfl (by decide) (by decide) (rfl) rfl ?_
        refine yb_iload (x := l7) rfl rfl ?_
        refine yb_iload (x := l1) rfl rfl ?_
        refine yb_push (v := 3) rfl ?_
        refine yb_icmp_eq (x := l1) (y := (3 : Int)) rfl rfl r4 (by decide) (fun c => ?_) (fun c => ?_)
        · replace h := h.1 c
          refine yb_push (v := 0) rfl ?_
          refine yb_goto rfl rfl ?_
          have r12 := h.1
          replace h := h.2
          refine yb_iast (j := l7) (x := (0 : Int)) rfl xd_A147 (by decide) r12 ?_
          refine yb_iload (x := l5) rfl rfl ?_
          refine yb_aload rfl rfl ?_
          refine yb_get (v := .ref 147) rfl (by decide) (by decide) (rfl) rfl ?_
          refine yb_iload (x := l7) rfl rfl ?_
          refine yb_iald (j := l7) rfl xd_A147 (by decide) r12 (v := (0 : Int)) xs_eq ?_
          refine yb_iadd (x := l5) (y := (0 : Int)) rfl ?_
          refine yb_istore rfl rfl rfl ?_
          refine yb_iload (x := l6) rfl rfl ?_
          refine yb_iload (x := l4) rfl rfl ?_
          refine yb_iadd (x := l6) (y := l4) rfl ?_
          refine yb_istore rfl rfl rfl ?_
          refine yb_iinc (x := l7) (n := 1) rfl rfl rfl rfl ?_
          refine yb_goto rfl rfl ?_
          refine yb_forget (dl := [.ref 146, .int (xJ l1), .int (xJ l2), .double 0, .int (xJ l4), .int (xJ (l5 + (0 : Int))), .int (xJ (l6 + l4)), .int (xJ (l7 + 1)), .double 0]) ⟨Or.inl rfl, ⟨Or.inl rfl, ⟨Or.inl rfl, ⟨Or.inl rfl, ⟨Or.inl rfl, ⟨Or.inl rfl, ⟨Or.inl rfl, ⟨Or.inl rfl, ⟨Or.inr ⟨rfl, rfl⟩, trivial⟩⟩⟩⟩⟩⟩⟩⟩⟩ ?_
          exact h
        · replace h := h.2 c
          refine yb_iload (x := l7) rfl rfl ?_
          refine yb_iload (x := l2) rfl rfl ?_
          have r13 := h.1
          replace h := h.2
          refine yb_icmp_lt (x := l7) (y := l2) rfl rfl r1 r13 (fun c => ?_) (fun c => ?_)
          · replace h := h.1 c
            refine yb_push (v := 0) rfl ?_
            refine yb_push (v := 8) rfl ?_
            refine yb_iload (x := (xi_i16 l6)) rfl rfl ?_
            have r14 : (-2147483648 ≤ (xi_i16 l6) ∧ (xi_i16 l6) < 2147483648) := (xJ_rng _)
            refine yb_callSi (As := [.int (xJ (8 : Int)), .int (xJ (xi_i16 l6))]) rfl rfl rfl rfl rfl rfl rfl rfl (by show (3 : Nat) ≤ 8; decide) (sp_5 (by omega) ⟨(by show (-2147483648 ≤ (8 : Int) ∧ (8 : Int) < 2147483648); decide), r14⟩ ?_)
            show yB D xm_c215 _ L 58 [.ref 146, .int (xJ l1), .int (xJ l2), .double 0, .int (xJ l4), .int (xJ l5), .int (xJ l6), .int (xJ l7), .int (xJ (xi_i16 l6))] [.int (xJ (min (8 : Int) (xi_i16 l6))), .int (xJ (0 : Int)), .int (xJ l7), .ref 147] d e
            have r15 : (-2147483648 ≤ (min (8 : Int) (xi_i16 l6)) ∧ (min (8 : Int) (xi_i16 l6)) < 2147483648) := (by omega)
            refine yb_callSi (As := [.int (xJ (0 : Int)), .int (xJ (min (8 : Int) (xi_i16 l6)))]) rfl rfl rfl rfl rfl rfl rfl rfl (by show (2 : Nat) ≤ 8; decide) (sp_4 (by omega) ⟨(by show (-2147483648 ≤ (0 : Int) ∧ (0 : Int) < 2147483648); decide), r15⟩ ?_)
            show yB D xm_c215 _ L 59 [.ref 146, .int (xJ l1), .int (xJ l2), .double 0, .int (xJ l4), .int (xJ l5), .int (xJ l6), .int (xJ l7), .int (xJ (xi_i16 l6))] [.int (xJ (max (0 : Int) (min (8 : Int) (xi_i16 l6)))), .int (xJ l7), .ref 147] d e
            have r16 := h.1
            replace h := h.2
            refine yb_iast (j := l7) (x := (max (0 : Int) (min (8 : Int) (xi_i16 l6)))) rfl xd_A147 (by decide) r16 ?_
            refine yb_iload (x := l5) rfl rfl ?_
            refine yb_aload rfl rfl ?_
            refine yb_get (v := .ref 147) rfl (by decide) (by decide) (rfl) rfl ?_
            refine yb_iload (x := l7) rfl rfl ?_
            refine yb_iald (j := l7) rfl xd_A147 (by decide) r16 (v := (max (0 : Int) (min (8 : Int) (xi_i16 l6)))) xs_eq ?_
            refine yb_iadd (x := l5) (y := (max (0 : Int) (min (8 : Int) (xi_i16 l6)))) rfl ?_
            replace h := h _ rfl
            refine yb_istore rfl rfl rfl ?_
            refine yb_iload (x := l6) rfl rfl ?_
            refine yb_iload (x := l4) rfl rfl ?_
            refine yb_iadd (x := l6) (y := l4) rfl ?_
            refine yb_istore rfl rfl rfl ?_
            refine yb_iinc (x := l7) (n := 1) rfl rfl rfl rfl ?_
            refine yb_goto rfl rfl ?_
            refine yb_forget (dl := [.ref 146, .int (xJ l1), .int (xJ l2), .double 0, .int (xJ l4), .int (xJ (l5 + (max (0 : Int) (min (8 : Int) (xi_i16 l6))))), .int (xJ (l6 + l4)), .int (xJ (l7 + 1)), .double 0]) ⟨Or.inl rfl, ⟨Or.inl rfl, ⟨Or.inl rfl, ⟨Or.inl rfl, ⟨Or.inl rfl, ⟨Or.inl rfl, ⟨Or.inl rfl, ⟨Or.inl rfl, ⟨Or.inr ⟨rfl, rfl⟩, trivial⟩⟩⟩⟩⟩⟩⟩⟩⟩ ?_
            exact h
          · replace h := h.2 c
            refine yb_push (v := 0) rfl ?_
            refine yb_goto rfl rfl ?_
            have r18 := h.1
            replace h := h.2
            refine yb_iast (j := l7) (x := (0 : Int)) rfl xd_A147 (by decide) r18 ?_
            refine yb_iload (x := l5) rfl rfl ?_
            refine yb_aload rfl rfl ?_
            refine yb_get (v := .ref 147) rfl (by decide) (by decide) (rfl) rfl ?_
            refine yb_iload (x := l7) rfl rfl ?_
            refine yb_iald (j := l7) rfl xd_A147 (by decide) r18 (v := (0 : Int)) xs_eq ?_
            refine yb_iadd (x := l5) (y := (0 : Int)) rfl ?_
            refine yb_istore rfl rfl rfl ?_
            refine yb_iload (x := l6) rfl rfl ?_
            refine yb_iload (x := l4) rfl rfl ?_
            refine yb_iadd (x := l6) (y := l4) rfl ?_
            refine yb_istore rfl rfl rfl ?_
            refine yb_iinc (x := l7) (n := 1) rfl rfl rfl rfl ?_
            refine yb_goto rfl rfl ?_
            refine yb_forget (dl := [.ref 146, .int (xJ l1), .int (xJ l2), .double 0, .int (xJ l4), .int (xJ (l5 + (0 : Int))), .int (xJ (l6 + l4)), .int (xJ (l7 + 1)), .double 0]) ⟨Or.inl rfl, ⟨Or.inl rfl, ⟨Or.inl rfl, ⟨Or.inl rfl, ⟨Or.inl rfl, ⟨Or.inl rfl, ⟨Or.inl rfl, ⟨Or.inl rfl, ⟨Or.inr ⟨rfl, rfl⟩, trivial⟩⟩⟩⟩⟩⟩⟩⟩⟩ ?_
            exact h
    · replace h := h.2 c
      refine yb_iload (x := l6) rfl rfl ?_
      refine yb_i2b (x := l6) rfl ?_
      refine yb_goto rfl rfl ?_
      refine yb_istore rfl rfl rfl ?_
      refine yb_aload rfl rfl ?_
      refine yb_get (v := .ref 147) rfl (by decide) (by decide) (rfl) rfl ?_
      refine yb_iload (x := l7) rfl rfl ?_
      refine yb_iload (x := l1) rfl rfl ?_
      refine yb_push (v := 3) rfl ?_
      refine yb_icmp_eq (x := l1) (y := (3 : Int)) rfl rfl r4 (by decide) (fun c => ?_) (fun c => ?_)
      · replace h := h.1 c
        refine yb_push (v := 0) rfl ?_
        refine yb_goto rfl rfl ?_
        have r19 := h.1
        replace h := h.2
        refine yb_iast (j := l7) (x := (0 : Int)) rfl xd_A147 (by decide) r19 ?_
        refine yb_iload (x := l5) rfl rfl ?_
        refine yb_aload rfl rfl ?_
        refine yb_get (v := .ref 147) rfl (by decide) (by decide) (rfl) rfl ?_
        refine yb_iload (x := l7) rfl rfl ?_
        refine yb_iald (j := l7) rfl xd_A147 (by decide) r19 (v := (0 : Int)) xs_eq ?_
        refine yb_iadd (x := l5) (y := (0 : Int)) rfl ?_
        refine yb_istore rfl rfl rfl ?_
        refine yb_iload (x := l6) rfl rfl ?_
        refine yb_iload (x := l4) rfl rfl ?_
        refine yb_iadd (x := l6) (y := l4) rfl ?_
        refine yb_istore rfl rfl rfl ?_
        refine yb_iinc (x := l7) (n := 1) rfl rfl rfl rfl ?_
        refine yb_goto rfl rfl ?_
        refine yb_forget (dl := [.ref 146, .int (xJ l1), .int (xJ l2), .double 0, .int (xJ l4), .int (xJ (l5 + (0 : Int))), .int (xJ (l6 + l4)), .int (xJ (l7 + 1)), .double 0]) ⟨Or.inl rfl, ⟨Or.inl rfl, ⟨Or.inl rfl, ⟨Or.inl rfl, ⟨Or.inl rfl, ⟨Or.inl rfl, ⟨Or.inl rfl, ⟨Or.inl rfl, ⟨Or.inr ⟨rfl, rfl⟩, trivial⟩⟩⟩⟩⟩⟩⟩⟩⟩ ?_
        exact h
      · replace h := h.2 c
        refine yb_iload (x := l7) rfl rfl ?_
        refine yb_iload (x := l2) rfl rfl ?_
        have r20 := h.1
        replace h := h.2
        refine yb_icmp_lt (x := l7) (y := l2) rfl rfl r1 r20 (fun c => ?_) (fun c => ?_)
        · replace h := h.1 c
          refine yb_push (v := 0) rfl ?_
          refine yb_push (v := 8) rfl ?_
          refine yb_iload (x := (xi_i8 l6)) rfl rfl ?_
          have r21 : (-2147483648 ≤ (xi_i8 l6) ∧ (xi_i8 l6) < 2147483648) := (xJ_rng _)
          refine yb_callSi (As := [.int (xJ (8 : Int)), .int (xJ (xi_i8 l6))]) rfl rfl rfl rfl rfl rfl rfl rfl (by show (3 : Nat) ≤ 8; decide) (sp_5 (by omega) ⟨(by show (-2147483648 ≤ (8 : Int) ∧ (8 : Int) < 2147483648); decide), r21⟩ ?_)
          show yB D xm_c215 _ L 58 [.ref 146, .int (xJ l1), .int (xJ l2), .double 0, .int (xJ l4), .int (xJ l5), .int (xJ l6), .int (xJ l7), .int (xJ (xi_i8 l6))] [.int (xJ (min (8 : Int) (xi_i8 l6))), .int (xJ (0 : Int)), .int (xJ l7), .ref 147] d e
          have r22 : (-2147483648 ≤ (min (8 : Int) (xi_i8 l6)) ∧ (min (8 : Int) (xi_i8 l6)) < 2147483648) := (by omega)
          refine yb_callSi (As := [.int (xJ (0 : Int)), .int (xJ (min (8 : Int) (xi_i8 l6)))]) rfl rfl rfl rfl rfl rfl rfl rfl (by show (2 : Nat) ≤ 8; decide) (sp_4 (by omega) ⟨(by show (-2147483648 ≤ (0 : Int) ∧ (0 : Int) < 2147483648); decide), r22⟩ ?_)
          show yB D xm_c215 _ L 59 [.ref 146, .int (xJ l1), .int (xJ l2), .double 0, .int (xJ l4), .int (xJ l5), .int (xJ l6), .int (xJ l7), .int (xJ (xi_i8 l6))] [.int (xJ (max (0 : Int) (min (8 : Int) (xi_i8 l6)))), .int (xJ l7), .ref 147] d e
          have r23 := h.1
          replace h := h.2
          refine yb_iast (j := l7) (x := (max (0 : Int) (min (8 : Int) (xi_i8 l6)))) rfl xd_A147 (by decide) r23 ?_
          refine yb_iload (x := l5) rfl rfl ?_
          refine yb_aload rfl rfl ?_
          refine yb_get (v := .ref 147) rfl (by decide) (by decide) (rfl) rfl ?_
          refine yb_iload (x := l7) rfl rfl ?_
          refine yb_iald (j := l7) rfl xd_A147 (by decide) r23 (v := (max (0 : Int) (min (8 : Int) (xi_i8 l6)))) xs_eq ?_
          refine yb_iadd (x := l5) (y := (max (0 : Int) (min (8 : Int) (xi_i8 l6)))) rfl ?_
          replace h := h _ rfl
          refine yb_istore rfl rfl rfl ?_
          refine yb_iload (x := l6) rfl rfl ?_
          refine yb_iload (x := l4) rfl rfl ?_
          refine yb_iadd (x := l6) (y := l4) rfl ?_
          refine yb_istore rfl rfl rfl ?_
          refine yb_iinc (x := l7) (n := 1) rfl rfl rfl rfl ?_
          refine yb_goto rfl rfl ?_
          refine yb_forget (dl := [.ref 146, .int (xJ l1), .int (xJ l2), .double 0, .int (xJ l4), .int (xJ (l5 + (max (0 : Int) (min (8 : Int) (xi_i8 l6))))), .int (xJ (l6 + l4)), .int (xJ (l7 + 1)), .double 0]) ⟨Or.inl rfl, ⟨Or.inl rfl, ⟨Or.inl rfl, ⟨Or.inl rfl, ⟨Or.inl rfl, ⟨Or.inl rfl, ⟨Or.inl rfl, ⟨Or.inl rfl, ⟨Or.inr ⟨rfl, rfl⟩, trivial⟩⟩⟩⟩⟩⟩⟩⟩⟩ ?_
          exact h
        · replace h := h.2 c
          refine yb_push (v := 0) rfl ?_
          refine yb_goto rfl rfl ?_
          have r25 := h.1
          replace h := h.2
          refine yb_iast (j := l7) (x := (0 : Int)) rfl xd_A147 (by decide) r25 ?_
          refine yb_iload (x := l5) rfl rfl ?_
          refine yb_aload rfl rfl ?_
          refine yb_get (v := .ref 147) rfl (by decide) (by decide) (rfl) rfl ?_
          refine yb_iload (x := l7) rfl rfl ?_
          refine yb_iald (j := l7) rfl xd_A147 (by decide) r25 (v := (0 : Int)) xs_eq ?_
          refine yb_iadd (x := l5) (y := (0 : Int)) rfl ?_
          refine yb_istore rfl rfl rfl ?_
          refine yb_iload (x := l6) rfl rfl ?_
          refine yb_iload (x := l4) rfl rfl ?_
          refine yb_iadd (x := l6) (y := l4) rfl ?_
          refine yb_istore rfl rfl rfl ?_
          refine yb_iinc (x := l7) (n := 1) rfl rfl rfl rfl ?_
          refine yb_goto rfl rfl ?_
          refine yb_forget (dl := [.ref 146, .int (xJ l1), .int (xJ l2), .double 0, .int (xJ l4), .int (xJ (l5 + (0 : Int))), .int (xJ (l6 + l4)), .int (xJ (l7 + 1)), .double 0]) ⟨Or.inl rfl, ⟨Or.inl rfl, ⟨Or.inl rfl, ⟨Or.inl rfl, ⟨Or.inl rfl, ⟨Or.inl rfl, ⟨Or.inl rfl, ⟨Or.inl rfl, ⟨Or.inr ⟨rfl, rfl⟩, trivial⟩⟩⟩⟩⟩⟩⟩⟩⟩ ?_
          exact h
theorem yk_216_0 {D L : Nat} {P : Int → xh_D → xd_E → Prop} {d : xh_D} {e : xd_E} {a1 : Int} {a2 : Int}   (hD : 3 ≤ D) (h : ((-2147483648 ≤ a1 ∧ a1 < 2147483648) ∧ ((-2147483648 ≤ a2 ∧ a2 < 2147483648) ∧ ((0 ≤ (d 146 (1 : Int)) ∧ (d 146 (1 : Int)) ≤ 9) ∧ ((((0 ≤ a1 ∧ a1 < (d 146 (1 : Int))) ∧ (0 ≤ a2 ∧ a2 < (d 146 (1 : Int))) ∧ ¬ a1 = a2) → yC D 210 L [.ref 146, .ref 147, .int (xJ a1), .int (xJ a2), .int (xJ (d 147 (81 : Int)))] (xs d 146 (8 : Int) (0 : Int)) e (fun x4 d5 e6 => P x4 d5 e6)) ∧ (¬ ((0 ≤ a1 ∧ a1 < (d 146 (1 : Int))) ∧ (0 ≤ a2 ∧ a2 < (d 146 (1 : Int))) ∧ ¬ a1 = a2) → P (0 : Int) (xs (xs d 146 (8 : Int) (0 : Int)) 146 (8 : Int) (1 : Int)) e)))))) : yB D xm_c216 (yQi L P) L 0 [.ref 146, .int (xJ a1), .int (xJ a2)] [] d e := by
  refine yb_aload rfl rfl ?_
  refine yb_push (v := 0) rfl ?_
  refine yb_put (z := (0 : Int)) (k := 8) rfl rfl (by decide) (by decide) (rfl) (Nat.le_of_ble_eq_true rfl) rfl (rfl) ?_
  refine yb_aload rfl rfl ?_
  refine yb_iload (x := a1) rfl rfl ?_
  refine yb_iload (x := a2) rfl rfl ?_
  have r1 := h.1
  replace h := h.2
  have r2 := h.1
  replace h := h.2
  have r3 := h.1
  replace h := h.2
  refine yb_callVz (As := [.int (xJ a1), .int (xJ a2)]) (a := 146) rfl rfl rfl rfl rfl rfl rfl rfl (by decide) (by decide) (rfl) (by decide) (sp_185 (by omega) ⟨r1, r2, r3⟩ (fun c => ?_) (fun c => ?_))
  · replace h := h.1 c
    show yB D xm_c216 _ L 7 [.ref 146, .int (xJ a1), .int (xJ a2)] [.int (xJ (1 : Int))] (xs d 146 (8 : Int) (0 : Int)) e
    refine yb_if_eq (x := (1 : Int)) rfl rfl (by decide) (fun c => absurd c (by decide)) (fun _ => ?_)
    refine yb_aload rfl rfl ?_
    refine yb_aload rfl rfl ?_
    refine yb_get (v := .ref 147) rfl (by decide) (by decide) (rfl) rfl ?_
    refine yb_iload (x := a1) rfl rfl ?_
    refine yb_iload (x := a2) rfl rfl ?_
    refine yb_aload rfl rfl ?_
    refine yb_get (v := .ref 147) rfl (by decide) (by decide) (rfl) rfl ?_
    refine yb_push (v := 81) rfl ?_
    refine yb_iald (j := (81 : Int)) rfl xd_A147 (by decide) (by decide) (v := (d 147 (81 : Int))) (xs_np (by decide)) ?_
    refine yb_callVi (As := [.ref 147, .int (xJ a1), .int (xJ a2), .int (xJ (d 147 (81 : Int)))]) (a := 146) rfl rfl rfl rfl rfl rfl rfl rfl (by decide) (by decide) (rfl) (by decide) (yC_mono h (fun x4 d5 e6 h => ?_))
    refine yb_goto rfl rfl ?_
    exact yb_ret rfl h
  · replace h := h.2 c
    show yB D xm_c216 _ L 7 [.ref 146, .int (xJ a1), .int (xJ a2)] [.int (xJ (0 : Int))] (xs d 146 (8 : Int) (0 : Int)) e
    refine yb_if_eq (x := (0 : Int)) rfl rfl (by decide) (fun _ => ?_) (fun c => absurd (by decide) c)
    refine yb_aload rfl rfl ?_
    refine yb_callVi (As := []) (a := 146) rfl rfl rfl rfl rfl rfl rfl rfl (by decide) (by decide) (rfl) (by decide) (sp_182 (by omega) ?_)
    show yB D xm_c216 _ L 21 [.ref 146, .int (xJ a1), .int (xJ a2)] [.int (xJ (0 : Int))] (xs (xs d 146 (8 : Int) (0 : Int)) 146 (8 : Int) (1 : Int)) e
    exact yb_ret rfl h
theorem yk_217_147_0 {D L : Nat} {P : Int → xh_D → xd_E → Prop} {d : xh_D} {e : xd_E} {a2 : Int}   (h : yB D xm_c217 (yQi L P) L 4 [.ref 146, .ref 147, .int (xJ a2), .int (xJ (0 : Int)), .int (xJ (0 : Int))] [] d e) : yB D xm_c217 (yQi L P) L 0 [.ref 146, .ref 147, .int (xJ a2), .double 0, .double 0] [] d e := by
  refine yb_push (v := 0) rfl ?_
  refine yb_istore rfl rfl rfl ?_
  refine yb_push (v := 0) rfl ?_
  refine yb_istore rfl rfl rfl ?_
  exact h
theorem yk_217_147_4 {D L : Nat} {P : Int → xh_D → xd_E → Prop} {d : xh_D} {e : xd_E}  {l2 : Int} {l3 : Int} {l4 : Int}  (h : ((-2147483648 ≤ l4 ∧ l4 < 2147483648) ∧ ((-2147483648 ≤ (d 146 (1 : Int)) ∧ (d 146 (1 : Int)) < 2147483648) ∧ ((((d 146 (1 : Int)) ≤ l4) → P l3 d e) ∧ ((¬ (d 146 (1 : Int)) ≤ l4) → ((0 ≤ l4 ∧ l4 < 353) ∧ ((0 ≤ l2 ∧ l2 < 2147483648) ∧ ((-2147483648 ≤ (d 147 l4) ∧ (d 147 l4) < 2147483648) ∧ (((¬ (d 147 l4) = (l2 % (9 : Int))) → yB D xm_c217 (yQi L P) L 4 [.ref 146, .ref 147, .int (xJ l2), .int (xJ (xi_or l3 (0 : Int))), .int (xJ (l4 + 1))] [] d e) ∧ (((d 147 l4) = (l2 % (9 : Int))) → yB D xm_c217 (yQi L P) L 4 [.ref 146, .ref 147, .int (xJ l2), .int (xJ (xi_or l3 (xi_shl (1 : Int) l4))), .int (xJ (l4 + 1))] [] d e)))))))))) : yB D xm_c217 (yQi L P) L 4 [.ref 146, .ref 147, .int (xJ l2), .int (xJ l3), .int (xJ l4)] [] d e := by
  refine yb_iload (x := l4) rfl rfl ?_
  refine yb_aload rfl rfl ?_
  refine yb_get (v := .int (xJ (d 146 (1 : Int)))) rfl (by decide) (by decide) (rfl) rfl ?_
  have r1 := h.1
  replace h := h.2
  have r2 := h.1
  replace h := h.2
  refine yb_icmp_ge (x := l4) (y := (d 146 (1 : Int))) rfl rfl r1 r2 (fun c => ?_) (fun c => ?_)
  · replace h := h.1 c
    refine yb_iload (x := l3) rfl rfl ?_
    exact yb_ret rfl h
  · replace h := h.2 c
    refine yb_iload (x := l3) rfl rfl ?_
    refine yb_aload rfl rfl ?_
    refine yb_iload (x := l4) rfl rfl ?_
    have r3 := h.1
    replace h := h.2
    refine yb_iald (j := l4) rfl xd_A147 (by decide) r3 (v := (d 147 l4)) rfl ?_
    refine yb_iload (x := l2) rfl rfl ?_
    refine yb_push (v := 9) rfl ?_
    have r4 := h.1
    replace h := h.2
    refine yb_irem (x := l2) (y := (9 : Int)) rfl r4 (by decide) ?_
    have r5 := h.1
    replace h := h.2
    refine yb_icmp_ne (x := (d 147 l4)) (y := (l2 % (9 : Int))) rfl rfl r5 (by omega) (fun c => ?_) (fun c => ?_)
    · replace h := h.1 c
      refine yb_push (v := 0) rfl ?_
      refine yb_ior (x := l3) (y := (0 : Int)) rfl ?_
      refine yb_istore rfl rfl rfl ?_
      refine yb_iinc (x := l4) (n := 1) rfl rfl rfl rfl ?_
      refine yb_goto rfl rfl ?_
      exact h
    · replace h := h.2 c
      refine yb_push (v := 1) rfl ?_
      refine yb_iload (x := l4) rfl rfl ?_
      refine yb_ishl (x := (1 : Int)) (y := l4) rfl ?_
      refine yb_goto rfl rfl ?_
      refine yb_ior (x := l3) (y := (xi_shl (1 : Int) l4)) rfl ?_
      refine yb_istore rfl rfl rfl ?_
      refine yb_iinc (x := l4) (n := 1) rfl rfl rfl rfl ?_
      refine yb_goto rfl rfl ?_
      exact h
theorem yk_217_162_0 {D L : Nat} {P : Int → xh_D → xd_E → Prop} {d : xh_D} {e : xd_E} {a2 : Int}   (h : yB D xm_c217 (yQi L P) L 4 [.ref 146, .ref 162, .int (xJ a2), .int (xJ (0 : Int)), .int (xJ (0 : Int))] [] d e) : yB D xm_c217 (yQi L P) L 0 [.ref 146, .ref 162, .int (xJ a2), .double 0, .double 0] [] d e := by
  refine yb_push (v := 0) rfl ?_
  refine yb_istore rfl rfl rfl ?_
  refine yb_push (v := 0) rfl ?_
  refine yb_istore rfl rfl rfl ?_
  exact h
theorem yk_217_162_4 {D L : Nat} {P : Int → xh_D → xd_E → Prop} {d : xh_D} {e : xd_E}  {l2 : Int} {l3 : Int} {l4 : Int}  (h : ((-2147483648 ≤ l4 ∧ l4 < 2147483648) ∧ ((-2147483648 ≤ (d 146 (1 : Int)) ∧ (d 146 (1 : Int)) < 2147483648) ∧ ((((d 146 (1 : Int)) ≤ l4) → P l3 d e) ∧ ((¬ (d 146 (1 : Int)) ≤ l4) → ((0 ≤ l4 ∧ l4 < 353) ∧ ((0 ≤ l2 ∧ l2 < 2147483648) ∧ ((-2147483648 ≤ (d 162 l4) ∧ (d 162 l4) < 2147483648) ∧ (((¬ (d 162 l4) = (l2 % (9 : Int))) → yB D xm_c217 (yQi L P) L 4 [.ref 146, .ref 162, .int (xJ l2), .int (xJ (xi_or l3 (0 : Int))), .int (xJ (l4 + 1))] [] d e) ∧ (((d 162 l4) = (l2 % (9 : Int))) → yB D xm_c217 (yQi L P) L 4 [.ref 146, .ref 162, .int (xJ l2), .int (xJ (xi_or l3 (xi_shl (1 : Int) l4))), .int (xJ (l4 + 1))] [] d e)))))))))) : yB D xm_c217 (yQi L P) L 4 [.ref 146, .ref 162, .int (xJ l2), .int (xJ l3), .int (xJ l4)] [] d e := by
  refine yb_iload (x := l4) rfl rfl ?_
  refine yb_aload rfl rfl ?_
  refine yb_get (v := .int (xJ (d 146 (1 : Int)))) rfl (by decide) (by decide) (rfl) rfl ?_
  have r1 := h.1
  replace h := h.2
  have r2 := h.1
  replace h := h.2
  refine yb_icmp_ge (x := l4) (y := (d 146 (1 : Int))) rfl rfl r1 r2 (fun c => ?_) (fun c => ?_)
  · replace h := h.1 c
    refine yb_iload (x := l3) rfl rfl ?_
    exact yb_ret rfl h
  · replace h := h.2 c
    refine yb_iload (x := l3) rfl rfl ?_
    refine yb_aload rfl rfl ?_
    refine yb_iload (x := l4) rfl rfl ?_
    have r3 := h.1
    replace h := h.2
    refine yb_iald (j := l4) rfl xd_A162 (by decide) r3 (v := (d 162 l4)) rfl ?_
    refine yb_iload (x := l2) rfl rfl ?_
    refine yb_push (v := 9) rfl ?_
    have r4 := h.1
    replace h := h.2
    refine yb_irem (x := l2) (y := (9 : Int)) rfl r4 (by decide) ?_
    have r5 := h.1
    replace h := h.2
    refine yb_icmp_ne (x := (d 162 l4)) (y := (l2 % (9 : Int))) rfl rfl r5 (by omega) (fun c => ?_) (fun c => ?_)
    · replace h := h.1 c
      refine yb_push (v := 0) rfl ?_
      refine yb_ior (x := l3) (y := (0 : Int)) rfl ?_
      refine yb_istore rfl rfl rfl ?_
      refine yb_iinc (x := l4) (n := 1) rfl rfl rfl rfl ?_
      refine yb_goto rfl rfl ?_
      exact h
    · replace h := h.2 c
      refine yb_push (v := 1) rfl ?_
      refine yb_iload (x := l4) rfl rfl ?_
      refine yb_ishl (x := (1 : Int)) (y := l4) rfl ?_
      refine yb_goto rfl rfl ?_
      refine yb_ior (x := l3) (y := (xi_shl (1 : Int) l4)) rfl ?_
      refine yb_istore rfl rfl rfl ?_
      refine yb_iinc (x := l4) (n := 1) rfl rfl rfl rfl ?_
      refine yb_goto rfl rfl ?_
      exact h
theorem yk_218_147_0 {D L : Nat} {P : xh_D → xd_E → Prop} {d : xh_D} {e : xd_E} {a2 : Int} {a3 : Int} {a4 : Int}   (h : ((-2147483648 ≤ a3 ∧ a3 < 2147483648) ∧ ((-2147483648 ≤ (d 146 (26 : Int)) ∧ (d 146 (26 : Int)) < 2147483648) ∧ ((((d 146 (26 : Int)) < a3) → P d e) ∧ ((¬ (d 146 (26 : Int)) < a3) → (((¬ a3 = (d 146 (26 : Int))) → yB D xm_c218 (yQv L P) L 13 [.ref 146, .ref 147, .int (xJ a2), .int (xJ a3), .int (xJ a4), .double 0] [] d e) ∧ ((a3 = (d 146 (26 : Int))) → ((-2147483648 ≤ a4 ∧ a4 < 2147483648) ∧ ((-2147483648 ≤ (d 146 (27 : Int)) ∧ (d 146 (27 : Int)) < 2147483648) ∧ (((a4 ≤ (d 146 (27 : Int))) → yB D xm_c218 (yQv L P) L 13 [.ref 146, .ref 147, .int (xJ a2), .int (xJ a3), .int (xJ a4), .double 0] [] d e) ∧ ((¬ a4 ≤ (d 146 (27 : Int))) → P d e))))))))))) : yB D xm_c218 (yQv L P) L 0 [.ref 146, .ref 147, .int (xJ a2), .int (xJ a3), .int (xJ a4), .double 0] [] d e := by
  refine yb_iload (x := a3) rfl rfl ?_
  refine yb_aload rfl rfl ?_
  refine yb_get (v := .int (xJ (d 146 (26 : Int)))) rfl (by decide) (by decide) (rfl) rfl ?_
  have r1 := h.1
  replace h := h.2
  have r2 := h.1
  replace h := h.2
  refine yb_icmp_gt (x := a3) (y := (d 146 (26 : Int))) rfl rfl r1 r2 (fun c => ?_) (fun c => ?_)
  · replace h := h.1 c
    exact yb_retv rfl h
  · replace h := h.2 c
    refine yb_iload (x := a3) rfl rfl ?_
    refine yb_aload rfl rfl ?_
    refine yb_get (v := .int (xJ (d 146 (26 : Int)))) rfl (by decide) (by decide) (rfl) rfl ?_
    refine yb_icmp_ne (x := a3) (y := (d 146 (26 : Int))) rfl rfl r1 r2 (fun c => ?_) (fun c => ?_)
    · replace h := h.1 c
      exact h
    · replace h := h.2 c
      refine yb_iload (x := a4) rfl rfl ?_
      refine yb_aload rfl rfl ?_
      refine yb_get (v := .int (xJ (d 146 (27 : Int)))) rfl (by decide) (by decide) (rfl) rfl ?_
      have r3 := h.1
      replace h := h.2
      have r4 := h.1
      replace h := h.2
      refine yb_icmp_le (x := a4) (y := (d 146 (27 : Int))) rfl rfl r3 r4 (fun c => ?_) (fun c => ?_)
      · replace h := h.1 c
        exact h
      · replace h := h.2 c
        exact yb_retv rfl h
theorem yk_218_147_13 {D L : Nat} {P : xh_D → xd_E → Prop} {d : xh_D} {e : xd_E}  {l2 : Int} {l3 : Int} {l4 : Int}  (hD : 1 ≤ D) (h : ((-2147483648 ≤ l2 ∧ l2 < 2147483648) ∧ ((-2147483648 ≤ (d 146 (1 : Int)) ∧ (d 146 (1 : Int)) < 2147483648) ∧ (((¬ l2 = (d 146 (1 : Int))) → (((xi_and (xi_shr (d 146 (25 : Int)) l2) (1 : Int) = 1) → yB D xm_c218 (yQv L P) L 70 [.ref 146, .ref 147, .int (xJ l2), .int (xJ l3), .int (xJ l4), .int (xJ (0 : Int))] [] d e) ∧ (¬ (xi_and (xi_shr (d 146 (25 : Int)) l2) (1 : Int) = 1) → ((0 ≤ l2 ∧ l2 < 9) ∧ yV D 218 L [.ref 146, .ref 147, .int (xJ (l2 + (1 : Int))), .int (xJ l3), .int (xJ l4)] (xs d 154 l2 (10 : Int)) e (fun d4 e5 => P d4 e5))))) ∧ ((l2 = (d 146 (1 : Int))) → ((-2147483648 ≤ l3 ∧ l3 < 2147483648) ∧ ((-2147483648 ≤ (d 146 (26 : Int)) ∧ (d 146 (26 : Int)) < 2147483648) ∧ (((¬ l3 = (d 146 (26 : Int))) → yB D xm_c218 (yQv L P) L 34 [.ref 146, .double 0, .double 0, .double 0, .double 0, .int (xJ (0 : Int))] [] (xs (xs d 146 (26 : Int) l3) 146 (27 : Int) l4) e) ∧ ((l3 = (d 146 (26 : Int))) → ((-2147483648 ≤ l4 ∧ l4 < 2147483648) ∧ ((-2147483648 ≤ (d 146 (27 : Int)) ∧ (d 146 (27 : Int)) < 2147483648) ∧ (((l4 < (d 146 (27 : Int))) → yB D xm_c218 (yQv L P) L 34 [.ref 146, .double 0, .double 0, .double 0, .double 0, .int (xJ (0 : Int))] [] (xs (xs d 146 (26 : Int) l3) 146 (27 : Int) l4) e) ∧ ((¬ l4 < (d 146 (27 : Int))) → P d e))))))))))))) : yB D xm_c218 (yQv L P) L 13 [.ref 146, .ref 147, .int (xJ l2), .int (xJ l3), .int (xJ l4), .double 0] [] d e := by
  refine yb_iload (x := l2) rfl rfl ?_
  refine yb_aload rfl rfl ?_
  refine yb_get (v := .int (xJ (d 146 (1 : Int)))) rfl (by decide) (by decide) (rfl) rfl ?_
  have r1 := h.1
  replace h := h.2
  have r2 := h.1
  replace h := h.2
  refine yb_icmp_ne (x := l2) (y := (d 146 (1 : Int))) rfl rfl r1 r2 (fun c => ?_) (fun c => ?_)
  · replace h := h.1 c
    refine yb_aload rfl rfl ?_
    refine yb_get (v := .int (xJ (d 146 (25 : Int)))) rfl (by decide) (by decide) (rfl) rfl ?_
    refine yb_iload (x := l2) rfl rfl ?_
    refine yb_callSz (As := [.int (xJ (d 146 (25 : Int))), .int (xJ l2)]) rfl rfl rfl rfl rfl rfl rfl rfl (by decide) (sp_181 (by omega) (fun c => ?_) (fun c => ?_))
    · replace h := h.1 c
      show yB D xm_c218 _ L 53 [.ref 146, .ref 147, .int (xJ l2), .int (xJ l3), .int (xJ l4), .double 0] [.int (xJ (1 : Int))] d e
      refine yb_if_ne (x := (1 : Int)) rfl rfl (by decide) (fun _ => ?_) (fun c => absurd c (by decide))
      refine yb_push (v := 0) rfl ?_
      refine yb_istore rfl rfl rfl ?_
      exact h
    · replace h := h.2 c
      show yB D xm_c218 _ L 53 [.ref 146, .ref 147, .int (xJ l2), .int (xJ l3), .int (xJ l4), .double 0] [.int (xJ (0 : Int))] d e
      refine yb_if_ne (x := (0 : Int)) rfl rfl (by decide) (fun c => absurd (by decide) c) (fun _ => ?_)
      refine yb_aload rfl rfl ?_
      refine yb_get (v := .ref 154) rfl (by decide) (by decide) (rfl) rfl ?_
      refine yb_iload (x := l2) rfl rfl ?_
      refine yb_push (v := 10) rfl ?_
      have r3 := h.1
      replace h := h.2
      refine yb_iast (j := l2) (x := (10 : Int)) rfl xd_A154 (by decide) r3 ?_
      refine yb_aload rfl rfl ?_
      refine yb_aload rfl rfl ?_
      refine yb_iload (x := l2) rfl rfl ?_
      refine yb_push (v := 1) rfl ?_
      refine yb_iadd (x := l2) (y := (1 : Int)) rfl ?_
      refine yb_iload (x := l3) rfl rfl ?_
      refine yb_iload (x := l4) rfl rfl ?_
      refine yb_callVv (As := [.ref 147, .int (xJ (l2 + (1 : Int))), .int (xJ l3), .int (xJ l4)]) (a := 146) rfl rfl rfl rfl rfl rfl rfl rfl (by decide) (by decide) (rfl) (by decide) (yV_mono h (fun d4 e5 h => ?_))
      exact yb_retv rfl h
  · replace h := h.2 c
    refine yb_iload (x := l3) rfl rfl ?_
    refine yb_aload rfl rfl ?_
    refine yb_get (v := .int (xJ (d 146 (26 : Int)))) rfl (by decide) (by decide) (rfl) rfl ?_
    have r6 := h.1
    replace h := h.2
    have r7 := h.1
    replace h := h.2
    refine yb_icmp_ne (x := l3) (y := (d 146 (26 : Int))) rfl rfl r6 r7 (fun c => ?_) (fun c => ?_)
    · replace h := h.1 c
      refine yb_aload rfl rfl ?_
      refine yb_iload (x := l3) rfl rfl ?_
      refine yb_put (z := l3) (k := 26) rfl rfl (by decide) (by decide) (rfl) (Nat.le_of_ble_eq_true rfl) rfl (rfl) ?_
      refine yb_aload rfl rfl ?_
      refine yb_iload (x := l4) rfl rfl ?_
      refine yb_put (z := l4) (k := 27) rfl rfl (by decide) (by decide) (rfl) (Nat.le_of_ble_eq_true rfl) rfl (rfl) ?_
      refine yb_push (v := 0) rfl ?_
      refine yb_istore rfl rfl rfl ?_
      refine yb_forget (dl := [.ref 146, .double 0, .double 0, .double 0, .double 0, .int (xJ (0 : Int))]) ⟨Or.inl rfl, ⟨Or.inr ⟨rfl, rfl⟩, ⟨Or.inr ⟨rfl, rfl⟩, ⟨Or.inr ⟨rfl, rfl⟩, ⟨Or.inr ⟨rfl, rfl⟩, ⟨Or.inl rfl, trivial⟩⟩⟩⟩⟩⟩ ?_
      exact h
    · replace h := h.2 c
      refine yb_iload (x := l4) rfl rfl ?_
      refine yb_aload rfl rfl ?_
      refine yb_get (v := .int (xJ (d 146 (27 : Int)))) rfl (by decide) (by decide) (rfl) rfl ?_
      have r8 := h.1
      replace h := h.2
      have r9 := h.1
      replace h := h.2
      refine yb_icmp_lt (x := l4) (y := (d 146 (27 : Int))) rfl rfl r8 r9 (fun c => ?_) (fun c => ?_)
      · replace h := h.1 c
        refine yb_aload rfl rfl ?_
        refine yb_iload (x := l3) rfl rfl ?_
        refine yb_put (z := l3) (k := 26) rfl rfl (by decide) (by decide) (rfl) (Nat.le_of_ble_eq_true rfl) rfl (rfl) ?_
        refine yb_aload rfl rfl ?_
        refine yb_iload (x := l4) rfl rfl ?_
        refine yb_put (z := l4) (k := 27) rfl rfl (by decide) (by decide) (rfl) (Nat.le_of_ble_eq_true rfl) rfl (rfl) ?_
        refine yb_push (v := 0) rfl ?_
        refine yb_istore rfl rfl rfl ?_
        refine yb_forget (dl := [.ref 146, .double 0, .double 0, .double 0, .double 0, .int (xJ (0 : Int))]) ⟨Or.inl rfl, ⟨Or.inr ⟨rfl, rfl⟩, ⟨Or.inr ⟨rfl, rfl⟩, ⟨Or.inr ⟨rfl, rfl⟩, ⟨Or.inr ⟨rfl, rfl⟩, ⟨Or.inl rfl, trivial⟩⟩⟩⟩⟩⟩ ?_
        exact h
      · replace h := h.2 c
        exact yb_retv rfl h
theorem yk_218_147_34 {D L : Nat} {P : xh_D → xd_E → Prop} {d : xh_D} {e : xd_E}  {l5 : Int}  (h : ((-2147483648 ≤ l5 ∧ l5 < 2147483648) ∧ ((-2147483648 ≤ (d 146 (1 : Int)) ∧ (d 146 (1 : Int)) < 2147483648) ∧ ((((d 146 (1 : Int)) ≤ l5) → P d e) ∧ ((¬ (d 146 (1 : Int)) ≤ l5) → ((0 ≤ l5 ∧ l5 < 9) ∧ yB D xm_c218 (yQv L P) L 34 [.ref 146, .double 0, .double 0, .double 0, .double 0, .int (xJ (l5 + 1))] [] (xs d 155 l5 (d 154 l5)) e)))))) : yB D xm_c218 (yQv L P) L 34 [.ref 146, .double 0, .double 0, .double 0, .double 0, .int (xJ l5)] [] d e := by
  refine yb_iload (x := l5) rfl rfl ?_
  refine yb_aload rfl rfl ?_
  refine yb_get (v := .int (xJ (d 146 (1 : Int)))) rfl (by decide) (by decide) (rfl) rfl ?_
  have r1 := h.1
  replace h := h.2
  have r2 := h.1
  replace h := h.2
  refine yb_icmp_ge (x := l5) (y := (d 146 (1 : Int))) rfl rfl r1 r2 (fun c => ?_) (fun c => ?_)
  · replace h := h.1 c
    exact yb_retv rfl h
  · replace h := h.2 c
    refine yb_aload rfl rfl ?_
    refine yb_get (v := .ref 155) rfl (by decide) (by decide) (rfl) rfl ?_
    refine yb_iload (x := l5) rfl rfl ?_
    refine yb_aload rfl rfl ?_
    refine yb_get (v := .ref 154) rfl (by decide) (by decide) (rfl) rfl ?_
    refine yb_iload (x := l5) rfl rfl ?_
    have r3 := h.1
    replace h := h.2
    refine yb_iald (j := l5) rfl xd_A154 (by decide) r3 (v := (d 154 l5)) rfl ?_
    refine yb_iast (j := l5) (x := (d 154 l5)) rfl xd_A155 (by decide) r3 ?_
    refine yb_iinc (x := l5) (n := 1) rfl rfl rfl rfl ?_
    refine yb_goto rfl rfl ?_
    exact h
theorem yk_218_147_70 {D L : Nat} {P : xh_D → xd_E → Prop} {d : xh_D} {e : xd_E}  {l2 : Int} {l3 : Int} {l4 : Int} {l5 : Int}  (hD : 1 ≤ D) (h : ((-2147483648 ≤ l5 ∧ l5 < 2147483648) ∧ ((-2147483648 ≤ (d 146 (1 : Int)) ∧ (d 146 (1 : Int)) < 2147483648) ∧ ((((d 146 (1 : Int)) ≤ l5) → ((0 ≤ l2 ∧ l2 < 9) ∧ yV D 218 L [.ref 146, .ref 147, .int (xJ (l2 + (1 : Int))), .int (xJ (l3 + (1 : Int))), .int (xJ l4)] (xs d 154 l2 (9 : Int)) e (fun d4 e5 => P d4 e5))) ∧ ((¬ (d 146 (1 : Int)) ≤ l5) → (((xi_and (xi_shr (d 146 (25 : Int)) l5) (1 : Int) = 1) → yB D xm_c218 (yQv L P) L 70 [.ref 146, .ref 147, .int (xJ l2), .int (xJ l3), .int (xJ l4), .int (xJ (l5 + 1))] [] d e) ∧ (¬ (xi_and (xi_shr (d 146 (25 : Int)) l5) (1 : Int) = 1) → ((0 ≤ (((9 : Int) * l2) + l5) ∧ (((9 : Int) * l2) + l5) < 81) ∧ ((-2147483648 ≤ (d 148 (((9 : Int) * l2) + l5)) ∧ (d 148 (((9 : Int) * l2) + l5)) < 2147483648) ∧ ((((d 148 (((9 : Int) * l2) + l5)) = 0) → yB D xm_c218 (yQv L P) L 70 [.ref 146, .ref 147, .int (xJ l2), .int (xJ l3), .int (xJ l4), .int (xJ (l5 + 1))] [] d e) ∧ ((¬ (d 148 (((9 : Int) * l2) + l5)) = 0) → ((0 ≤ l5 ∧ l5 < 9) ∧ ((-2147483648 ≤ (d 156 l5) ∧ (d 156 l5) < 2147483648) ∧ (((¬ (d 156 l5) = (2 : Int)) → ((0 ≤ l2 ∧ l2 < 9) ∧ yV D 218 L [.ref 146, .ref 147, .int (xJ (l2 + (1 : Int))), .int (xJ l3), .int (xJ (l4 + (d 157 (((9 : Int) * l2) + l5))))] (xs (xs d 154 l2 l5) 156 l5 ((d 156 l5) + (1 : Int))) e (fun d11 e12 => yB D xm_c218 (yQv L P) L 70 [.ref 146, .ref 147, .int (xJ l2), .int (xJ l3), .int (xJ l4), .int (xJ (l5 + 1))] [] (xs d11 156 l5 ((d11 156 l5) - (1 : Int))) e12))) ∧ (((d 156 l5) = (2 : Int)) → yB D xm_c218 (yQv L P) L 70 [.ref 146, .ref 147, .int (xJ l2), .int (xJ l3), .int (xJ l4), .int (xJ (l5 + 1))] [] d e))))))))))))))) : yB D xm_c218 (yQv L P) L 70 [.ref 146, .ref 147, .int (xJ l2), .int (xJ l3), .int (xJ l4), .int (xJ l5)] [] d e := by
  refine yb_iload (x := l5) rfl rfl ?_
  refine yb_aload rfl rfl ?_
  refine yb_get (v := .int (xJ (d 146 (1 : Int)))) rfl (by decide) (by decide) (rfl) rfl ?_
  have r1 := h.1
  replace h := h.2
  have r2 := h.1
  replace h := h.2
  refine yb_icmp_ge (x := l5) (y := (d 146 (1 : Int))) rfl rfl r1 r2 (fun c => ?_) (fun c => ?_)
  · replace h := h.1 c
    refine yb_aload rfl rfl ?_
    refine yb_get (v := .ref 154) rfl (by decide) (by decide) (rfl) rfl ?_
    refine yb_iload (x := l2) rfl rfl ?_
    refine yb_push (v := 9) rfl ?_
    have r3 := h.1
    replace h := h.2
    refine yb_iast (j := l2) (x := (9 : Int)) rfl xd_A154 (by decide) r3 ?_
    refine yb_aload rfl rfl ?_
    refine yb_aload rfl rfl ?_
    refine yb_iload (x := l2) rfl rfl ?_
    refine yb_push (v := 1) rfl ?_
    refine yb_iadd (x := l2) (y := (1 : Int)) rfl ?_
    refine yb_iload (x := l3) rfl rfl ?_
    refine yb_push (v := 1) rfl ?_
    refine yb_iadd (x := l3) (y := (1 : Int)) rfl ?_
    refine yb_iload (x := l4) rfl rfl ?_
    refine yb_callVv (As := [.ref 147, .int (xJ (l2 + (1 : Int))), .int (xJ (l3 + (1 : Int))), .int (xJ l4)]) (a := 146) rfl rfl rfl rfl rfl rfl rfl rfl (by decide) (by decide) (rfl) (by decide) (yV_mono h (fun d4 e5 h => ?_))
    exact yb_retv rfl h
  · replace h := h.2 c
    refine yb_aload rfl rfl ?_
    refine yb_get (v := .int (xJ (d 146 (25 : Int)))) rfl (by decide) (by decide) (rfl) rfl ?_
    refine yb_iload (x := l5) rfl rfl ?_
    refine yb_callSz (As := [.int (xJ (d 146 (25 : Int))), .int (xJ l5)]) rfl rfl rfl rfl rfl rfl rfl rfl (by decide) (sp_181 (by omega) (fun c => ?_) (fun c => ?_))
    · replace h := h.1 c
      show yB D xm_c218 _ L 78 [.ref 146, .ref 147, .int (xJ l2), .int (xJ l3), .int (xJ l4), .int (xJ l5)] [.int (xJ (1 : Int))] d e
      refine yb_if_ne (x := (1 : Int)) rfl rfl (by decide) (fun _ => ?_) (fun c => absurd c (by decide))
      refine yb_iinc (x := l5) (n := 1) rfl rfl rfl rfl ?_
      refine yb_goto rfl rfl ?_
      exact h
    · replace h := h.2 c
      show yB D xm_c218 _ L 78 [.ref 146, .ref 147, .int (xJ l2), .int (xJ l3), .int (xJ l4), .int (xJ l5)] [.int (xJ (0 : Int))] d e
      refine yb_if_ne (x := (0 : Int)) rfl rfl (by decide) (fun c => absurd (by decide) c) (fun _ => ?_)
      refine yb_aload rfl rfl ?_
      refine yb_get (v := .ref 148) rfl (by decide) (by decide) (rfl) rfl ?_
      refine yb_push (v := 9) rfl ?_
      refine yb_iload (x := l2) rfl rfl ?_
      refine yb_imul (x := (9 : Int)) (y := l2) rfl ?_
      refine yb_iload (x := l5) rfl rfl ?_
      refine yb_iadd (x := ((9 : Int) * l2)) (y := l5) rfl ?_
      have r6 := h.1
      replace h := h.2
      refine yb_iald (j := (((9 : Int) * l2) + l5)) rfl xd_A148 (by decide) r6 (v := (d 148 (((9 : Int) * l2) + l5))) rfl ?_
      have r7 := h.1
      replace h := h.2
      refine yb_if_eq (x := (d 148 (((9 : Int) * l2) + l5))) rfl rfl r7 (fun c => ?_) (fun c => ?_)
      · replace h := h.1 c
        refine yb_iinc (x := l5) (n := 1) rfl rfl rfl rfl ?_
        refine yb_goto rfl rfl ?_
        exact h
      · replace h := h.2 c
        refine yb_aload rfl rfl ?_
        refine yb_get (v := .ref 156) rfl (by decide) (by decide) (rfl) rfl ?_
        refine yb_iload (x := l5) rfl rfl ?_
        have r8 := h.1
        replace h := h.2
        refine yb_iald (j := l5) rfl xd_A156 (by decide) r8 (v := (d 156 l5)) rfl ?_
        refine yb_push (v := 2) rfl ?_
        have r9 := h.1
        replace h := h.2
        refine yb_icmp_ne (x := (d 156 l5)) (y := (2 : Int)) rfl rfl r9 (by decide) (fun c => ?_) (fun c => ?_)
        · replace h := h.1 c
          refine yb_aload rfl rfl ?_
          refine yb_get (v := .ref 154) rfl (by decide) (by decide) (rfl) rfl ?_
          refine yb_iload (x := l2) rfl rfl ?_
          refine yb_iload (x := l5) rfl rfl ?_
          have r10 := h.1
          replace h := h.2
          refine yb_iast (j := l2) (x := l5) rfl xd_A154 (by decide) r10 ?_
          refine yb_aload rfl rfl ?_
          refine yb_get (v := .ref 156) rfl (by decide) (by decide) (rfl) rfl ?_
          refine yb_iload (x := l5) rfl rfl ?_
          refine yb_dup2 rfl rfl rfl ?_
          refine yb_iald (j := l5) rfl xd_A156 (by decide) r8 (v := (d 156 l5)) (xs_np (by decide)) ?_
          refine yb_push (v := 1) rfl ?_
          refine yb_iadd (x := (d 156 l5)) (y := (1 : Int)) rfl ?_
          refine yb_iast (j := l5) (x := ((d 156 l5) + (1 : Int))) rfl xd_A156 (by decide) r8 ?_
          refine yb_aload rfl rfl ?_
          refine yb_aload rfl rfl ?_
          refine yb_iload (x := l2) rfl rfl ?_
          refine yb_push (v := 1) rfl ?_
          refine yb_iadd (x := l2) (y := (1 : Int)) rfl ?_
          refine yb_iload (x := l3) rfl rfl ?_
          refine yb_iload (x := l4) rfl rfl ?_
          refine yb_aload rfl rfl ?_
          refine yb_get (v := .ref 157) rfl (by decide) (by decide) (rfl) rfl ?_
          refine yb_push (v := 9) rfl ?_
          refine yb_iload (x := l2) rfl rfl ?_
          refine yb_imul (x := (9 : Int)) (y := l2) rfl ?_
          refine yb_iload (x := l5) rfl rfl ?_
          refine yb_iadd (x := ((9 : Int) * l2)) (y := l5) rfl ?_
          refine yb_iald (j := (((9 : Int) * l2) + l5)) rfl xd_A157 (by decide) r6 (v := (d 157 (((9 : Int) * l2) + l5))) ((xs_np (by decide)).trans (xs_np (by decide))) ?_
          refine yb_iadd (x := l4) (y := (d 157 (((9 : Int) * l2) + l5))) rfl ?_
          refine yb_callVv (As := [.ref 147, .int (xJ (l2 + (1 : Int))), .int (xJ l3), .int (xJ (l4 + (d 157 (((9 : Int) * l2) + l5))))]) (a := 146) rfl rfl rfl rfl rfl rfl rfl rfl (by decide) (by decide) (rfl) (by decide) (yV_mono h (fun d11 e12 h => ?_))
          refine yb_aload rfl rfl ?_
          refine yb_get (v := .ref 156) rfl (by decide) (by decide) (rfl) rfl ?_
          refine yb_iload (x := l5) rfl rfl ?_
          refine yb_dup2 rfl rfl rfl ?_
          refine yb_iald (j := l5) rfl xd_A156 (by decide) r8 (v := (d11 156 l5)) rfl ?_
          refine yb_push (v := 1) rfl ?_
          refine yb_isub (x := (d11 156 l5)) (y := (1 : Int)) rfl ?_
          refine yb_iast (j := l5) (x := ((d11 156 l5) - (1 : Int))) rfl xd_A156 (by decide) r8 ?_
          refine yb_iinc (x := l5) (n := 1) rfl rfl rfl rfl ?_
          refine yb_goto rfl rfl ?_
          exact h
        · replace h := h.2 c
          refine yb_goto rfl rfl ?_
          refine yb_iinc (x := l5) (n := 1) rfl rfl rfl rfl ?_
          refine yb_goto rfl rfl ?_
          exact h
theorem yk_218_162_0 {D L : Nat} {P : xh_D → xd_E → Prop} {d : xh_D} {e : xd_E} {a2 : Int} {a3 : Int} {a4 : Int}   (h : ((-2147483648 ≤ a3 ∧ a3 < 2147483648) ∧ ((-2147483648 ≤ (d 146 (26 : Int)) ∧ (d 146 (26 : Int)) < 2147483648) ∧ ((((d 146 (26 : Int)) < a3) → P d e) ∧ ((¬ (d 146 (26 : Int)) < a3) → (((¬ a3 = (d 146 (26 : Int))) → yB D xm_c218 (yQv L P) L 13 [.ref 146, .ref 162, .int (xJ a2), .int (xJ a3), .int (xJ a4), .double 0] [] d e) ∧ ((a3 = (d 146 (26 : Int))) → ((-2147483648 ≤ a4 ∧ a4 < 2147483648) ∧ ((-2147483648 ≤ (d 146 (27 : Int)) ∧ (d 146 (27 : Int)) < 2147483648) ∧ (((a4 ≤ (d 146 (27 : Int))) → yB D xm_c218 (yQv L P) L 13 [.ref 146, .ref 162, .int (xJ a2), .int (xJ a3), .int (xJ a4), .double 0] [] d e) ∧ ((¬ a4 ≤ (d 146 (27 : Int))) → P d e))))))))))) : yB D xm_c218 (yQv L P) L 0 [.ref 146, .ref 162, .int (xJ a2), .int (xJ a3), .int (xJ a4), .double 0] [] d e := by
  refine yb_iload (x := a3) rfl rfl ?_
  refine yb_aload rfl rfl ?_
  refine yb_get (v := .int (xJ (d 146 (26 : Int)))) rfl (by decide) (by decide) (rfl) rfl ?_
  have r1 := h.1
  replace h := h.2
  have r2 := h.1
  replace h := h.2
  refine yb_icmp_gt (x := a3) (y := (d 146 (26 : Int))) rfl rfl r1 r2 (fun c => ?_) (fun c => ?_)
  · replace h := h.1 c
    exact yb_retv rfl h
  · replace h := h.2 c
    refine yb_iload (x := a3) rfl rfl ?_
    refine yb_aload rfl rfl ?_
    refine yb_get (v := .int (xJ (d 146 (26 : Int)))) rfl (by decide) (by decide) (rfl) rfl ?_
    refine yb_icmp_ne (x := a3) (y := (d 146 (26 : Int))) rfl rfl r1 r2 (fun c => ?_) (fun c => ?_)
    · replace h := h.1 c
      exact h
    · replace h := h.2 c
      refine yb_iload (x := a4) rfl rfl ?_
      refine yb_aload rfl rfl ?_
      refine yb_get (v := .int (xJ (d 146 (27 : Int)))) rfl (by decide) (by decide) (rfl) rfl ?_
      have r3 := h.1
      replace h := h.2
      have r4 := h.1
      replace h := h.2
      refine yb_icmp_le (x := a4) (y := (d 146 (27 : Int))) rfl rfl r3 r4 (fun c => ?_) (fun c => ?_)
      · replace h := h.1 c
        exact h
      · replace h := h.2 c
        exact yb_retv rfl h
theorem yk_218_162_13 {D L : Nat} {P : xh_D → xd_E → Prop} {d : xh_D} {e : xd_E}  {l2 : Int} {l3 : Int} {l4 : Int}  (hD : 1 ≤ D) (h : ((-2147483648 ≤ l2 ∧ l2 < 2147483648) ∧ ((-2147483648 ≤ (d 146 (1 : Int)) ∧ (d 146 (1 : Int)) < 2147483648) ∧ (((¬ l2 = (d 146 (1 : Int))) → (((xi_and (xi_shr (d 146 (25 : Int)) l2) (1 : Int) = 1) → yB D xm_c218 (yQv L P) L 70 [.ref 146, .ref 162, .int (xJ l2), .int (xJ l3), .int (xJ l4), .int (xJ (0 : Int))] [] d e) ∧ (¬ (xi_and (xi_shr (d 146 (25 : Int)) l2) (1 : Int) = 1) → ((0 ≤ l2 ∧ l2 < 9) ∧ yV D 218 L [.ref 146, .ref 162, .int (xJ (l2 + (1 : Int))), .int (xJ l3), .int (xJ l4)] (xs d 154 l2 (10 : Int)) e (fun d4 e5 => P d4 e5))))) ∧ ((l2 = (d 146 (1 : Int))) → ((-2147483648 ≤ l3 ∧ l3 < 2147483648) ∧ ((-2147483648 ≤ (d 146 (26 : Int)) ∧ (d 146 (26 : Int)) < 2147483648) ∧ (((¬ l3 = (d 146 (26 : Int))) → yB D xm_c218 (yQv L P) L 34 [.ref 146, .double 0, .double 0, .double 0, .double 0, .int (xJ (0 : Int))] [] (xs (xs d 146 (26 : Int) l3) 146 (27 : Int) l4) e) ∧ ((l3 = (d 146 (26 : Int))) → ((-2147483648 ≤ l4 ∧ l4 < 2147483648) ∧ ((-2147483648 ≤ (d 146 (27 : Int)) ∧ (d 146 (27 : Int)) < 2147483648) ∧ (((l4 < (d 146 (27 : Int))) → yB D xm_c218 (yQv L P) L 34 [.ref 146, .double 0, .double 0, .double 0, .double 0, .int (xJ (0 : Int))] [] (xs (xs d 146 (26 : Int) l3) 146 (27 : Int) l4) e) ∧ ((¬ l4 < (d 146 (27 : Int))) → P d e))))))))))))) : yB D xm_c218 (yQv L P) L 13 [.ref 146, .ref 162, .int (xJ l2), .int (xJ l3), .int (xJ l4), .double 0] [] d e := by
  refine yb_iload (x := l2) rfl rfl ?_
  refine yb_aload rfl rfl ?_
  refine yb_get (v := .int (xJ (d 146 (1 : Int)))) rfl (by decide) (by decide) (rfl) rfl ?_
  have r1 := h.1
  replace h := h.2
  have r2 := h.1
  replace h := h.2
  refine yb_icmp_ne (x := l2) (y := (d 146 (1 : Int))) rfl rfl r1 r2 (fun c => ?_) (fun c => ?_)
  · replace h := h.1 c
    refine yb_aload rfl rfl ?_
    refine yb_get (v := .int (xJ (d 146 (25 : Int)))) rfl (by decide) (by decide) (rfl) rfl ?_
    refine yb_iload (x := l2) rfl rfl ?_
    refine yb_callSz (As := [.int (xJ (d 146 (25 : Int))), .int (xJ l2)]) rfl rfl rfl rfl rfl rfl rfl rfl (by decide) (sp_181 (by omega) (fun c => ?_) (fun c => ?_))
    · replace h := h.1 c
      show yB D xm_c218 _ L 53 [.ref 146, .ref 162, .int (xJ l2), .int (xJ l3), .int (xJ l4), .double 0] [.int (xJ (1 : Int))] d e
      refine yb_if_ne (x := (1 : Int)) rfl rfl (by decide) (fun _ => ?_) (fun c => absurd c (by decide))
      refine yb_push (v := 0) rfl ?_
      refine yb_istore rfl rfl rfl ?_
      exact h
    · replace h := h.2 c
      show yB D xm_c218 _ L 53 [.ref 146, .ref 162, .int (xJ l2), .int (xJ l3), .int (xJ l4), .double 0] [.int (xJ (0 : Int))] d e
      refine yb_if_ne (x := (0 : Int)) rfl rfl (by decide) (fun c => absurd (by decide) c) (fun _ => ?_)
      refine yb_aload rfl rfl ?_
      refine yb_get (v := .ref 154) rfl (by decide) (by decide) (rfl) rfl ?_
      refine yb_iload (x := l2) rfl rfl ?_
      refine yb_push (v := 10) rfl ?_
      have r3 := h.1
      replace h := h.2
      refine yb_iast (j := l2) (x := (10 : Int)) rfl xd_A154 (by decide) r3 ?_
      refine yb_aload rfl rfl ?_
      refine yb_aload rfl rfl ?_
      refine yb_iload (x := l2) rfl rfl ?_
      refine yb_push (v := 1) rfl ?_
      refine yb_iadd (x := l2) (y := (1 : Int)) rfl ?_
      refine yb_iload (x := l3) rfl rfl ?_
      refine yb_iload (x := l4) rfl rfl ?_
      refine yb_callVv (As := [.ref 162, .int (xJ (l2 + (1 : Int))), .int (xJ l3), .int (xJ l4)]) (a := 146) rfl rfl rfl rfl rfl rfl rfl rfl (by decide) (by decide) (rfl) (by decide) (yV_mono h (fun d4 e5 h => ?_))
      exact yb_retv rfl h
  · replace h := h.2 c
    refine yb_iload (x := l3) rfl rfl ?_
    refine yb_aload rfl rfl ?_
    refine yb_get (v := .int (xJ (d 146 (26 : Int)))) rfl (by decide) (by decide) (rfl) rfl ?_
    have r6 := h.1
    replace h := h.2
    have r7 := h.1
    replace h := h.2
    refine yb_icmp_ne (x := l3) (y := (d 146 (26 : Int))) rfl rfl r6 r7 (fun c => ?_) (fun c => ?_)
    · replace h := h.1 c
      refine yb_aload rfl rfl ?_
      refine yb_iload (x := l3) rfl rfl ?_
      refine yb_put (z := l3) (k := 26) rfl rfl (by decide) (by decide) (rfl) (Nat.le_of_ble_eq_true rfl) rfl (rfl) ?_
      refine yb_aload rfl rfl ?_
      refine yb_iload (x := l4) rfl rfl ?_
      refine yb_put (z := l4) (k := 27) rfl rfl (by decide) (by decide) (rfl) (Nat.le_of_ble_eq_true rfl) rfl (rfl) ?_
      refine yb_push (v := 0) rfl ?_
      refine yb_istore rfl rfl rfl ?_
      refine yb_forget (dl := [.ref 146, .double 0, .double 0, .double 0, .double 0, .int (xJ (0 : Int))]) ⟨Or.inl rfl, ⟨Or.inr ⟨rfl, rfl⟩, ⟨Or.inr ⟨rfl, rfl⟩, ⟨Or.inr ⟨rfl, rfl⟩, ⟨Or.inr ⟨rfl, rfl⟩, ⟨Or.inl rfl, trivial⟩⟩⟩⟩⟩⟩ ?_
      exact h
    · replace h := h.2 c
      refine yb_iload (x := l4) rfl rfl ?_
      refine yb_aload rfl rfl ?_
      refine yb_get (v := .int (xJ (d 146 (27 : Int)))) rfl (by decide) (by decide) (rfl) rfl ?_
      have r8 := h.1
      replace h := h.2
      have r9 := h.1
      replace h := h.2
      refine yb_icmp_lt (x := l4) (y := (d 146 (27 : Int))) rfl rfl r8 r9 (fun c => ?_) (fun c => ?_)
      · replace h := h.1 c
        refine yb_aload rfl rfl ?_
        refine yb_iload (x := l3) rfl rfl ?_
        refine yb_put (z := l3) (k := 26) rfl rfl (by decide) (by decide) (rfl) (Nat.le_of_ble_eq_true rfl) rfl (rfl) ?_
        refine yb_aload rfl rfl ?_
        refine yb_iload (x := l4) rfl rfl ?_
        refine yb_put (z := l4) (k := 27) rfl rfl (by decide) (by decide) (rfl) (Nat.le_of_ble_eq_true rfl) rfl (rfl) ?_
        refine yb_push (v := 0) rfl ?_
        refine yb_istore rfl rfl rfl ?_
        refine yb_forget (dl := [.ref 146, .double 0, .double 0, .double 0, .double 0, .int (xJ (0 : Int))]) ⟨Or.inl rfl, ⟨Or.inr ⟨rfl, rfl⟩, ⟨Or.inr ⟨rfl, rfl⟩, ⟨Or.inr ⟨rfl, rfl⟩, ⟨Or.inr ⟨rfl, rfl⟩, ⟨Or.inl rfl, trivial⟩⟩⟩⟩⟩⟩ ?_
        exact h
      · replace h := h.2 c
        exact yb_retv rfl h
theorem yk_218_162_34 {D L : Nat} {P : xh_D → xd_E → Prop} {d : xh_D} {e : xd_E}  {l5 : Int}  (h : ((-2147483648 ≤ l5 ∧ l5 < 2147483648) ∧ ((-2147483648 ≤ (d 146 (1 : Int)) ∧ (d 146 (1 : Int)) < 2147483648) ∧ ((((d 146 (1 : Int)) ≤ l5) → P d e) ∧ ((¬ (d 146 (1 : Int)) ≤ l5) → ((0 ≤ l5 ∧ l5 < 9) ∧ yB D xm_c218 (yQv L P) L 34 [.ref 146, .double 0, .double 0, .double 0, .double 0, .int (xJ (l5 + 1))] [] (xs d 155 l5 (d 154 l5)) e)))))) : yB D xm_c218 (yQv L P) L 34 [.ref 146, .double 0, .double 0, .double 0, .double 0, .int (xJ l5)] [] d e := by
  refine yb_iload (x := l5) rfl rfl ?_
  refine yb_aload rfl rfl ?_
  refine yb_get (v := .int (xJ (d 146 (1 : Int)))) rfl (by decide) (by decide) (rfl) rfl ?_
  have r1 := h.1
  replace h := h.2
  have r2 := h.1
  replace h := h.2
  refine yb_icmp_ge (x := l5) (y := (d 146 (1 : Int))) rfl rfl r1 r2 (fun c => ?_) (fun c => ?_)
  · replace h := h.1 c
    exact yb_retv rfl h
  · replace h := h.2 c
    refine yb_aload rfl rfl ?_
    refine yb_get (v := .ref 155) rfl (by decide) (by decide) (rfl) rfl ?_
    refine yb_iload (x := l5) rfl rfl ?_
    refine yb_aload rfl rfl ?_
    refine yb_get (v := .ref 154) rfl (by decide) (by decide) (rfl) rfl ?_
    refine yb_iload (x := l5) rfl rfl ?_
    have r3 := h.1
    replace h := h.2
    refine yb_iald (j := l5) rfl xd_A154 (by decide) r3 (v := (d 154 l5)) rfl ?_
    refine yb_iast (j := l5) (x := (d 154 l5)) rfl xd_A155 (by decide) r3 ?_
    refine yb_iinc (x := l5) (n := 1) rfl rfl rfl rfl ?_
    refine yb_goto rfl rfl ?_
    exact h
theorem yk_218_162_70 {D L : Nat} {P : xh_D → xd_E → Prop} {d : xh_D} {e : xd_E}  {l2 : Int} {l3 : Int} {l4 : Int} {l5 : Int}  (hD : 1 ≤ D) (h : ((-2147483648 ≤ l5 ∧ l5 < 2147483648) ∧ ((-2147483648 ≤ (d 146 (1 : Int)) ∧ (d 146 (1 : Int)) < 2147483648) ∧ ((((d 146 (1 : Int)) ≤ l5) → ((0 ≤ l2 ∧ l2 < 9) ∧ yV D 218 L [.ref 146, .ref 162, .int (xJ (l2 + (1 : Int))), .int (xJ (l3 + (1 : Int))), .int (xJ l4)] (xs d 154 l2 (9 : Int)) e (fun d4 e5 => P d4 e5))) ∧ ((¬ (d 146 (1 : Int)) ≤ l5) → (((xi_and (xi_shr (d 146 (25 : Int)) l5) (1 : Int) = 1) → yB D xm_c218 (yQv L P) L 70 [.ref 146, .ref 162, .int (xJ l2), .int (xJ l3), .int (xJ l4), .int (xJ (l5 + 1))] [] d e) ∧ (¬ (xi_and (xi_shr (d 146 (25 : Int)) l5) (1 : Int) = 1) → ((0 ≤ (((9 : Int) * l2) + l5) ∧ (((9 : Int) * l2) + l5) < 81) ∧ ((-2147483648 ≤ (d 148 (((9 : Int) * l2) + l5)) ∧ (d 148 (((9 : Int) * l2) + l5)) < 2147483648) ∧ ((((d 148 (((9 : Int) * l2) + l5)) = 0) → yB D xm_c218 (yQv L P) L 70 [.ref 146, .ref 162, .int (xJ l2), .int (xJ l3), .int (xJ l4), .int (xJ (l5 + 1))] [] d e) ∧ ((¬ (d 148 (((9 : Int) * l2) + l5)) = 0) → ((0 ≤ l5 ∧ l5 < 9) ∧ ((-2147483648 ≤ (d 156 l5) ∧ (d 156 l5) < 2147483648) ∧ (((¬ (d 156 l5) = (2 : Int)) → ((0 ≤ l2 ∧ l2 < 9) ∧ yV D 218 L [.ref 146, .ref 162, .int (xJ (l2 + (1 : Int))), .int (xJ l3), .int (xJ (l4 + (d 157 (((9 : Int) * l2) + l5))))] (xs (xs d 154 l2 l5) 156 l5 ((d 156 l5) + (1 : Int))) e (fun d11 e12 => yB D xm_c218 (yQv L P) L 70 [.ref 146, .ref 162, .int (xJ l2), .int (xJ l3), .int (xJ l4), .int (xJ (l5 + 1))] [] (xs d11 156 l5 ((d11 156 l5) - (1 : Int))) e12))) ∧ (((d 156 l5) = (2 : Int)) → yB D xm_c218 (yQv L P) L 70 [.ref 146, .ref 162, .int (xJ l2), .int (xJ l3), .int (xJ l4), .int (xJ (l5 + 1))] [] d e))))))))))))))) : yB D xm_c218 (yQv L P) L 70 [.ref 146, .ref 162, .int (xJ l2), .int (xJ l3), .int (xJ l4), .int (xJ l5)] [] d e := by
  refine yb_iload (x := l5) rfl rfl ?_
  refine yb_aload rfl rfl ?_
  refine yb_get (v := .int (xJ (d 146 (1 : Int)))) rfl (by decide) (by decide) (rfl) rfl ?_
  have r1 := h.1
  replace h := h.2
  have r2 := h.1
  replace h := h.2
  refine yb_icmp_ge (x := l5) (y := (d 146 (1 : Int))) rfl rfl r1 r2 (fun c => ?_) (fun c => ?_)
  · replace h := h.1 c
    refine yb_aload rfl rfl ?_
    refine yb_get (v := .ref 154) rfl (by decide) (by decide) (rfl) rfl ?_
    refine yb_iload (x := l2) rfl rfl ?_
    refine yb_push (v := 9) rfl ?_
    have r3 := h.1
    replace h := h.2
    refine yb_iast (j := l2) (x := (9 : Int)) rfl xd_A154 (by decide) r3 ?_
    refine yb_aload rfl rfl ?_
    refine yb_aload rfl rfl ?_
    refine yb_iload (x := l2) rfl rfl ?_
    refine yb_push (v := 1) rfl ?_
    refine yb_iadd (x := l2) (y := (1 : Int)) rfl ?_
    refine yb_iload (x := l3) rfl rfl ?_
    refine yb_push (v := 1) rfl ?_
    refine yb_iadd (x := l3) (y := (1 : Int)) rfl ?_
    refine yb_iload (x := l4) rfl rfl ?_
    refine yb_callVv (As := [.ref 162, .int (xJ (l2 + (1 : Int))), .int (xJ (l3 + (1 : Int))), .int (xJ l4)]) (a := 146) rfl rfl rfl rfl rfl rfl rfl rfl (by decide) (by decide) (rfl) (by decide) (yV_mono h (fun d4 e5 h => ?_))
    exact yb_retv rfl h
  · replace h := h.2 c
    refine yb_aload rfl rfl ?_
    refine yb_get (v := .int (xJ (d 146 (25 : Int)))) rfl (by decide) (by decide) (rfl) rfl ?_
    refine yb_iload (x := l5) rfl rfl ?_
    refine yb_callSz (As := [.int (xJ (d 146 (25 : Int))), .int (xJ l5)]) rfl rfl rfl rfl rfl rfl rfl rfl (by decide) (sp_181 (by omega) (fun c => ?_) (fun c => ?_))
    · replace h := h.1 c
      show yB D xm_c218 _ L 78 [.ref 146, .ref 162, .int (xJ l2), .int (xJ l3), .int (xJ l4), .int (xJ l5)] [.int (xJ (1 : Int))] d e
      refine yb_if_ne (x := (1 : Int)) rfl rfl (by decide) (fun _ => ?_) (fun c => absurd c (by decide))
      refine yb_iinc (x := l5) (n := 1) rfl rfl rfl rfl ?_
      refine yb_goto rfl rfl ?_
      exact h
    · replace h := h.2 c
      show yB D xm_c218 _ L 78 [.ref 146, .ref 162, .int (xJ l2), .int (xJ l3), .int (xJ l4), .int (xJ l5)] [.int (xJ (0 : Int))] d e
      refine yb_if_ne (x := (0 : Int)) rfl rfl (by decide) (fun c => absurd (by decide) c) (fun _ => ?_)
      refine yb_aload rfl rfl ?_
      refine yb_get (v := .ref 148) rfl (by decide) (by decide) (rfl) rfl ?_
      refine yb_push (v := 9) rfl ?_
      refine yb_iload (x := l2) rfl rfl ?_
      refine yb_imul (x := (9 : Int)) (y := l2) rfl ?_
      refine yb_iload (x := l5) rfl rfl ?_
      refine yb_iadd (x := ((9 : Int) * l2)) (y := l5) rfl ?_
      have r6 := h.1
      replace h := h.2
      refine yb_iald (j := (((9 : Int) * l2) + l5)) rfl xd_A148 (by decide) r6 (v := (d 148 (((9 : Int) * l2) + l5))) rfl ?_
      have r7 := h.1
      replace h := h.2
      refine yb_if_eq (x := (d 148 (((9 : Int) * l2) + l5))) rfl rfl r7 (fun c => ?_) (fun c => ?_)
      · replace h := h.1 c
        refine yb_iinc (x := l5) (n := 1) rfl rfl rfl rfl ?_
        refine yb_goto rfl rfl ?_
        exact h
      · replace h := h.2 c
        refine yb_aload rfl rfl ?_
        refine yb_get (v := .ref 156) rfl (by decide) (by decide) (rfl) rfl ?_
        refine yb_iload (x := l5) rfl rfl ?_
        have r8 := h.1
        replace h := h.2
        refine yb_iald (j := l5) rfl xd_A156 (by decide) r8 (v := (d 156 l5)) rfl ?_
        refine yb_push (v := 2) rfl ?_
        have r9 := h.1
        replace h := h.2
        refine yb_icmp_ne (x := (d 156 l5)) (y := (2 : Int)) rfl rfl r9 (by decide) (fun c => ?_) (fun c => ?_)
        · replace h := h.1 c
          refine yb_aload rfl rfl ?_
          refine yb_get (v := .ref 154) rfl (by decide) (by decide) (rfl) rfl ?_
          refine yb_iload (x := l2) rfl rfl ?_
          refine yb_iload (x := l5) rfl rfl ?_
          have r10 := h.1
          replace h := h.2
          refine yb_iast (j := l2) (x := l5) rfl xd_A154 (by decide) r10 ?_
          refine yb_aload rfl rfl ?_
          refine yb_get (v := .ref 156) rfl (by decide) (by decide) (rfl) rfl ?_
          refine yb_iload (x := l5) rfl rfl ?_
          refine yb_dup2 rfl rfl rfl ?_
          refine yb_iald (j := l5) rfl xd_A156 (by decide) r8 (v := (d 156 l5)) (xs_np (by decide)) ?_
          refine yb_push (v := 1) rfl ?_
          refine yb_iadd (x := (d 156 l5)) (y := (1 : Int)) rfl ?_
          refine yb_iast (j := l5) (x := ((d 156 l5) + (1 : Int))) rfl xd_A156 (by decide) r8 ?_
          refine yb_aload rfl rfl ?_
          refine yb_aload rfl rfl ?_
          refine yb_iload (x := l2) rfl rfl ?_
          refine yb_push (v := 1) rfl ?_
          refine yb_iadd (x := l2) (y := (1 : Int)) rfl ?_
          refine yb_iload (x := l3) rfl rfl ?_
          refine yb_iload (x := l4) rfl rfl ?_
          refine yb_aload rfl rfl ?_
          refine yb_get (v := .ref 157) rfl (by decide) (by decide) (rfl) rfl ?_
          refine yb_push (v := 9) rfl ?_
          refine yb_iload (x := l2) rfl rfl ?_
          refine yb_imul (x := (9 : Int)) (y := l2) rfl ?_
          refine yb_iload (x := l5) rfl rfl ?_
          refine yb_iadd (x := ((9 : Int) * l2)) (y := l5) rfl ?_
          refine yb_iald (j := (((9 : Int) * l2) + l5)) rfl xd_A157 (by decide) r6 (v := (d 157 (((9 : Int) * l2) + l5))) ((xs_np (by decide)).trans (xs_np (by decide))) ?_
          refine yb_iadd (x := l4) (y := (d 157 (((9 : Int) * l2) + l5))) rfl ?_
          refine yb_callVv (As := [.ref 162, .int (xJ (l2 + (1 : Int))), .int (xJ l3), .int (xJ (l4 + (d 157 (((9 : Int) * l2) + l5))))]) (a := 146) rfl rfl rfl rfl rfl rfl rfl rfl (by decide) (by decide) (rfl) (by decide) (yV_mono h (fun d11 e12 h => ?_))
          refine yb_aload rfl rfl ?_
          refine yb_get (v := .ref 156) rfl (by decide) (by decide) (rfl) rfl ?_
          refine yb_iload (x := l5) rfl rfl ?_
          refine yb_dup2 rfl rfl rfl ?_
          refine yb_iald (j := l5) rfl xd_A156 (by decide) r8 (v := (d11 156 l5)) rfl ?_
          refine yb_push (v := 1) rfl ?_
          refine yb_isub (x := (d11 156 l5)) (y := (1 : Int)) rfl ?_
          refine yb_iast (j := l5) (x := ((d11 156 l5) - (1 : Int))) rfl xd_A156 (by decide) r8 ?_
          refine yb_iinc (x := l5) (n := 1) rfl rfl rfl rfl ?_
          refine yb_goto rfl rfl ?_
          exact h
        · replace h := h.2 c
          refine yb_goto rfl rfl ?_
          refine yb_iinc (x := l5) (n := 1) rfl rfl rfl rfl ?_
          refine yb_goto rfl rfl ?_
          exact h
theorem yk_219_147_0 {D L : Nat} {P : xh_D → xd_E → Prop} {d : xh_D} {e : xd_E} {a2 : Int}   (h : yC D 217 L [.ref 146, .ref 147, .int (xJ a2)] d e (fun x1 d2 e3 => yB D xm_c219 (yQv L P) L 8 [.ref 146, .ref 147, .int (xJ a2), .int (xJ (0 : Int)), .double 0] [] (xs d2 146 (25 : Int) x1) e3)) : yB D xm_c219 (yQv L P) L 0 [.ref 146, .ref 147, .int (xJ a2), .double 0, .double 0] [] d e := by
  refine yb_aload rfl rfl ?_
  refine yb_aload rfl rfl ?_
  refine yb_aload rfl rfl ?_
  refine yb_iload (x := a2) rfl rfl ?_
  refine yb_callVi (As := [.ref 147, .int (xJ a2)]) (a := 146) rfl rfl rfl rfl rfl rfl rfl rfl (by decide) (by decide) (rfl) (by show (1 : Nat) ≤ 8; decide) (yC_mono h (fun x1 d2 e3 h => ?_))
  refine yb_put (z := x1) (k := 25) rfl rfl (by decide) (by decide) (rfl) (Nat.le_of_ble_eq_true rfl) rfl (rfl) ?_
  refine yb_push (v := 0) rfl ?_
  refine yb_istore rfl rfl rfl ?_
  exact h
theorem yk_219_147_8 {D L : Nat} {P : xh_D → xd_E → Prop} {d : xh_D} {e : xd_E}  {l2 : Int} {l3 : Int}  (h : ((-2147483648 ≤ l3 ∧ l3 < 2147483648) ∧ ((-2147483648 ≤ (d 146 (1 : Int)) ∧ (d 146 (1 : Int)) < 2147483648) ∧ ((((d 146 (1 : Int)) ≤ l3) → yV D 218 L [.ref 146, .ref 147, .int (xJ (0 : Int)), .int (xJ (0 : Int)), .int (xJ (0 : Int))] (xs (xs d 146 (26 : Int) (1000000 : Int)) 146 (27 : Int) (1000000 : Int)) e (fun d3 e4 => P d3 e4)) ∧ ((¬ (d 146 (1 : Int)) ≤ l3) → yB D xm_c219 (yQv L P) L 14 [.ref 146, .ref 147, .int (xJ l2), .int (xJ l3), .int (xJ (0 : Int))] [] d e))))) : yB D xm_c219 (yQv L P) L 8 [.ref 146, .ref 147, .int (xJ l2), .int (xJ l3), .double 0] [] d e := by
  refine yb_iload (x := l3) rfl rfl ?_
  refine yb_aload rfl rfl ?_
  refine yb_get (v := .int (xJ (d 146 (1 : Int)))) rfl (by decide) (by decide) (rfl) rfl ?_
  have r1 := h.1
  replace h := h.2
  have r2 := h.1
  replace h := h.2
  refine yb_icmp_ge (x := l3) (y := (d 146 (1 : Int))) rfl rfl r1 r2 (fun c => ?_) (fun c => ?_)
  · replace h := h.1 c
    refine yb_aload rfl rfl ?_
    refine yb_push (v := 1000000) rfl ?_
    refine yb_put (z := (1000000 : Int)) (k := 26) rfl rfl (by decide) (by decide) (rfl) (Nat.le_of_ble_eq_true rfl) rfl (rfl) ?_
    refine yb_aload rfl rfl ?_
    refine yb_push (v := 1000000) rfl ?_
    refine yb_put (z := (1000000 : Int)) (k := 27) rfl rfl (by decide) (by decide) (rfl) (Nat.le_of_ble_eq_true rfl) rfl (rfl) ?_
    refine yb_aload rfl rfl ?_
    refine yb_aload rfl rfl ?_
    refine yb_push (v := 0) rfl ?_
    refine yb_push (v := 0) rfl ?_
    refine yb_push (v := 0) rfl ?_
    refine yb_callVv (As := [.ref 147, .int (xJ (0 : Int)), .int (xJ (0 : Int)), .int (xJ (0 : Int))]) (a := 146) rfl rfl rfl rfl rfl rfl rfl rfl (by decide) (by decide) (rfl) (by decide) (yV_mono h (fun d3 e4 h => ?_))
    exact yb_retv rfl h
  · replace h := h.2 c
    refine yb_push (v := 0) rfl ?_
    refine yb_istore rfl rfl rfl ?_
    exact h
theorem yk_219_147_14 {D L : Nat} {P : xh_D → xd_E → Prop} {d : xh_D} {e : xd_E}  {l2 : Int} {l3 : Int} {l4 : Int}  (hD : 1 ≤ D) (h : ((-2147483648 ≤ l4 ∧ l4 < 2147483648) ∧ ((-2147483648 ≤ (d 146 (1 : Int)) ∧ (d 146 (1 : Int)) < 2147483648) ∧ ((((d 146 (1 : Int)) ≤ l4) → yB D xm_c219 (yQv L P) L 8 [.ref 146, .ref 147, .int (xJ l2), .int (xJ (l3 + 1)), .double 0] [] d e) ∧ ((¬ (d 146 (1 : Int)) ≤ l4) → (((xi_and (xi_shr (d 146 (25 : Int)) l3) (1 : Int) = 1) → (((xi_and (xi_shr (d 146 (25 : Int)) l4) (1 : Int) = 1) → yB D xm_c219 (yQv L P) L 14 [.ref 146, .ref 147, .int (xJ l2), .int (xJ l3), .int (xJ (l4 + 1))] [] d e) ∧ (¬ (xi_and (xi_shr (d 146 (25 : Int)) l4) (1 : Int) = 1) → yC D 210 L [.ref 146, .ref 147, .int (xJ l3), .int (xJ l4), .int (xJ l2)] d e (fun x3 d4 e5 => ((0 ≤ (((9 : Int) * l3) + l4) ∧ (((9 : Int) * l3) + l4) < 81) ∧ yB D xm_c219 (yQv L P) L 14 [.ref 146, .ref 147, .int (xJ l2), .int (xJ l3), .int (xJ (l4 + 1))] [] (xs d4 157 (((9 : Int) * l3) + l4) x3) e5))))) ∧ (¬ (xi_and (xi_shr (d 146 (25 : Int)) l3) (1 : Int) = 1) → yB D xm_c219 (yQv L P) L 14 [.ref 146, .ref 147, .int (xJ l2), .int (xJ l3), .int (xJ (l4 + 1))] [] d e))))))) : yB D xm_c219 (yQv L P) L 14 [.ref 146, .ref 147, .int (xJ l2), .int (xJ l3), .int (xJ l4)] [] d e := by
  refine yb_iload (x := l4) rfl rfl ?_
  refine yb_aload rfl rfl ?_
  refine yb_get (v := .int (xJ (d 146 (1 : Int)))) rfl (by decide) (by decide) (rfl) rfl ?_
  have r1 := h.1
  replace h := h.2
  have r2 := h.1
  replace h := h.2
  refine yb_icmp_ge (x := l4) (y := (d 146 (1 : Int))) rfl rfl r1 r2 (fun c => ?_) (fun c => ?_)
  · replace h := h.1 c
    refine yb_iinc (x := l3) (n := 1) rfl rfl rfl rfl ?_
    refine yb_goto rfl rfl ?_
    refine yb_forget (dl := [.ref 146, .ref 147, .int (xJ l2), .int (xJ (l3 + 1)), .double 0]) ⟨Or.inl rfl, ⟨Or.inl rfl, ⟨Or.inl rfl, ⟨Or.inl rfl, ⟨Or.inr ⟨rfl, rfl⟩, trivial⟩⟩⟩⟩⟩ ?_
    exact h
  · replace h := h.2 c
    refine yb_aload rfl rfl ?_
    refine yb_get (v := .int (xJ (d 146 (25 : Int)))) rfl (by decide) (by decide) (rfl) rfl ?_
    refine yb_iload (x := l3) rfl rfl ?_
    refine yb_callSz (As := [.int (xJ (d 146 (25 : Int))), .int (xJ l3)]) rfl rfl rfl rfl rfl rfl rfl rfl (by decide) (sp_181 (by omega) (fun c => ?_) (fun c => ?_))
    · replace h := h.1 c
      show yB D xm_c219 _ L 22 [.ref 146, .ref 147, .int (xJ l2), .int (xJ l3), .int (xJ l4)] [.int (xJ (1 : Int))] d e
      refine yb_if_eq (x := (1 : Int)) rfl rfl (by decide) (fun c => absurd c (by decide)) (fun _ => ?_)
      refine yb_aload rfl rfl ?_
      refine yb_get (v := .int (xJ (d 146 (25 : Int)))) rfl (by decide) (by decide) (rfl) rfl ?_
      refine yb_iload (x := l4) rfl rfl ?_
      refine yb_callSz (As := [.int (xJ (d 146 (25 : Int))), .int (xJ l4)]) rfl rfl rfl rfl rfl rfl rfl rfl (by decide) (sp_181 (by omega) (fun c => ?_) (fun c => ?_))
      · replace h := h.1 c
        show yB D xm_c219 _ L 27 [.ref 146, .ref 147, .int (xJ l2), .int (xJ l3), .int (xJ l4)] [.int (xJ (1 : Int))] d e
        refine yb_if_ne (x := (1 : Int)) rfl rfl (by decide) (fun _ => ?_) (fun c => absurd c (by decide))
        refine yb_iinc (x := l4) (n := 1) rfl rfl rfl rfl ?_
        refine yb_goto rfl rfl ?_
        exact h
      · replace h := h.2 c
        show yB D xm_c219 _ L 27 [.ref 146, .ref 147, .int (xJ l2), .int (xJ l3), .int (xJ l4)] [.int (xJ (0 : Int))] d e
        refine yb_if_ne (x := (0 : Int)) rfl rfl (by decide) (fun c => absurd (by decide) c) (fun _ => ?_)
        refine yb_aload rfl rfl ?_
        refine yb_get (v := .ref 157) rfl (by decide) (by decide) (rfl) rfl ?_
        refine yb_push (v := 9) rfl ?_
        refine yb_iload (x := l3) rfl rfl ?_
        refine yb_imul (x := (9 : Int)) (y := l3) rfl ?_
        refine yb_iload (x := l4) rfl rfl ?_
        refine yb_iadd (x := ((9 : Int) * l3)) (y := l4) rfl ?_
        refine yb_aload rfl rfl ?_
        refine yb_aload rfl rfl ?_
        refine yb_iload (x := l3) rfl rfl ?_
        refine yb_iload (x := l4) rfl rfl ?_
        refine yb_iload (x := l2) rfl rfl ?_
        refine yb_callVi (As := [.ref 147, .int (xJ l3), .int (xJ l4), .int (xJ l2)]) (a := 146) rfl rfl rfl rfl rfl rfl rfl rfl (by decide) (by decide) (rfl) (by show (2 : Nat) ≤ 8; decide) (yC_mono h (fun x3 d4 e5 h => ?_))
        have r6 := h.1
        replace h := h.2
        refine yb_iast (j := (((9 : Int) * l3) + l4)) (x := x3) rfl xd_A157 (by decide) r6 ?_
        refine yb_iinc (x := l4) (n := 1) rfl rfl rfl rfl ?_
        refine yb_goto rfl rfl ?_
        exact h
    · replace h := h.2 c
      show yB D xm_c219 _ L 22 [.ref 146, .ref 147, .int (xJ l2), .int (xJ l3), .int (xJ l4)] [.int (xJ (0 : Int))] d e
      refine yb_if_eq (x := (0 : Int)) rfl rfl (by decide) (fun _ => ?_) (fun c => absurd (by decide) c)
      refine yb_iinc (x := l4) (n := 1) rfl rfl rfl rfl ?_
      refine yb_goto rfl rfl ?_
      exact h
theorem yk_219_162_0 {D L : Nat} {P : xh_D → xd_E → Prop} {d : xh_D} {e : xd_E} {a2 : Int}   (h : yC D 217 L [.ref 146, .ref 162, .int (xJ a2)] d e (fun x1 d2 e3 => yB D xm_c219 (yQv L P) L 8 [.ref 146, .ref 162, .int (xJ a2), .int (xJ (0 : Int)), .double 0] [] (xs d2 146 (25 : Int) x1) e3)) : yB D xm_c219 (yQv L P) L 0 [.ref 146, .ref 162, .int (xJ a2), .double 0, .double 0] [] d e := by
  refine yb_aload rfl rfl ?_
  refine yb_aload rfl rfl ?_
  refine yb_aload rfl rfl ?_
  refine yb_iload (x := a2) rfl rfl ?_
  refine yb_callVi (As := [.ref 162, .int (xJ a2)]) (a := 146) rfl rfl rfl rfl rfl rfl rfl rfl (by decide) (by decide) (rfl) (by show (1 : Nat) ≤ 8; decide) (yC_mono h (fun x1 d2 e3 h => ?_))
  refine yb_put (z := x1) (k := 25) rfl rfl (by decide) (by decide) (rfl) (Nat.le_of_ble_eq_true rfl) rfl (rfl) ?_
  refine yb_push (v := 0) rfl ?_
  refine yb_istore rfl rfl rfl ?_
  exact h
theorem yk_219_162_8 {D L : Nat} {P : xh_D → xd_E → Prop} {d : xh_D} {e : xd_E}  {l2 : Int} {l3 : Int}  (h : ((-2147483648 ≤ l3 ∧ l3 < 2147483648) ∧ ((-2147483648 ≤ (d 146 (1 : Int)) ∧ (d 146 (1 : Int)) < 2147483648) ∧ ((((d 146 (1 : Int)) ≤ l3) → yV D 218 L [.ref 146, .ref 162, .int (xJ (0 : Int)), .int (xJ (0 : Int)), .int (xJ (0 : Int))] (xs (xs d 146 (26 : Int) (1000000 : Int)) 146 (27 : Int) (1000000 : Int)) e (fun d3 e4 => P d3 e4)) ∧ ((¬ (d 146 (1 : Int)) ≤ l3) → yB D xm_c219 (yQv L P) L 14 [.ref 146, .ref 162, .int (xJ l2), .int (xJ l3), .int (xJ (0 : Int))] [] d e))))) : yB D xm_c219 (yQv L P) L 8 [.ref 146, .ref 162, .int (xJ l2), .int (xJ l3), .double 0] [] d e := by
  refine yb_iload (x := l3) rfl rfl ?_
  refine yb_aload rfl rfl ?_
  refine yb_get (v := .int (xJ (d 146 (1 : Int)))) rfl (by decide) (by decide) (rfl) rfl ?_
  have r1 := h.1
  replace h := h.2
  have r2 := h.1
  replace h := h.2
  refine yb_icmp_ge (x := l3) (y := (d 146 (1 : Int))) rfl rfl r1 r2 (fun c => ?_) (fun c => ?_)
  · replace h := h.1 c
    refine yb_aload rfl rfl ?_
    refine yb_push (v := 1000000) rfl ?_
    refine yb_put (z := (1000000 : Int)) (k := 26) rfl rfl (by decide) (by decide) (rfl) (Nat.le_of_ble_eq_true rfl) rfl (rfl) ?_
    refine yb_aload rfl rfl ?_
    refine yb_push (v := 1000000) rfl ?_
    refine yb_put (z := (1000000 : Int)) (k := 27) rfl rfl (by decide) (by decide) (rfl) (Nat.le_of_ble_eq_true rfl) rfl (rfl) ?_
    refine yb_aload rfl rfl ?_
    refine yb_aload rfl rfl ?_
    refine yb_push (v := 0) rfl ?_
    refine yb_push (v := 0) rfl ?_
    refine yb_push (v := 0) rfl ?_
    refine yb_callVv (As := [.ref 162, .int (xJ (0 : Int)), .int (xJ (0 : Int)), .int (xJ (0 : Int))]) (a := 146) rfl rfl rfl rfl rfl rfl rfl rfl (by decide) (by decide) (rfl) (by decide) (yV_mono h (fun d3 e4 h => ?_))
    exact yb_retv rfl h
  · replace h := h.2 c
    refine yb_push (v := 0) rfl ?_
    refine yb_istore rfl rfl rfl ?_
    exact h
theorem yk_219_162_14 {D L : Nat} {P : xh_D → xd_E → Prop} {d : xh_D} {e : xd_E}  {l2 : Int} {l3 : Int} {l4 : Int}  (hD : 1 ≤ D) (h : ((-2147483648 ≤ l4 ∧ l4 < 2147483648) ∧ ((-2147483648 ≤ (d 146 (1 : Int)) ∧ (d 146 (1 : Int)) < 2147483648) ∧ ((((d 146 (1 : Int)) ≤ l4) → yB D xm_c219 (yQv L P) L 8 [.ref 146, .ref 162, .int (xJ l2), .int (xJ (l3 + 1)), .double 0] [] d e) ∧ ((¬ (d 146 (1 : Int)) ≤ l4) → (((xi_and (xi_shr (d 146 (25 : Int)) l3) (1 : Int) = 1) → (((xi_and (xi_shr (d 146 (25 : Int)) l4) (1 : Int) = 1) → yB D xm_c219 (yQv L P) L 14 [.ref 146, .ref 162, .int (xJ l2), .int (xJ l3), .int (xJ (l4 + 1))] [] d e) ∧ (¬ (xi_and (xi_shr (d 146 (25 : Int)) l4) (1 : Int) = 1) → yC D 210 L [.ref 146, .ref 162, .int (xJ l3), .int (xJ l4), .int (xJ l2)] d e (fun x3 d4 e5 => ((0 ≤ (((9 : Int) * l3) + l4) ∧ (((9 : Int) * l3) + l4) < 81) ∧ yB D xm_c219 (yQv L P) L 14 [.ref 146, .ref 162, .int (xJ l2), .int (xJ l3), .int (xJ (l4 + 1))] [] (xs d4 157 (((9 : Int) * l3) + l4) x3) e5))))) ∧ (¬ (xi_and (xi_shr (d 146 (25 : Int)) l3) (1 : Int) = 1) → yB D xm_c219 (yQv L P) L 14 [.ref 146, .ref 162, .int (xJ l2), .int (xJ l3), .int (xJ (l4 + 1))] [] d e))))))) : yB D xm_c219 (yQv L P) L 14 [.ref 146, .ref 162, .int (xJ l2), .int (xJ l3), .int (xJ l4)] [] d e := by
  refine yb_iload (x := l4) rfl rfl ?_
  refine yb_aload rfl rfl ?_
  refine yb_get (v := .int (xJ (d 146 (1 : Int)))) rfl (by decide) (by decide) (rfl) rfl ?_
  have r1 := h.1
  replace h := h.2
  have r2 := h.1
  replace h := h.2
  refine yb_icmp_ge (x := l4) (y := (d 146 (1 : Int))) rfl rfl r1 r2 (fun c => ?_) (fun c => ?_)
  · replace h := h.1 c
    refine yb_iinc (x := l3) (n := 1) rfl rfl rfl rfl ?_
    refine yb_goto rfl rfl ?_
    refine yb_forget (dl := [.ref 146, .ref 162, .int (xJ l2), .int (xJ (l3 + 1)), .double 0]) ⟨Or.inl rfl, ⟨Or.inl rfl, ⟨Or.inl rfl, ⟨Or.inl rfl, ⟨Or.inr ⟨rfl, rfl⟩, trivial⟩⟩⟩⟩⟩ ?_
    exact h
  · replace h := h.2 c
    refine yb_aload rfl rfl ?_
    refine yb_get (v := .int (xJ (d 146 (25 : Int)))) rfl (by decide) (by decide) (rfl) rfl ?_
    refine yb_iload (x := l3) rfl rfl ?_
    refine yb_callSz (As := [.int (xJ (d 146 (25 : Int))), .int (xJ l3)]) rfl rfl rfl rfl rfl rfl rfl rfl (by decide) (sp_181 (by omega) (fun c => ?_) (fun c => ?_))
    · replace h := h.1 c
      show yB D xm_c219 _ L 22 [.ref 146, .ref 162, .int (xJ l2), .int (xJ l3), .int (xJ l4)] [.int (xJ (1 : Int))] d e
      refine yb_if_eq (x := (1 : Int)) rfl rfl (by decide) (fun c => absurd c (by decide)) (fun _ => ?_)
      refine yb_aload rfl rfl ?_
      refine yb_get (v := .int (xJ (d 146 (25 : Int)))) rfl (by decide) (by decide) (rfl) rfl ?_
      refine yb_iload (x := l4) rfl rfl ?_
      refine yb_callSz (As := [.int (xJ (d 146 (25 : Int))), .int (xJ l4)]) rfl rfl rfl rfl rfl rfl rfl rfl (by decide) (sp_181 (by omega) (fun c => ?_) (fun c => ?_))
      · replace h := h.1 c
        show yB D xm_c219 _ L 27 [.ref 146, .ref 162, .int (xJ l2), .int (xJ l3), .int (xJ l4)] [.int (xJ (1 : Int))] d e
        refine yb_if_ne (x := (1 : Int)) rfl rfl (by decide) (fun _ => ?_) (fun c => absurd c (by decide))
        refine yb_iinc (x := l4) (n := 1) rfl rfl rfl rfl ?_
        refine yb_goto rfl rfl ?_
        exact h
      · replace h := h.2 c
        show yB D xm_c219 _ L 27 [.ref 146, .ref 162, .int (xJ l2), .int (xJ l3), .int (xJ l4)] [.int (xJ (0 : Int))] d e
        refine yb_if_ne (x := (0 : Int)) rfl rfl (by decide) (fun c => absurd (by decide) c) (fun _ => ?_)
        refine yb_aload rfl rfl ?_
        refine yb_get (v := .ref 157) rfl (by decide) (by decide) (rfl) rfl ?_
        refine yb_push (v := 9) rfl ?_
        refine yb_iload (x := l3) rfl rfl ?_
        refine yb_imul (x := (9 : Int)) (y := l3) rfl ?_
        refine yb_iload (x := l4) rfl rfl ?_
        refine yb_iadd (x := ((9 : Int) * l3)) (y := l4) rfl ?_
        refine yb_aload rfl rfl ?_
        refine yb_aload rfl rfl ?_
        refine yb_iload (x := l3) rfl rfl ?_
        refine yb_iload (x := l4) rfl rfl ?_
        refine yb_iload (x := l2) rfl rfl ?_
        refine yb_callVi (As := [.ref 162, .int (xJ l3), .int (xJ l4), .int (xJ l2)]) (a := 146) rfl rfl rfl rfl rfl rfl rfl rfl (by decide) (by decide) (rfl) (by show (2 : Nat) ≤ 8; decide) (yC_mono h (fun x3 d4 e5 h => ?_))
        have r6 := h.1
        replace h := h.2
        refine yb_iast (j := (((9 : Int) * l3) + l4)) (x := x3) rfl xd_A157 (by decide) r6 ?_
        refine yb_iinc (x := l4) (n := 1) rfl rfl rfl rfl ?_
        refine yb_goto rfl rfl ?_
        exact h
    · replace h := h.2 c
      show yB D xm_c219 _ L 22 [.ref 146, .ref 162, .int (xJ l2), .int (xJ l3), .int (xJ l4)] [.int (xJ (0 : Int))] d e
      refine yb_if_eq (x := (0 : Int)) rfl rfl (by decide) (fun _ => ?_) (fun c => absurd (by decide) c)
      refine yb_iinc (x := l4) (n := 1) rfl rfl rfl rfl ?_
      refine yb_goto rfl rfl ?_
      exact h
theorem yk_220_0 {D L : Nat} {P : Int → xh_D → xd_E → Prop} {d : xh_D} {e : xd_E} {a1 : Int}   (hD : 1 ≤ D) (h : ((-2147483648 ≤ a1 ∧ a1 < 2147483648) ∧ ((((0 : Int) ≤ a1 ∧ a1 ≤ (999 : Int)) → yV D 219 L [.ref 146, .ref 147, .int (xJ a1)] (xs d 146 (8 : Int) (0 : Int)) e (fun d2 e3 => yB D xm_c220 (yQi L P) L 28 [.ref 146, .double 0, .int (xJ (0 : Int))] [] (xs (xs (xs (xs (xs d2 146 (7 : Int) (0 : Int)) 151 (0 : Int) (d2 146 (27 : Int))) 146 (7 : Int) ((0 : Int) + 1)) 151 ((0 : Int) + 1) (d2 146 (25 : Int))) 146 (7 : Int) (((0 : Int) + 1) + 1)) e3)) ∧ (¬ ((0 : Int) ≤ a1 ∧ a1 ≤ (999 : Int)) → P (-1 : Int) (xs d 146 (8 : Int) (0 : Int)) e)))) : yB D xm_c220 (yQi L P) L 0 [.ref 146, .int (xJ a1), .double 0] [] d e := by
  refine yb_aload rfl rfl ?_
  refine yb_push (v := 0) rfl ?_
  refine yb_put (z := (0 : Int)) (k := 8) rfl rfl (by decide) (by decide) (rfl) (Nat.le_of_ble_eq_true rfl) rfl (rfl) ?_
  refine yb_iload (x := a1) rfl rfl ?_
  refine yb_push (v := 0) rfl ?_
  refine yb_push (v := 999) rfl ?_
  have r1 := h.1
  replace h := h.2
  refine yb_callSz (As := [.int (xJ a1), .int (xJ (0 : Int)), .int (xJ (999 : Int))]) rfl rfl rfl rfl rfl rfl rfl rfl (by decide) (sp_180 (by omega) ⟨r1, (by show (-2147483648 ≤ (0 : Int) ∧ (0 : Int) < 2147483648); decide), (by show (-2147483648 ≤ (999 : Int) ∧ (999 : Int) < 2147483648); decide)⟩ (fun c => ?_) (fun c => ?_))
  · replace h := h.1 c
    show yB D xm_c220 _ L 7 [.ref 146, .int (xJ a1), .double 0] [.int (xJ (1 : Int))] (xs d 146 (8 : Int) (0 : Int)) e
    refine yb_if_ne (x := (1 : Int)) rfl rfl (by decide) (fun _ => ?_) (fun c => absurd c (by decide))
    refine yb_aload rfl rfl ?_
    refine yb_aload rfl rfl ?_
    refine yb_get (v := .ref 147) rfl (by decide) (by decide) (rfl) rfl ?_
    refine yb_iload (x := a1) rfl rfl ?_
    refine yb_callVv (As := [.ref 147, .int (xJ a1)]) (a := 146) rfl rfl rfl rfl rfl rfl rfl rfl (by decide) (by decide) (rfl) (by decide) (yV_mono h (fun d2 e3 h => ?_))
    refine yb_aload rfl rfl ?_
    refine yb_push (v := 0) rfl ?_
    refine yb_put (z := (0 : Int)) (k := 7) rfl rfl (by decide) (by decide) (rfl) (Nat.le_of_ble_eq_true rfl) rfl (rfl) ?_
    refine yb_aload rfl rfl ?_
    refine yb_aload rfl rfl ?_
    refine yb_get (v := .int (xJ (d2 146 (27 : Int)))) rfl (by decide) (by decide) (rfl) rfl ?_
    refine yb_callVv (As := [.int (xJ (d2 146 (27 : Int)))]) (a := 146) rfl rfl rfl rfl rfl rfl rfl rfl (by decide) (by decide) (rfl) (by decide) (sp_183 (by omega) (by show (0 ≤ (0 : Int) ∧ (0 : Int) < 20); decide) ?_)
    show yB D xm_c220 _ L 22 [.ref 146, .int (xJ a1), .double 0] [] (xs (xs (xs d2 146 (7 : Int) (0 : Int)) 151 (0 : Int) (d2 146 (27 : Int))) 146 (7 : Int) ((0 : Int) + 1)) e3
    refine yb_aload rfl rfl ?_
    refine yb_aload rfl rfl ?_
    refine yb_get (v := .int (xJ (d2 146 (25 : Int)))) rfl (by decide) (by decide) (rfl) rfl ?_
    refine yb_callVv (As := [.int (xJ (d2 146 (25 : Int)))]) (a := 146) rfl rfl rfl rfl rfl rfl rfl rfl (by decide) (by decide) (rfl) (by decide) (sp_183 (by omega) (by show (0 ≤ ((0 : Int) + 1) ∧ ((0 : Int) + 1) < 20); decide) ?_)
    show yB D xm_c220 _ L 26 [.ref 146, .int (xJ a1), .double 0] [] (xs (xs (xs (xs (xs d2 146 (7 : Int) (0 : Int)) 151 (0 : Int) (d2 146 (27 : Int))) 146 (7 : Int) ((0 : Int) + 1)) 151 ((0 : Int) + 1) (d2 146 (25 : Int))) 146 (7 : Int) (((0 : Int) + 1) + 1)) e3
    refine yb_push (v := 0) rfl ?_
    refine yb_istore rfl rfl rfl ?_
    refine yb_forget (dl := [.ref 146, .double 0, .int (xJ (0 : Int))]) ⟨Or.inl rfl, ⟨Or.inr ⟨rfl, rfl⟩, ⟨Or.inl rfl, trivial⟩⟩⟩ ?_
    exact h
  · replace h := h.2 c
    show yB D xm_c220 _ L 7 [.ref 146, .int (xJ a1), .double 0] [.int (xJ (0 : Int))] (xs d 146 (8 : Int) (0 : Int)) e
    refine yb_if_ne (x := (0 : Int)) rfl rfl (by decide) (fun c => absurd (by decide) c) (fun _ => ?_)
    refine yb_push (v := (-1)) rfl ?_
    exact yb_ret rfl h
theorem yk_220_28 {D L : Nat} {P : Int → xh_D → xd_E → Prop} {d : xh_D} {e : xd_E}  {l2 : Int}  (hD : 1 ≤ D) (h : ((-2147483648 ≤ l2 ∧ l2 < 2147483648) ∧ ((-2147483648 ≤ (d 146 (1 : Int)) ∧ (d 146 (1 : Int)) < 2147483648) ∧ ((((d 146 (1 : Int)) ≤ l2) → P (d 146 (26 : Int)) d e) ∧ ((¬ (d 146 (1 : Int)) ≤ l2) → (((xi_and (xi_shr (d 146 (25 : Int)) l2) (1 : Int) = 1) → ((0 ≤ l2 ∧ l2 < 9) ∧ ((-2147483648 ≤ (d 155 l2) ∧ (d 155 l2) < 2147483648) ∧ (((¬ (d 155 l2) = (9 : Int)) → ((0 ≤ (d 146 (7 : Int)) ∧ (d 146 (7 : Int)) < 20) ∧ yB D xm_c220 (yQi L P) L 28 [.ref 146, .double 0, .int (xJ (l2 + 1))] [] (xs (xs d 151 (d 146 (7 : Int)) (d 155 l2)) 146 (7 : Int) ((d 146 (7 : Int)) + 1)) e)) ∧ (((d 155 l2) = (9 : Int)) → ((0 ≤ (d 146 (7 : Int)) ∧ (d 146 (7 : Int)) < 20) ∧ yB D xm_c220 (yQi L P) L 28 [.ref 146, .double 0, .int (xJ (l2 + 1))] [] (xs (xs d 151 (d 146 (7 : Int)) (-1 : Int)) 146 (7 : Int) ((d 146 (7 : Int)) + 1)) e)))))) ∧ (¬ (xi_and (xi_shr (d 146 (25 : Int)) l2) (1 : Int) = 1) → yB D xm_c220 (yQi L P) L 28 [.ref 146, .double 0, .int (xJ (l2 + 1))] [] d e))))))) : yB D xm_c220 (yQi L P) L 28 [.ref 146, .double 0, .int (xJ l2)] [] d e := by
  refine yb_iload (x := l2) rfl rfl ?_
  refine yb_aload rfl rfl ?_
  refine yb_get (v := .int (xJ (d 146 (1 : Int)))) rfl (by decide) (by decide) (rfl) rfl ?_
  have r1 := h.1
  replace h := h.2
  have r2 := h.1
  replace h := h.2
  refine yb_icmp_ge (x := l2) (y := (d 146 (1 : Int))) rfl rfl r1 r2 (fun c => ?_) (fun c => ?_)
  · replace h := h.1 c
    refine yb_aload rfl rfl ?_
    refine yb_get (v := .int (xJ (d 146 (26 : Int)))) rfl (by decide) (by decide) (rfl) rfl ?_
    exact yb_ret rfl h
  · replace h := h.2 c
    refine yb_aload rfl rfl ?_
    refine yb_get (v := .int (xJ (d 146 (25 : Int)))) rfl (by decide) (by decide) (rfl) rfl ?_
    refine yb_iload (x := l2) rfl rfl ?_
    refine yb_callSz (As := [.int (xJ (d 146 (25 : Int))), .int (xJ l2)]) rfl rfl rfl rfl rfl rfl rfl rfl (by decide) (sp_181 (by omega) (fun c => ?_) (fun c => ?_))
    · replace h := h.1 c
      show yB D xm_c220 _ L 36 [.ref 146, .double 0, .int (xJ l2)] [.int (xJ (1 : Int))] d e
      refine yb_if_eq (x := (1 : Int)) rfl rfl (by decide) (fun c => absurd c (by decide)) (fun _ => ?_)
      refine yb_aload rfl rfl ?_
      refine yb_aload rfl rfl ?_
      refine yb_get (v := .ref 155) rfl (by decide) (by decide) (rfl) rfl ?_
      refine yb_iload (x := l2) rfl rfl ?_
      have r3 := h.1
      replace h := h.2
      refine yb_iald (j := l2) rfl xd_A155 (by decide) r3 (v := (d 155 l2)) rfl ?_
      refine yb_push (v := 9) rfl ?_
      have r4 := h.1
      replace h := h.2
      refine yb_icmp_ne (x := (d 155 l2)) (y := (9 : Int)) rfl rfl r4 (by decide) (fun c => ?_) (fun c => ?_)
      · replace h := h.1 c
        refine yb_aload rfl rfl ?_
        refine yb_get (v := .ref 155) rfl (by decide) (by decide) (rfl) rfl ?_
        refine yb_iload (x := l2) rfl rfl ?_
        refine yb_iald (j := l2) rfl xd_A155 (by decide) r3 (v := (d 155 l2)) rfl ?_
        have r5 := h.1
        replace h := h.2
        refine yb_callVv (As := [.int (xJ (d 155 l2))]) (a := 146) rfl rfl rfl rfl rfl rfl rfl rfl (by decide) (by decide) (rfl) (by decide) (sp_183 (by omega) r5 ?_)
        show yB D xm_c220 _ L 51 [.ref 146, .double 0, .int (xJ l2)] [] (xs (xs d 151 (d 146 (7 : Int)) (d 155 l2)) 146 (7 : Int) ((d 146 (7 : Int)) + 1)) e
        refine yb_iinc (x := l2) (n := 1) rfl rfl rfl rfl ?_
        refine yb_goto rfl rfl ?_
        exact h
      · replace h := h.2 c
        refine yb_push (v := (-1)) rfl ?_
        refine yb_goto rfl rfl ?_
        have r6 := h.1
        replace h := h.2
        refine yb_callVv (As := [.int (xJ (-1 : Int))]) (a := 146) rfl rfl rfl rfl rfl rfl rfl rfl (by decide) (by decide) (rfl) (by decide) (sp_183 (by omega) r6 ?_)
        show yB D xm_c220 _ L 51 [.ref 146, .double 0, .int (xJ l2)] [] (xs (xs d 151 (d 146 (7 : Int)) (-1 : Int)) 146 (7 : Int) ((d 146 (7 : Int)) + 1)) e
        refine yb_iinc (x := l2) (n := 1) rfl rfl rfl rfl ?_
        refine yb_goto rfl rfl ?_
        exact h
    · replace h := h.2 c
      show yB D xm_c220 _ L 36 [.ref 146, .double 0, .int (xJ l2)] [.int (xJ (0 : Int))] d e
      refine yb_if_eq (x := (0 : Int)) rfl rfl (by decide) (fun _ => ?_) (fun c => absurd (by decide) c)
      refine yb_iinc (x := l2) (n := 1) rfl rfl rfl rfl ?_
      refine yb_goto rfl rfl ?_
      exact h
theorem yk_221_0 {D L : Nat} {P : Int → xh_D → xd_E → Prop} {d : xh_D} {e : xd_E} {a1 : Int}   (hD : 1 ≤ D) (h : ((-2147483648 ≤ a1 ∧ a1 < 2147483648) ∧ ((((0 : Int) ≤ a1 ∧ a1 ≤ (999 : Int)) → yV D 219 L [.ref 146, .ref 147, .int (xJ a1)] (xs d 146 (8 : Int) (0 : Int)) e (fun d2 e3 => yB D xm_c221 (yQi L P) L 21 [.ref 146, .double 0, .int (xJ (0 : Int)), .int (xJ (0 : Int)), .int (xJ (0 : Int)), .double 0, .double 0] [] d2 e3)) ∧ (¬ ((0 : Int) ≤ a1 ∧ a1 ≤ (999 : Int)) → P (-1 : Int) (xs d 146 (8 : Int) (0 : Int)) e)))) : yB D xm_c221 (yQi L P) L 0 [.ref 146, .int (xJ a1), .double 0, .double 0, .double 0, .double 0, .double 0] [] d e := by
  refine yb_aload rfl rfl ?_
  refine yb_push (v := 0) rfl ?_
  refine yb_put (z := (0 : Int)) (k := 8) rfl rfl (by decide) (by decide) (rfl) (Nat.le_of_ble_eq_true rfl) rfl (rfl) ?_
  refine yb_iload (x := a1) rfl rfl ?_
  refine yb_push (v := 0) rfl ?_
  refine yb_push (v := 999) rfl ?_
  have r1 := h.1
  replace h := h.2
  refine yb_callSz (As := [.int (xJ a1), .int (xJ (0 : Int)), .int (xJ (999 : Int))]) rfl rfl rfl rfl rfl rfl rfl rfl (by decide) (sp_180 (by omega) ⟨r1, (by show (-2147483648 ≤ (0 : Int) ∧ (0 : Int) < 2147483648); decide), (by show (-2147483648 ≤ (999 : Int) ∧ (999 : Int) < 2147483648); decide)⟩ (fun c => ?_) (fun c => ?_))
  · replace h := h.1 c
    show yB D xm_c221 _ L 7 [.ref 146, .int (xJ a1), .double 0, .double 0, .double 0, .double 0, .double 0] [.int (xJ (1 : Int))] (xs d 146 (8 : Int) (0 : Int)) e
    refine yb_if_ne (x := (1 : Int)) rfl rfl (by decide) (fun _ => ?_) (fun c => absurd c (by decide))
    refine yb_aload rfl rfl ?_
    refine yb_aload rfl rfl ?_
    refine yb_get (v := .ref 147) rfl (by decide) (by decide) (rfl) rfl ?_
    refine yb_iload (x := a1) rfl rfl ?_
    refine yb_callVv (As := [.ref 147, .int (xJ a1)]) (a := 146) rfl rfl rfl rfl rfl rfl rfl rfl (by decide) (by decide) (rfl) (by decide) (yV_mono h (fun d2 e3 h => ?_))
    refine yb_push (v := 0) rfl ?_
    refine yb_istore rfl rfl rfl ?_
    refine yb_push (v := 0) rfl ?_
    refine yb_istore rfl rfl rfl ?_
    refine yb_push (v := 0) rfl ?_
    refine yb_istore rfl rfl rfl ?_
    refine yb_forget (dl := [.ref 146, .double 0, .int (xJ (0 : Int)), .int (xJ (0 : Int)), .int (xJ (0 : Int)), .double 0, .double 0]) ⟨Or.inl rfl, ⟨Or.inr ⟨rfl, rfl⟩, ⟨Or.inl rfl, ⟨Or.inl rfl, ⟨Or.inl rfl, ⟨Or.inl rfl, ⟨Or.inl rfl, trivial⟩⟩⟩⟩⟩⟩⟩ ?_
    exact h
  · replace h := h.2 c
    show yB D xm_c221 _ L 7 [.ref 146, .int (xJ a1), .double 0, .double 0, .double 0, .double 0, .double 0] [.int (xJ (0 : Int))] (xs d 146 (8 : Int) (0 : Int)) e
    refine yb_if_ne (x := (0 : Int)) rfl rfl (by decide) (fun c => absurd (by decide) c) (fun _ => ?_)
    refine yb_push (v := (-1)) rfl ?_
    exact yb_ret rfl h
theorem yk_221_21 {D L : Nat} {P : Int → xh_D → xd_E → Prop} {d : xh_D} {e : xd_E}  {l2 : Int} {l3 : Int} {l4 : Int}  (hD : 1 ≤ D) (h : ((-2147483648 ≤ l4 ∧ l4 < 2147483648) ∧ ((-2147483648 ≤ (d 146 (1 : Int)) ∧ (d 146 (1 : Int)) < 2147483648) ∧ ((((d 146 (1 : Int)) ≤ l4) → P l2 (xs (xs (xs d 146 (7 : Int) (0 : Int)) 151 (0 : Int) l3) 146 (7 : Int) ((0 : Int) + 1)) e) ∧ ((¬ (d 146 (1 : Int)) ≤ l4) → (((xi_and (xi_shr (d 146 (25 : Int)) l4) (1 : Int) = 1) → ((0 ≤ l4 ∧ l4 < 9) ∧ ((-2147483648 ≤ (d 155 l4) ∧ (d 155 l4) < 2147483648) ∧ (((¬ (d 155 l4) = (9 : Int)) → yB D xm_c221 (yQi L P) L 47 [.ref 146, .double 0, .int (xJ l2), .int (xJ l3), .int (xJ l4), .int (xJ (0 : Int)), .int (xJ (0 : Int))] [] d e) ∧ (((d 155 l4) = (9 : Int)) → yB D xm_c221 (yQi L P) L 47 [.ref 146, .double 0, .int (xJ (xi_or l2 (xi_shl (1 : Int) l4))), .int (xJ l3), .int (xJ l4), .int (xJ (0 : Int)), .int (xJ (0 : Int))] [] d e))))) ∧ (¬ (xi_and (xi_shr (d 146 (25 : Int)) l4) (1 : Int) = 1) → yB D xm_c221 (yQi L P) L 21 [.ref 146, .double 0, .int (xJ l2), .int (xJ l3), .int (xJ (l4 + 1)), .double 0, .double 0] [] d e))))))) : yB D xm_c221 (yQi L P) L 21 [.ref 146, .double 0, .int (xJ l2), .int (xJ l3), .int (xJ l4), .double 0, .double 0] [] d e := by
  refine yb_iload (x := l4) rfl rfl ?_
  refine yb_aload rfl rfl ?_
  refine yb_get (v := .int (xJ (d 146 (1 : Int)))) rfl (by decide) (by decide) (rfl) rfl ?_
  have r1 := h.1
  replace h := h.2
  have r2 := h.1
  replace h := h.2
  refine yb_icmp_ge (x := l4) (y := (d 146 (1 : Int))) rfl rfl r1 r2 (fun c => ?_) (fun c => ?_)
  · replace h := h.1 c
    refine yb_aload rfl rfl ?_
    refine yb_push (v := 0) rfl ?_
    refine yb_put (z := (0 : Int)) (k := 7) rfl rfl (by decide) (by decide) (rfl) (Nat.le_of_ble_eq_true rfl) rfl (rfl) ?_
    refine yb_aload rfl rfl ?_
    refine yb_iload (x := l3) rfl rfl ?_
    refine yb_callVv (As := [.int (xJ l3)]) (a := 146) rfl rfl rfl rfl rfl rfl rfl rfl (by decide) (by decide) (rfl) (by decide) (sp_183 (by omega) (by show (0 ≤ (0 : Int) ∧ (0 : Int) < 20); decide) ?_)
    show yB D xm_c221 _ L 89 [.ref 146, .double 0, .int (xJ l2), .int (xJ l3), .int (xJ l4), .double 0, .double 0] [] (xs (xs (xs d 146 (7 : Int) (0 : Int)) 151 (0 : Int) l3) 146 (7 : Int) ((0 : Int) + 1)) e
    refine yb_iload (x := l2) rfl rfl ?_
    exact yb_ret rfl h
  · replace h := h.2 c
    refine yb_aload rfl rfl ?_
    refine yb_get (v := .int (xJ (d 146 (25 : Int)))) rfl (by decide) (by decide) (rfl) rfl ?_
    refine yb_iload (x := l4) rfl rfl ?_
    refine yb_callSz (As := [.int (xJ (d 146 (25 : Int))), .int (xJ l4)]) rfl rfl rfl rfl rfl rfl rfl rfl (by decide) (sp_181 (by omega) (fun c => ?_) (fun c => ?_))
    · replace h := h.1 c
      show yB D xm_c221 _ L 29 [.ref 146, .double 0, .int (xJ l2), .int (xJ l3), .int (xJ l4), .double 0, .double 0] [.int (xJ (1 : Int))] d e
      refine yb_if_ne (x := (1 : Int)) rfl rfl (by decide) (fun _ => ?_) (fun c => absurd c (by decide))
      refine yb_aload rfl rfl ?_
      refine yb_get (v := .ref 155) rfl (by decide) (by decide) (rfl) rfl ?_
      refine yb_iload (x := l4) rfl rfl ?_
      have r3 := h.1
      replace h := h.2
      refine yb_iald (j := l4) rfl xd_A155 (by decide) r3 (v := (d 155 l4)) rfl ?_
      refine yb_push (v := 9) rfl ?_
      have r4 := h.1
      replace h := h.2
      refine yb_icmp_ne (x := (d 155 l4)) (y := (9 : Int)) rfl rfl r4 (by decide) (fun c => ?_) (fun c => ?_)
      · replace h := h.1 c
        refine yb_push (v := 0) rfl ?_
        refine yb_istore rfl rfl rfl ?_
        refine yb_push (v := 0) rfl ?_
        refine yb_istore rfl rfl rfl ?_
        exact h
      · replace h := h.2 c
        refine yb_iload (x := l2) rfl rfl ?_
        refine yb_push (v := 1) rfl ?_
        refine yb_iload (x := l4) rfl rfl ?_
        refine yb_ishl (x := (1 : Int)) (y := l4) rfl ?_
        refine yb_ior (x := l2) (y := (xi_shl (1 : Int) l4)) rfl ?_
        refine yb_istore rfl rfl rfl ?_
        refine yb_push (v := 0) rfl ?_
        refine yb_istore rfl rfl rfl ?_
        refine yb_push (v := 0) rfl ?_
        refine yb_istore rfl rfl rfl ?_
        exact h
    · replace h := h.2 c
      show yB D xm_c221 _ L 29 [.ref 146, .double 0, .int (xJ l2), .int (xJ l3), .int (xJ l4), .double 0, .double 0] [.int (xJ (0 : Int))] d e
      refine yb_if_ne (x := (0 : Int)) rfl rfl (by decide) (fun c => absurd (by decide) c) (fun _ => ?_)
      refine yb_goto rfl rfl ?_
      refine yb_iinc (x := l4) (n := 1) rfl rfl rfl rfl ?_
      refine yb_goto rfl rfl ?_
      exact h
theorem yk_221_47 {D L : Nat} {P : Int → xh_D → xd_E → Prop} {d : xh_D} {e : xd_E}  {l2 : Int} {l3 : Int} {l4 : Int} {l5 : Int} {l6 : Int}  (hD : 1 ≤ D) (h : ((-2147483648 ≤ l6 ∧ l6 < 2147483648) ∧ ((-2147483648 ≤ (d 146 (1 : Int)) ∧ (d 146 (1 : Int)) < 2147483648) ∧ ((((d 146 (1 : Int)) ≤ l6) → ((-2147483648 ≤ l5 ∧ l5 < 2147483648) ∧ (((¬ l5 = 0) → yB D xm_c221 (yQi L P) L 21 [.ref 146, .double 0, .int (xJ l2), .int (xJ l3), .int (xJ (l4 + 1)), .double 0, .double 0] [] d e) ∧ ((l5 = 0) → yB D xm_c221 (yQi L P) L 21 [.ref 146, .double 0, .int (xJ l2), .int (xJ (xi_or l3 (xi_shl (1 : Int) l4))), .int (xJ (l4 + 1)), .double 0, .double 0] [] d e)))) ∧ ((¬ (d 146 (1 : Int)) ≤ l6) → ((-2147483648 ≤ l5 ∧ l5 < 2147483648) ∧ (((¬ l5 = 0) → yB D xm_c221 (yQi L P) L 47 [.ref 146, .double 0, .int (xJ l2), .int (xJ l3), .int (xJ l4), .int (xJ (1 : Int)), .int (xJ (l6 + 1))] [] d e) ∧ ((l5 = 0) → (((xi_and (xi_shr (d 146 (25 : Int)) l6) (1 : Int) = 1) → yB D xm_c221 (yQi L P) L 47 [.ref 146, .double 0, .int (xJ l2), .int (xJ l3), .int (xJ l4), .int (xJ (0 : Int)), .int (xJ (l6 + 1))] [] d e) ∧ (¬ (xi_and (xi_shr (d 146 (25 : Int)) l6) (1 : Int) = 1) → ((0 ≤ (((9 : Int) * l4) + l6) ∧ (((9 : Int) * l4) + l6) < 81) ∧ ((-2147483648 ≤ (d 148 (((9 : Int) * l4) + l6)) ∧ (d 148 (((9 : Int) * l4) + l6)) < 2147483648) ∧ ((((d 148 (((9 : Int) * l4) + l6)) ≤ 0) → yB D xm_c221 (yQi L P) L 47 [.ref 146, .double 0, .int (xJ l2), .int (xJ l3), .int (xJ l4), .int (xJ (0 : Int)), .int (xJ (l6 + 1))] [] d e) ∧ ((¬ (d 148 (((9 : Int) * l4) + l6)) ≤ 0) → yB D xm_c221 (yQi L P) L 47 [.ref 146, .double 0, .int (xJ l2), .int (xJ l3), .int (xJ l4), .int (xJ (1 : Int)), .int (xJ (l6 + 1))] [] d e)))))))))))))) : yB D xm_c221 (yQi L P) L 47 [.ref 146, .double 0, .int (xJ l2), .int (xJ l3), .int (xJ l4), .int (xJ l5), .int (xJ l6)] [] d e := by
  refine yb_iload (x := l6) rfl rfl ?_
  refine yb_aload rfl rfl ?_
  refine yb_get (v := .int (xJ (d 146 (1 : Int)))) rfl (by decide) (by decide) (rfl) rfl ?_
  have r1 := h.1
  replace h := h.2
  have r2 := h.1
  replace h := h.2
  refine yb_icmp_ge (x := l6) (y := (d 146 (1 : Int))) rfl rfl r1 r2 (fun c => ?_) (fun c => ?_)
  · replace h := h.1 c
    refine yb_iload (x := l5) rfl rfl ?_
    have r3 := h.1
    replace h := h.2
    refine yb_if_ne (x := l5) rfl rfl r3 (fun c => ?_) (fun c => ?_)
    · replace h := h.1 c
      refine yb_iinc (x := l4) (n := 1) rfl rfl rfl rfl ?_
      refine yb_goto rfl rfl ?_
      refine yb_forget (dl := [.ref 146, .double 0, .int (xJ l2), .int (xJ l3), .int (xJ (l4 + 1)), .double 0, .double 0]) ⟨Or.inl rfl, ⟨Or.inl rfl, ⟨Or.inl rfl, ⟨Or.inl rfl, ⟨Or.inl rfl, ⟨Or.inr ⟨rfl, rfl⟩, ⟨Or.inr ⟨rfl, rfl⟩, trivial⟩⟩⟩⟩⟩⟩⟩ ?_
      exact h
    · replace h := h.2 c
      refine yb_iload (x := l3) rfl rfl ?_
      refine yb_push (v := 1) rfl ?_
      refine yb_iload (x := l4) rfl rfl ?_
      refine yb_ishl (x := (1 : Int)) (y := l4) rfl ?_
      refine yb_ior (x := l3) (y := (xi_shl (1 : Int) l4)) rfl ?_
      refine yb_istore rfl rfl rfl ?_
      refine yb_iinc (x := l4) (n := 1) rfl rfl rfl rfl ?_
      refine yb_goto rfl rfl ?_
      refine yb_forget (dl := [.ref 146, .double 0, .int (xJ l2), .int (xJ (xi_or l3 (xi_shl (1 : Int) l4))), .int (xJ (l4 + 1)), .double 0, .double 0]) ⟨Or.inl rfl, ⟨Or.inl rfl, ⟨Or.inl rfl, ⟨Or.inl rfl, ⟨Or.inl rfl, ⟨Or.inr ⟨rfl, rfl⟩, ⟨Or.inr ⟨rfl, rfl⟩, trivial⟩⟩⟩⟩⟩⟩⟩ ?_
      exact h
  · replace h := h.2 c
    refine yb_iload (x := l5) rfl rfl ?_
    have r4 := h.1
    replace h := h.2
    refine yb_if_ne (x := l5) rfl rfl r4 (fun c => ?_) (fun c => ?_)
    · replace h := h.1 c
      refine yb_push (v := 1) rfl ?_
      refine yb_goto rfl rfl ?_
      refine yb_istore rfl rfl rfl ?_
      refine yb_iinc (x := l6) (n := 1) rfl rfl rfl rfl ?_
      refine yb_goto rfl rfl ?_
      exact h
    · replace h := h.2 c
      refine yb_aload rfl rfl ?_
      refine yb_get (v := .int (xJ (d 146 (25 : Int)))) rfl (by decide) (by decide) (rfl) rfl ?_
      refine yb_iload (x := l6) rfl rfl ?_
      refine yb_callSz (As := [.int (xJ (d 146 (25 : Int))), .int (xJ l6)]) rfl rfl rfl rfl rfl rfl rfl rfl (by decide) (sp_181 (by omega) (fun c => ?_) (fun c => ?_))
      · replace h := h.1 c
        show yB D xm_c221 _ L 57 [.ref 146, .double 0, .int (xJ l2), .int (xJ l3), .int (xJ l4), .int (xJ l5), .int (xJ l6)] [.int (xJ (1 : Int))] d e
        refine yb_if_ne (x := (1 : Int)) rfl rfl (by decide) (fun _ => ?_) (fun c => absurd c (by decide))
        refine yb_push (v := 0) rfl ?_
        refine yb_istore rfl rfl rfl ?_
        refine yb_iinc (x := l6) (n := 1) rfl rfl rfl rfl ?_
        refine yb_goto rfl rfl ?_
        exact h
      · replace h := h.2 c
        show yB D xm_c221 _ L 57 [.ref 146, .double 0, .int (xJ l2), .int (xJ l3), .int (xJ l4), .int (xJ l5), .int (xJ l6)] [.int (xJ (0 : Int))] d e
        refine yb_if_ne (x := (0 : Int)) rfl rfl (by decide) (fun c => absurd (by decide) c) (fun _ => ?_)
        refine yb_aload rfl rfl ?_
        refine yb_get (v := .ref 148) rfl (by decide) (by decide) (rfl) rfl ?_
        refine yb_push (v := 9) rfl ?_
        refine yb_iload (x := l4) rfl rfl ?_
        refine yb_imul (x := (9 : Int)) (y := l4) rfl ?_
        refine yb_iload (x := l6) rfl rfl ?_
        refine yb_iadd (x := ((9 : Int) * l4)) (y := l6) rfl ?_
        have r5 := h.1
        replace h := h.2
        refine yb_iald (j := (((9 : Int) * l4) + l6)) rfl xd_A148 (by decide) r5 (v := (d 148 (((9 : Int) * l4) + l6))) rfl ?_
        have r6 := h.1
        replace h := h.2
        refine yb_if_le (x := (d 148 (((9 : Int) * l4) + l6))) rfl rfl r6 (fun c => ?_) (fun c => ?_)
        · replace h := h.1 c
          refine yb_push (v := 0) rfl ?_
          refine yb_istore rfl rfl rfl ?_
          refine yb_iinc (x := l6) (n := 1) rfl rfl rfl rfl ?_
          refine yb_goto rfl rfl ?_
          exact h
        · replace h := h.2 c
          refine yb_push (v := 1) rfl ?_
          refine yb_goto rfl rfl ?_
          refine yb_istore rfl rfl rfl ?_
          refine yb_iinc (x := l6) (n := 1) rfl rfl rfl rfl ?_
          refine yb_goto rfl rfl ?_
          exact h
theorem yk_222_0 {D L : Nat} {P : Int → xh_D → xd_E → Prop} {d : xh_D} {e : xd_E}    (h : yB D xm_c222 (yQi L P) L 11 [.ref 146, .int (xJ (-1 : Int)), .int (xJ (0 : Int)), .int (xJ (0 : Int)), .int (xJ (0 : Int))] [] (xs d 146 (8 : Int) (0 : Int)) e) : yB D xm_c222 (yQi L P) L 0 [.ref 146, .double 0, .double 0, .double 0, .double 0] [] d e := by
  refine yb_aload rfl rfl ?_
  refine yb_push (v := 0) rfl ?_
  refine yb_put (z := (0 : Int)) (k := 8) rfl rfl (by decide) (by decide) (rfl) (Nat.le_of_ble_eq_true rfl) rfl (rfl) ?_
  refine yb_push (v := (-1)) rfl ?_
  refine yb_istore rfl rfl rfl ?_
  refine yb_push (v := 0) rfl ?_
  refine yb_istore rfl rfl rfl ?_
  refine yb_push (v := 0) rfl ?_
  refine yb_istore rfl rfl rfl ?_
  refine yb_push (v := 0) rfl ?_
  refine yb_istore rfl rfl rfl ?_
  exact h
theorem yk_222_11 {D L : Nat} {P : Int → xh_D → xd_E → Prop} {d : xh_D} {e : xd_E}  {l1 : Int} {l2 : Int} {l3 : Int} {l4 : Int}  (hD : 1 ≤ D) (h : ((-2147483648 ≤ l4 ∧ l4 < 2147483648) ∧ ((((9 : Int) ≤ l4) → P l1 (xs (xs (xs (xs (xs d 146 (7 : Int) (0 : Int)) 151 (0 : Int) l2) 146 (7 : Int) ((0 : Int) + 1)) 151 ((0 : Int) + 1) l3) 146 (7 : Int) (((0 : Int) + 1) + 1)) e) ∧ ((¬ (9 : Int) ≤ l4) → yV D 219 L [.ref 146, .ref 147, .int (xJ ((d 147 (81 : Int)) + l4))] d e (fun d2 e3 => ((-2147483648 ≤ l1 ∧ l1 < 2147483648) ∧ (((l1 = (-1 : Int)) → yB D xm_c222 (yQi L P) L 40 [.ref 146, .double 0, .double 0, .double 0, .int (xJ l4)] [] d2 e3) ∧ ((¬ l1 = (-1 : Int)) → ((-2147483648 ≤ (d2 146 (26 : Int)) ∧ (d2 146 (26 : Int)) < 2147483648) ∧ ((-2147483648 ≤ l2 ∧ l2 < 2147483648) ∧ ((((d2 146 (26 : Int)) < l2) → yB D xm_c222 (yQi L P) L 11 [.ref 146, .int (xJ l1), .int (xJ l2), .int (xJ l3), .int (xJ (l4 + 1))] [] d2 e3) ∧ ((¬ (d2 146 (26 : Int)) < l2) → (((¬ (d2 146 (26 : Int)) = l2) → yB D xm_c222 (yQi L P) L 40 [.ref 146, .double 0, .double 0, .double 0, .int (xJ l4)] [] d2 e3) ∧ (((d2 146 (26 : Int)) = l2) → ((-2147483648 ≤ (d2 146 (27 : Int)) ∧ (d2 146 (27 : Int)) < 2147483648) ∧ ((-2147483648 ≤ l3 ∧ l3 < 2147483648) ∧ (((l3 < (d2 146 (27 : Int))) → yB D xm_c222 (yQi L P) L 40 [.ref 146, .double 0, .double 0, .double 0, .int (xJ l4)] [] d2 e3) ∧ ((¬ l3 < (d2 146 (27 : Int))) → yB D xm_c222 (yQi L P) L 11 [.ref 146, .int (xJ l1), .int (xJ l2), .int (xJ l3), .int (xJ (l4 + 1))] [] d2 e3)))))))))))))))))) : yB D xm_c222 (yQi L P) L 11 [.ref 146, .int (xJ l1), .int (xJ l2), .int (xJ l3), .int (xJ l4)] [] d e := by
  refine yb_iload (x := l4) rfl rfl ?_
  refine yb_push (v := 9) rfl ?_
  have r1 := h.1
  replace h := h.2
  refine yb_icmp_ge (x := l4) (y := (9 : Int)) rfl rfl r1 (by decide) (fun c => ?_) (fun c => ?_)
  · replace h := h.1 c
    refine yb_aload rfl rfl ?_
    refine yb_push (v := 0) rfl ?_
    refine yb_put (z := (0 : Int)) (k := 7) rfl rfl (by decide) (by decide) (rfl) (Nat.le_of_ble_eq_true rfl) rfl (rfl) ?_
    refine yb_aload rfl rfl ?_
    refine yb_iload (x := l2) rfl rfl ?_
    refine yb_callVv (As := [.int (xJ l2)]) (a := 146) rfl rfl rfl rfl rfl rfl rfl rfl (by decide) (by decide) (rfl) (by decide) (sp_183 (by omega) (by show (0 ≤ (0 : Int) ∧ (0 : Int) < 20); decide) ?_)
    show yB D xm_c222 _ L 63 [.ref 146, .int (xJ l1), .int (xJ l2), .int (xJ l3), .int (xJ l4)] [] (xs (xs (xs d 146 (7 : Int) (0 : Int)) 151 (0 : Int) l2) 146 (7 : Int) ((0 : Int) + 1)) e
    refine yb_aload rfl rfl ?_
    refine yb_iload (x := l3) rfl rfl ?_
    refine yb_callVv (As := [.int (xJ l3)]) (a := 146) rfl rfl rfl rfl rfl rfl rfl rfl (by decide) (by decide) (rfl) (by decide) (sp_183 (by omega) (by show (0 ≤ ((0 : Int) + 1) ∧ ((0 : Int) + 1) < 20); decide) ?_)
    show yB D xm_c222 _ L 66 [.ref 146, .int (xJ l1), .int (xJ l2), .int (xJ l3), .int (xJ l4)] [] (xs (xs (xs (xs (xs d 146 (7 : Int) (0 : Int)) 151 (0 : Int) l2) 146 (7 : Int) ((0 : Int) + 1)) 151 ((0 : Int) + 1) l3) 146 (7 : Int) (((0 : Int) + 1) + 1)) e
    refine yb_iload (x := l1) rfl rfl ?_
    exact yb_ret rfl h
  · replace h := h.2 c
    refine yb_aload rfl rfl ?_
    refine yb_aload rfl rfl ?_
    refine yb_get (v := .ref 147) rfl (by decide) (by decide) (rfl) rfl ?_
    refine yb_aload rfl rfl ?_
    refine yb_get (v := .ref 147) rfl (by decide) (by decide) (rfl) rfl ?_
    refine yb_push (v := 81) rfl ?_
    refine yb_iald (j := (81 : Int)) rfl xd_A147 (by decide) (by decide) (v := (d 147 (81 : Int))) rfl ?_
    refine yb_iload (x := l4) rfl rfl ?_
    refine yb_iadd (x := (d 147 (81 : Int))) (y := l4) rfl ?_
    refine yb_callVv (As := [.ref 147, .int (xJ ((d 147 (81 : Int)) + l4))]) (a := 146) rfl rfl rfl rfl rfl rfl rfl rfl (by decide) (by decide) (rfl) (by decide) (yV_mono h (fun d2 e3 h => ?_))
    refine yb_iload (x := l1) rfl rfl ?_
    refine yb_push (v := (-1)) rfl ?_
    have r4 := h.1
    replace h := h.2
    refine yb_icmp_eq (x := l1) (y := (-1 : Int)) rfl rfl r4 (by decide) (fun c => ?_) (fun c => ?_)
    · replace h := h.1 c
      refine yb_forget (dl := [.ref 146, .double 0, .double 0, .double 0, .int (xJ l4)]) ⟨Or.inl rfl, ⟨Or.inr ⟨rfl, rfl⟩, ⟨Or.inr ⟨rfl, rfl⟩, ⟨Or.inr ⟨rfl, rfl⟩, ⟨Or.inl rfl, trivial⟩⟩⟩⟩⟩ ?_
      exact h
    · replace h := h.2 c
      refine yb_aload rfl rfl ?_
      refine yb_get (v := .int (xJ (d2 146 (26 : Int)))) rfl (by decide) (by decide) (rfl) rfl ?_
      refine yb_iload (x := l2) rfl rfl ?_
      have r5 := h.1
      replace h := h.2
      have r6 := h.1
      replace h := h.2
      refine yb_icmp_lt (x := (d2 146 (26 : Int))) (y := l2) rfl rfl r5 r6 (fun c => ?_) (fun c => ?_)
      · replace h := h.1 c
        refine yb_iinc (x := l4) (n := 1) rfl rfl rfl rfl ?_
        refine yb_goto rfl rfl ?_
        exact h
      · replace h := h.2 c
        refine yb_aload rfl rfl ?_
        refine yb_get (v := .int (xJ (d2 146 (26 : Int)))) rfl (by decide) (by decide) (rfl) rfl ?_
        refine yb_iload (x := l2) rfl rfl ?_
        refine yb_icmp_ne (x := (d2 146 (26 : Int))) (y := l2) rfl rfl r5 r6 (fun c => ?_) (fun c => ?_)
        · replace h := h.1 c
          refine yb_forget (dl := [.ref 146, .double 0, .double 0, .double 0, .int (xJ l4)]) ⟨Or.inl rfl, ⟨Or.inr ⟨rfl, rfl⟩, ⟨Or.inr ⟨rfl, rfl⟩, ⟨Or.inr ⟨rfl, rfl⟩, ⟨Or.inl rfl, trivial⟩⟩⟩⟩⟩ ?_
          exact h
        · replace h := h.2 c
          refine yb_aload rfl rfl ?_
          refine yb_get (v := .int (xJ (d2 146 (27 : Int)))) rfl (by decide) (by decide) (rfl) rfl ?_
          refine yb_iload (x := l3) rfl rfl ?_
          have r7 := h.1
          replace h := h.2
          have r8 := h.1
          replace h := h.2
          refine yb_icmp_gt (x := (d2 146 (27 : Int))) (y := l3) rfl rfl r7 r8 (fun c => ?_) (fun c => ?_)
          · replace h := h.1 c
            refine yb_forget (dl := [.ref 146, .double 0, .double 0, .double 0, .int (xJ l4)]) ⟨Or.inl rfl, ⟨Or.inr ⟨rfl, rfl⟩, ⟨Or.inr ⟨rfl, rfl⟩, ⟨Or.inr ⟨rfl, rfl⟩, ⟨Or.inl rfl, trivial⟩⟩⟩⟩⟩ ?_
            exact h
          · replace h := h.2 c
            refine yb_goto rfl rfl ?_
            refine yb_iinc (x := l4) (n := 1) rfl rfl rfl rfl ?_
            refine yb_goto rfl rfl ?_
            exact h
theorem yk_222_40 {D L : Nat} {P : Int → xh_D → xd_E → Prop} {d : xh_D} {e : xd_E}  {l4 : Int}  (h : ((0 ≤ ((d 147 (81 : Int)) + l4) ∧ ((d 147 (81 : Int)) + l4) < 2147483648) ∧ yB D xm_c222 (yQi L P) L 11 [.ref 146, .int (xJ (((d 147 (81 : Int)) + l4) % (9 : Int))), .int (xJ (d 146 (26 : Int))), .int (xJ (d 146 (27 : Int))), .int (xJ (l4 + 1))] [] d e)) : yB D xm_c222 (yQi L P) L 40 [.ref 146, .double 0, .double 0, .double 0, .int (xJ l4)] [] d e := by
  refine yb_aload rfl rfl ?_
  refine yb_get (v := .ref 147) rfl (by decide) (by decide) (rfl) rfl ?_
  refine yb_push (v := 81) rfl ?_
  refine yb_iald (j := (81 : Int)) rfl xd_A147 (by decide) (by decide) (v := (d 147 (81 : Int))) rfl ?_
  refine yb_iload (x := l4) rfl rfl ?_
  refine yb_iadd (x := (d 147 (81 : Int))) (y := l4) rfl ?_
  refine yb_push (v := 9) rfl ?_
  have r1 := h.1
  replace h := h.2
  refine yb_irem (x := ((d 147 (81 : Int)) + l4)) (y := (9 : Int)) rfl r1 (by decide) ?_
  refine yb_istore rfl rfl rfl ?_
  refine yb_aload rfl rfl ?_
  refine yb_get (v := .int (xJ (d 146 (26 : Int)))) rfl (by decide) (by decide) (rfl) rfl ?_
  refine yb_istore rfl rfl rfl ?_
  refine yb_aload rfl rfl ?_
  refine yb_get (v := .int (xJ (d 146 (27 : Int)))) rfl (by decide) (by decide) (rfl) rfl ?_
  refine yb_istore rfl rfl rfl ?_
  refine yb_iinc (x := l4) (n := 1) rfl rfl rfl rfl ?_
  refine yb_goto rfl rfl ?_
  exact h
theorem yk_223_147_0 {D L : Nat} {P : xh_D → xd_E → Prop} {d : xh_D} {e : xd_E}    (hD : 1 ≤ D) (h : yV D 219 L [.ref 146, .ref 147, .int (xJ (d 147 (81 : Int)))] d e (fun d1 e2 => ((0 ≤ (d1 147 (81 : Int)) ∧ (d1 147 (81 : Int)) < 2147483648) ∧ (∀ v4, v4 = ((83 : Int) + ((9 : Int) * ((d1 147 (81 : Int)) % (30 : Int)))) → yB D xm_c223 (yQv L P) L 29 [.ref 146, .ref 147, .int (xJ v4), .int (xJ (0 : Int))] [] (xs (xs d1 146 (28 : Int) ((xp_bc (d1 146 (25 : Int))) - (d1 146 (26 : Int)))) 146 (29 : Int) (0 : Int)) e2)))) : yB D xm_c223 (yQv L P) L 0 [.ref 146, .ref 147, .double 0, .double 0] [] d e := by
  refine yb_aload rfl rfl ?_
  refine yb_aload rfl rfl ?_
  refine yb_aload rfl rfl ?_
  refine yb_push (v := 81) rfl ?_
  refine yb_iald (j := (81 : Int)) rfl xd_A147 (by decide) (by decide) (v := (d 147 (81 : Int))) rfl ?_
  refine yb_callVv (As := [.ref 147, .int (xJ (d 147 (81 : Int)))]) (a := 146) rfl rfl rfl rfl rfl rfl rfl rfl (by decide) (by decide) (rfl) (by decide) (yV_mono h (fun d1 e2 h => ?_))
  refine yb_aload rfl rfl ?_
  refine yb_aload rfl rfl ?_
  refine yb_get (v := .int (xJ (d1 146 (25 : Int)))) rfl (by decide) (by decide) (rfl) rfl ?_
  refine yb_callSi (As := [.int (xJ (d1 146 (25 : Int)))]) rfl rfl rfl rfl rfl rfl rfl rfl (by show (1 : Nat) ≤ 8; decide) (sp_0 (by omega) ?_)
  show yB D xm_c223 _ L 10 [.ref 146, .ref 147, .double 0, .double 0] [.int (xJ (xp_bc (d1 146 (25 : Int)))), .ref 146] d1 e2
  refine yb_aload rfl rfl ?_
  refine yb_get (v := .int (xJ (d1 146 (26 : Int)))) rfl (by decide) (by decide) (rfl) rfl ?_
  refine yb_isub (x := (xp_bc (d1 146 (25 : Int)))) (y := (d1 146 (26 : Int))) rfl ?_
  refine yb_put (z := ((xp_bc (d1 146 (25 : Int))) - (d1 146 (26 : Int)))) (k := 28) rfl rfl (by decide) (by decide) (rfl) (Nat.le_of_ble_eq_true rfl) rfl (rfl) ?_
  refine yb_aload rfl rfl ?_
  refine yb_push (v := 0) rfl ?_
  refine yb_put (z := (0 : Int)) (k := 29) rfl rfl (by decide) (by decide) (rfl) (Nat.le_of_ble_eq_true rfl) rfl (rfl) ?_
  refine yb_push (v := 83) rfl ?_
  refine yb_push (v := 9) rfl ?_
  refine yb_aload rfl rfl ?_
  refine yb_push (v := 81) rfl ?_
  refine yb_iald (j := (81 : Int)) rfl xd_A147 (by decide) (by decide) (v := (d1 147 (81 : Int))) ((xs_np (by decide)).trans (xs_np (by decide))) ?_
  refine yb_push (v := 30) rfl ?_
  have r3 := h.1
  replace h := h.2
  refine yb_irem (x := (d1 147 (81 : Int))) (y := (30 : Int)) rfl r3 (by decide) ?_
  refine yb_imul (x := (9 : Int)) (y := ((d1 147 (81 : Int)) % (30 : Int))) rfl ?_
  refine yb_iadd (x := (83 : Int)) (y := ((9 : Int) * ((d1 147 (81 : Int)) % (30 : Int)))) rfl ?_
  replace h := h _ rfl
  refine yb_istore rfl rfl rfl ?_
  refine yb_push (v := 0) rfl ?_
  refine yb_istore rfl rfl rfl ?_
  exact h
theorem yk_223_147_29 {D L : Nat} {P : xh_D → xd_E → Prop} {d : xh_D} {e : xd_E}  {l2 : Int} {l3 : Int}  (hD : 1 ≤ D) (h : ((-2147483648 ≤ l3 ∧ l3 < 2147483648) ∧ ((-2147483648 ≤ (d 146 (1 : Int)) ∧ (d 146 (1 : Int)) < 2147483648) ∧ ((((d 146 (1 : Int)) ≤ l3) → ((-2147483648 ≤ ((d 147 (82 : Int)) + (1 : Int)) ∧ ((d 147 (82 : Int)) + (1 : Int)) < 2147483648) ∧ P (xs (xs d 147 (81 : Int) ((d 147 (81 : Int)) + (1 : Int))) 147 (82 : Int) (min (30 : Int) ((d 147 (82 : Int)) + (1 : Int)))) e)) ∧ ((¬ (d 146 (1 : Int)) ≤ l3) → ((0 ≤ l3 ∧ l3 < 9) ∧ ((0 ≤ (l2 + l3) ∧ (l2 + l3) < 353) ∧ ((-2147483648 ≤ (d 155 l3) ∧ (d 155 l3) < 2147483648) ∧ ((((9 : Int) ≤ (d 155 l3)) → yB D xm_c223 (yQv L P) L 29 [.ref 146, .ref 147, .int (xJ l2), .int (xJ (l3 + 1))] [] (xs d 147 (l2 + l3) (d 155 l3)) e) ∧ ((¬ (9 : Int) ≤ (d 155 l3)) → yV D 224 L [.ref 146, .ref 147, .int (xJ l3), .int (xJ (d 155 l3))] (xs d 147 (l2 + l3) (d 155 l3)) e (fun d7 e8 => yB D xm_c223 (yQv L P) L 29 [.ref 146, .ref 147, .int (xJ l2), .int (xJ (l3 + 1))] [] d7 e8))))))))))) : yB D xm_c223 (yQv L P) L 29 [.ref 146, .ref 147, .int (xJ l2), .int (xJ l3)] [] d e := by
  refine yb_iload (x := l3) rfl rfl ?_
  refine yb_aload rfl rfl ?_
  refine yb_get (v := .int (xJ (d 146 (1 : Int)))) rfl (by decide) (by decide) (rfl) rfl ?_
  have r1 := h.1
  replace h := h.2
  have r2 := h.1
  replace h := h.2
  refine yb_icmp_ge (x := l3) (y := (d 146 (1 : Int))) rfl rfl r1 r2 (fun c => ?_) (fun c => ?_)
  · replace h := h.1 c
    refine yb_aload rfl rfl ?_
    refine yb_push (v := 81) rfl ?_
    refine yb_dup2 rfl rfl rfl ?_
    refine yb_iald (j := (81 : Int)) rfl xd_A147 (by decide) (by decide) (v := (d 147 (81 : Int))) rfl ?_
    refine yb_push (v := 1) rfl ?_
    refine yb_iadd (x := (d 147 (81 : Int))) (y := (1 : Int)) rfl ?_
    refine yb_iast (j := (81 : Int)) (x := ((d 147 (81 : Int)) + (1 : Int))) rfl xd_A147 (by decide) (by decide) ?_
    refine yb_aload rfl rfl ?_
    refine yb_push (v := 82) rfl ?_
    refine yb_push (v := 30) rfl ?_
    refine yb_aload rfl rfl ?_
    refine yb_push (v := 82) rfl ?_
    refine yb_iald (j := (82 : Int)) rfl xd_A147 (by decide) (by decide) (v := (d 147 (82 : Int))) (xs_ni (by decide)) ?_
    refine yb_push (v := 1) rfl ?_
    refine yb_iadd (x := (d 147 (82 : Int))) (y := (1 : Int)) rfl ?_
    have r3 := h.1
    replace h := h.2
    refine yb_callSi (As := [.int (xJ (30 : Int)), .int (xJ ((d 147 (82 : Int)) + (1 : Int)))]) rfl rfl rfl rfl rfl rfl rfl rfl (by show (2 : Nat) ≤ 8; decide) (sp_5 (by omega) ⟨(by show (-2147483648 ≤ (30 : Int) ∧ (30 : Int) < 2147483648); decide), r3⟩ ?_)
    show yB D xm_c223 _ L 74 [.ref 146, .ref 147, .int (xJ l2), .int (xJ l3)] [.int (xJ (min (30 : Int) ((d 147 (82 : Int)) + (1 : Int)))), .int (xJ (82 : Int)), .ref 147] (xs d 147 (81 : Int) ((d 147 (81 : Int)) + (1 : Int))) e
    refine yb_iast (j := (82 : Int)) (x := (min (30 : Int) ((d 147 (82 : Int)) + (1 : Int)))) rfl xd_A147 (by decide) (by decide) ?_
    exact yb_retv rfl h
  · replace h := h.2 c
    refine yb_aload rfl rfl ?_
    refine yb_iload (x := l2) rfl rfl ?_
    refine yb_iload (x := l3) rfl rfl ?_
    refine yb_iadd (x := l2) (y := l3) rfl ?_
    refine yb_aload rfl rfl ?_
    refine yb_get (v := .ref 155) rfl (by decide) (by decide) (rfl) rfl ?_
    refine yb_iload (x := l3) rfl rfl ?_
    have r4 := h.1
    replace h := h.2
    refine yb_iald (j := l3) rfl xd_A155 (by decide) r4 (v := (d 155 l3)) rfl ?_
    have r5 := h.1
    replace h := h.2
    refine yb_iast (j := (l2 + l3)) (x := (d 155 l3)) rfl xd_A147 (by decide) r5 ?_
    refine yb_aload rfl rfl ?_
    refine yb_get (v := .ref 155) rfl (by decide) (by decide) (rfl) rfl ?_
    refine yb_iload (x := l3) rfl rfl ?_
    refine yb_iald (j := l3) rfl xd_A155 (by decide) r4 (v := (d 155 l3)) (xs_np (by decide)) ?_
    refine yb_push (v := 9) rfl ?_
    have r6 := h.1
    replace h := h.2
    refine yb_icmp_ge (x := (d 155 l3)) (y := (9 : Int)) rfl rfl r6 (by decide) (fun c => ?_) (fun c => ?_)
    · replace h := h.1 c
      refine yb_iinc (x := l3) (n := 1) rfl rfl rfl rfl ?_
      refine yb_goto rfl rfl ?_
      exact h
    · replace h := h.2 c
      refine yb_aload rfl rfl ?_
      refine yb_aload rfl rfl ?_
      refine yb_iload (x := l3) rfl rfl ?_
      refine yb_aload rfl rfl ?_
      refine yb_get (v := .ref 155) rfl (by decide) (by decide) (rfl) rfl ?_
      refine yb_iload (x := l3) rfl rfl ?_
      refine yb_iald (j := l3) rfl xd_A155 (by decide) r4 (v := (d 155 l3)) (xs_np (by decide)) ?_
      refine yb_callVv (As := [.ref 147, .int (xJ l3), .int (xJ (d 155 l3))]) (a := 146) rfl rfl rfl rfl rfl rfl rfl rfl (by decide) (by decide) (rfl) (by decide) (yV_mono h (fun d7 e8 h => ?_))
      refine yb_iinc (x := l3) (n := 1) rfl rfl rfl rfl ?_
      refine yb_goto rfl rfl ?_
      exact h
theorem yk_223_162_0 {D L : Nat} {P : xh_D → xd_E → Prop} {d : xh_D} {e : xd_E}    (hD : 1 ≤ D) (h : yV D 219 L [.ref 146, .ref 162, .int (xJ (d 162 (81 : Int)))] d e (fun d1 e2 => ((0 ≤ (d1 162 (81 : Int)) ∧ (d1 162 (81 : Int)) < 2147483648) ∧ (∀ v4, v4 = ((83 : Int) + ((9 : Int) * ((d1 162 (81 : Int)) % (30 : Int)))) → yB D xm_c223 (yQv L P) L 29 [.ref 146, .ref 162, .int (xJ v4), .int (xJ (0 : Int))] [] (xs (xs d1 146 (28 : Int) ((xp_bc (d1 146 (25 : Int))) - (d1 146 (26 : Int)))) 146 (29 : Int) (0 : Int)) e2)))) : yB D xm_c223 (yQv L P) L 0 [.ref 146, .ref 162, .double 0, .double 0] [] d e := by
  refine yb_aload rfl rfl ?_
  refine yb_aload rfl rfl ?_
  refine yb_aload rfl rfl ?_
  refine yb_push (v := 81) rfl ?_
  refine yb_iald (j := (81 : Int)) rfl xd_A162 (by decide) (by decide) (v := (d 162 (81 : Int))) rfl ?_
  refine yb_callVv (As := [.ref 162, .int (xJ (d 162 (81 : Int)))]) (a := 146) rfl rfl rfl rfl rfl rfl rfl rfl (by decide) (by decide) (rfl) (by decide) (yV_mono h (fun d1 e2 h => ?_))
  refine yb_aload rfl rfl ?_
  refine yb_aload rfl rfl ?_
  refine yb_get (v := .int (xJ (d1 146 (25 : Int)))) rfl (by decide) (by decide) (rfl) rfl ?_
  refine yb_callSi (As := [.int (xJ (d1 146 (25 : Int)))]) rfl rfl rfl rfl rfl rfl rfl rfl (by show (1 : Nat) ≤ 8; decide) (sp_0 (by omega) ?_)
  show yB D xm_c223 _ L 10 [.ref 146, .ref 162, .double 0, .double 0] [.int (xJ (xp_bc (d1 146 (25 : Int)))), .ref 146] d1 e2
  refine yb_aload rfl rfl ?_
  refine yb_get (v := .int (xJ (d1 146 (26 : Int)))) rfl (by decide) (by decide) (rfl) rfl ?_
  refine yb_isub (x := (xp_bc (d1 146 (25 : Int)))) (y := (d1 146 (26 : Int))) rfl ?_
  refine yb_put (z := ((xp_bc (d1 146 (25 : Int))) - (d1 146 (26 : Int)))) (k := 28) rfl rfl (by decide) (by decide) (rfl) (Nat.le_of_ble_eq_true rfl) rfl (rfl) ?_
  refine yb_aload rfl rfl ?_
  refine yb_push (v := 0) rfl ?_
  refine yb_put (z := (0 : Int)) (k := 29) rfl rfl (by decide) (by decide) (rfl) (Nat.le_of_ble_eq_true rfl) rfl (rfl) ?_
  refine yb_push (v := 83) rfl ?_
  refine yb_push (v := 9) rfl ?_
  refine yb_aload rfl rfl ?_
  refine yb_push (v := 81) rfl ?_
  refine yb_iald (j := (81 : Int)) rfl xd_A162 (by decide) (by decide) (v := (d1 162 (81 : Int))) ((xs_np (by decide)).trans (xs_np (by decide))) ?_
  refine yb_push (v := 30) rfl ?_
  have r3 := h.1
  replace h := h.2
  refine yb_irem (x := (d1 162 (81 : Int))) (y := (30 : Int)) rfl r3 (by decide) ?_
  refine yb_imul (x := (9 : Int)) (y := ((d1 162 (81 : Int)) % (30 : Int))) rfl ?_
  refine yb_iadd (x := (83 : Int)) (y := ((9 : Int) * ((d1 162 (81 : Int)) % (30 : Int)))) rfl ?_
  replace h := h _ rfl
  refine yb_istore rfl rfl rfl ?_
  refine yb_push (v := 0) rfl ?_
  refine yb_istore rfl rfl rfl ?_
  exact h
theorem yk_223_162_29 {D L : Nat} {P : xh_D → xd_E → Prop} {d : xh_D} {e : xd_E}  {l2 : Int} {l3 : Int}  (hD : 1 ≤ D) (h : ((-2147483648 ≤ l3 ∧ l3 < 2147483648) ∧ ((-2147483648 ≤ (d 146 (1 : Int)) ∧ (d 146 (1 : Int)) < 2147483648) ∧ ((((d 146 (1 : Int)) ≤ l3) → ((-2147483648 ≤ ((d 162 (82 : Int)) + (1 : Int)) ∧ ((d 162 (82 : Int)) + (1 : Int)) < 2147483648) ∧ P (xs (xs d 162 (81 : Int) ((d 162 (81 : Int)) + (1 : Int))) 162 (82 : Int) (min (30 : Int) ((d 162 (82 : Int)) + (1 : Int)))) e)) ∧ ((¬ (d 146 (1 : Int)) ≤ l3) → ((0 ≤ l3 ∧ l3 < 9) ∧ ((0 ≤ (l2 + l3) ∧ (l2 + l3) < 353) ∧ ((-2147483648 ≤ (d 155 l3) ∧ (d 155 l3) < 2147483648) ∧ ((((9 : Int) ≤ (d 155 l3)) → yB D xm_c223 (yQv L P) L 29 [.ref 146, .ref 162, .int (xJ l2), .int (xJ (l3 + 1))] [] (xs d 162 (l2 + l3) (d 155 l3)) e) ∧ ((¬ (9 : Int) ≤ (d 155 l3)) → yV D 224 L [.ref 146, .ref 162, .int (xJ l3), .int (xJ (d 155 l3))] (xs d 162 (l2 + l3) (d 155 l3)) e (fun d7 e8 => yB D xm_c223 (yQv L P) L 29 [.ref 146, .ref 162, .int (xJ l2), .int (xJ (l3 + 1))] [] d7 e8))))))))))) : yB D xm_c223 (yQv L P) L 29 [.ref 146, .ref 162, .int (xJ l2), .int (xJ l3)] [] d e := by
  refine yb_iload (x := l3) rfl rfl ?_
  refine yb_aload rfl rfl ?_
  refine yb_get (v := .int (xJ (d 146 (1 : Int)))) rfl (by decide) (by decide) (rfl) rfl ?_
  have r1 := h.1
  replace h := h.2
  have r2 := h.1
  replace h := h.2
  refine yb_icmp_ge (x := l3) (y := (d 146 (1 : Int))) rfl rfl r1 r2 (fun c => ?_) (fun c => ?_)
  · replace h := h.1 c
    refine yb_aload rfl rfl ?_
    refine yb_push (v := 81) rfl ?_
    refine yb_dup2 rfl rfl rfl ?_
    refine yb_iald (j := (81 : Int)) rfl xd_A162 (by decide) (by decide) (v := (d 162 (81 : Int))) rfl ?_
    refine yb_push (v := 1) rfl ?_
    refine yb_iadd (x := (d 162 (81 : Int))) (y := (1 : Int)) rfl ?_
    refine yb_iast (j := (81 : Int)) (x := ((d 162 (81 : Int)) + (1 : Int))) rfl xd_A162 (by decide) (by decide) ?_
    refine yb_aload rfl rfl ?_
    refine yb_push (v := 82) rfl ?_
    refine yb_push (v := 30) rfl ?_
    refine yb_aload rfl rfl ?_
    refine yb_push (v := 82) rfl ?_
    refine yb_iald (j := (82 : Int)) rfl xd_A162 (by decide) (by decide) (v := (d 162 (82 : Int))) (xs_ni (by decide)) ?_
    refine yb_push (v := 1) rfl ?_
    refine yb_iadd (x := (d 162 (82 : Int))) (y := (1 : Int)) rfl ?_
    have r3 := h.1
    replace h := h.2
    refine yb_callSi (As := [.int (xJ (30 : Int)), .int (xJ ((d 162 (82 : Int)) + (1 : Int)))]) rfl rfl rfl rfl rfl rfl rfl rfl (by show (2 : Nat) ≤ 8; decide) (sp_5 (by omega) ⟨(by show (-2147483648 ≤ (30 : Int) ∧ (30 : Int) < 2147483648); decide), r3⟩ ?_)
    show yB D xm_c223 _ L 74 [.ref 146, .ref 162, .int (xJ l2), .int (xJ l3)] [.int (xJ (min (30 : Int) ((d 162 (82 : Int)) + (1 : Int)))), .int (xJ (82 : Int)), .ref 162] (xs d 162 (81 : Int) ((d 162 (81 : Int)) + (1 : Int))) e
    refine yb_iast (j := (82 : Int)) (x := (min (30 : Int) ((d 162 (82 : Int)) + (1 : Int)))) rfl xd_A162 (by decide) (by decide) ?_
    exact yb_retv rfl h
  · replace h := h.2 c
    refine yb_aload rfl rfl ?_
    refine yb_iload (x := l2) rfl rfl ?_
    refine yb_iload (x := l3) rfl rfl ?_
    refine yb_iadd (x := l2) (y := l3) rfl ?_
    refine yb_aload rfl rfl ?_
    refine yb_get (v := .ref 155) rfl (by decide) (by decide) (rfl) rfl ?_
    refine yb_iload (x := l3) rfl rfl ?_
    have r4 := h.1
    replace h := h.2
    refine yb_iald (j := l3) rfl xd_A155 (by decide) r4 (v := (d 155 l3)) rfl ?_
    have r5 := h.1
    replace h := h.2
    refine yb_iast (j := (l2 + l3)) (x := (d 155 l3)) rfl xd_A162 (by decide) r5 ?_
    refine yb_aload rfl rfl ?_
    refine yb_get (v := .ref 155) rfl (by decide) (by decide) (rfl) rfl ?_
    refine yb_iload (x := l3) rfl rfl ?_
    refine yb_iald (j := l3) rfl xd_A155 (by decide) r4 (v := (d 155 l3)) (xs_np (by decide)) ?_
    refine yb_push (v := 9) rfl ?_
    have r6 := h.1
    replace h := h.2
    refine yb_icmp_ge (x := (d 155 l3)) (y := (9 : Int)) rfl rfl r6 (by decide) (fun c => ?_) (fun c => ?_)
    · replace h := h.1 c
      refine yb_iinc (x := l3) (n := 1) rfl rfl rfl rfl ?_
      refine yb_goto rfl rfl ?_
      exact h
    · replace h := h.2 c
      refine yb_aload rfl rfl ?_
      refine yb_aload rfl rfl ?_
      refine yb_iload (x := l3) rfl rfl ?_
      refine yb_aload rfl rfl ?_
      refine yb_get (v := .ref 155) rfl (by decide) (by decide) (rfl) rfl ?_
      refine yb_iload (x := l3) rfl rfl ?_
      refine yb_iald (j := l3) rfl xd_A155 (by decide) r4 (v := (d 155 l3)) (xs_np (by decide)) ?_
      refine yb_callVv (As := [.ref 162, .int (xJ l3), .int (xJ (d 155 l3))]) (a := 146) rfl rfl rfl rfl rfl rfl rfl rfl (by decide) (by decide) (rfl) (by decide) (yV_mono h (fun d7 e8 h => ?_))
      refine yb_iinc (x := l3) (n := 1) rfl rfl rfl rfl ?_
      refine yb_goto rfl rfl ?_
      exact h
theorem yk_224_147_0 {D L : Nat} {P : xh_D → xd_E → Prop} {d : xh_D} {e : xd_E} {a2 : Int} {a3 : Int}   (hD : 1 ≤ D) (h : ((0 ≤ ((18 : Int) + a3) ∧ ((18 : Int) + a3) < 353) ∧ ((0 ≤ ((18 : Int) + a2) ∧ ((18 : Int) + a2) < 353) ∧ (∀ v3, v3 = (xi_and (d 147 ((18 : Int) + a3)) (xi_xor (d 147 ((18 : Int) + a2)) (-1 : Int))) → (((¬ v3 = 0) → ((0 < v3 ∧ v3 < 64) ∧ (∀ v5, v5 = (((27 : Int) + ((6 : Int) * a2)) + (xp_ntz v3)) → ((0 ≤ v5 ∧ v5 < 353) ∧ ((-2147483648 ≤ ((d 147 v5) + (1 : Int)) ∧ ((d 147 v5) + (1 : Int)) < 2147483648) ∧ ((((3 : Int) ≤ ((d 147 v5) + (1 : Int))) → P (xs (xs (xs d 147 v5 ((d 147 v5) + (1 : Int))) 147 ((18 : Int) + a2) (xi_or ((xs d 147 v5 ((d 147 v5) + (1 : Int))) 147 ((18 : Int) + a2)) (xi_shl (1 : Int) (xp_ntz v3)))) 146 (29 : Int) ((d 146 (29 : Int)) + (1 : Int))) e) ∧ ((¬ (3 : Int) ≤ ((d 147 v5) + (1 : Int))) → P (xs d 147 v5 ((d 147 v5) + (1 : Int))) e))))))) ∧ ((v3 = 0) → P d e)))))) : yB D xm_c224 (yQv L P) L 0 [.ref 146, .ref 147, .int (xJ a2), .int (xJ a3), .double 0, .double 0, .double 0] [] d e := by
  refine yb_aload rfl rfl ?_
  refine yb_push (v := 18) rfl ?_
  refine yb_iload (x := a3) rfl rfl ?_
  refine yb_iadd (x := (18 : Int)) (y := a3) rfl ?_
  have r1 := h.1
  replace h := h.2
  refine yb_iald (j := ((18 : Int) + a3)) rfl xd_A147 (by decide) r1 (v := (d 147 ((18 : Int) + a3))) rfl ?_
  refine yb_aload rfl rfl ?_
  refine yb_push (v := 18) rfl ?_
  refine yb_iload (x := a2) rfl rfl ?_
  refine yb_iadd (x := (18 : Int)) (y := a2) rfl ?_
  have r2 := h.1
  replace h := h.2
  refine yb_iald (j := ((18 : Int) + a2)) rfl xd_A147 (by decide) r2 (v := (d 147 ((18 : Int) + a2))) rfl ?_
  refine yb_push (v := (-1)) rfl ?_
  refine yb_ixor (x := (d 147 ((18 : Int) + a2))) (y := (-1 : Int)) rfl ?_
  refine yb_iand (x := (d 147 ((18 : Int) + a3))) (y := (xi_xor (d 147 ((18 : Int) + a2)) (-1 : Int))) rfl ?_
  replace h := h _ rfl
  refine yb_istore rfl rfl rfl ?_
  refine yb_iload (x := (xi_and (d 147 ((18 : Int) + a3)) (xi_xor (d 147 ((18 : Int) + a2)) (-1 : Int)))) rfl rfl ?_
  refine yb_if_ne (x := (xi_and (d 147 ((18 : Int) + a3)) (xi_xor (d 147 ((18 : Int) + a2)) (-1 : Int)))) rfl rfl (xJ_rng _) (fun c => ?_) (fun c => ?_)
  · replace h := h.1 c
    refine yb_iload (x := (xi_and (d 147 ((18 : Int) + a3)) (xi_xor (d 147 ((18 : Int) + a2)) (-1 : Int)))) rfl rfl ?_
    have r4 := h.1
    replace h := h.2
    refine yb_callSi (As := [.int (xJ (xi_and (d 147 ((18 : Int) + a3)) (xi_xor (d 147 ((18 : Int) + a2)) (-1 : Int))))]) rfl rfl rfl rfl rfl rfl rfl rfl (by decide) (sp_1 (by omega) r4 ?_)
    show yB D xm_c224 _ L 19 [.ref 146, .ref 147, .int (xJ a2), .int (xJ a3), .int (xJ (xi_and (d 147 ((18 : Int) + a3)) (xi_xor (d 147 ((18 : Int) + a2)) (-1 : Int)))), .double 0, .double 0] [.int (xJ (xp_ntz (xi_and (d 147 ((18 : Int) + a3)) (xi_xor (d 147 ((18 : Int) + a2)) (-1 : Int)))))] d e
    refine yb_istore rfl rfl rfl ?_
    refine yb_push (v := 27) rfl ?_
    refine yb_push (v := 6) rfl ?_
    refine yb_iload (x := a2) rfl rfl ?_
    refine yb_imul (x := (6 : Int)) (y := a2) rfl ?_
    refine yb_iadd (x := (27 : Int)) (y := ((6 : Int) * a2)) rfl ?_
    refine yb_iload (x := (xp_ntz (xi_and (d 147 ((18 : Int) + a3)) (xi_xor (d 147 ((18 : Int) + a2)) (-1 : Int))))) rfl rfl ?_
    refine yb_iadd (x := ((27 : Int) + ((6 : Int) * a2))) (y := (xp_ntz (xi_and (d 147 ((18 : Int) + a3)) (xi_xor (d 147 ((18 : Int) + a2)) (-1 : Int))))) rfl ?_
    replace h := h _ rfl
    refine yb_istore rfl rfl rfl ?_
    refine yb_aload rfl rfl ?_
    refine yb_iload (x := (((27 : Int) + ((6 : Int) * a2)) + (xp_ntz (xi_and (d 147 ((18 : Int) + a3)) (xi_xor (d 147 ((18 : Int) + a2)) (-1 : Int)))))) rfl rfl ?_
    refine yb_dup2 rfl rfl rfl ?_
    have r6 := h.1
    replace h := h.2
    refine yb_iald (j := (((27 : Int) + ((6 : Int) * a2)) + (xp_ntz (xi_and (d 147 ((18 : Int) + a3)) (xi_xor (d 147 ((18 : Int) + a2)) (-1 : Int)))))) rfl xd_A147 (by decide) r6 (v := (d 147 (((27 : Int) + ((6 : Int) * a2)) + (xp_ntz (xi_and (d 147 ((18 : Int) + a3)) (xi_xor (d 147 ((18 : Int) + a2)) (-1 : Int))))))) rfl ?_
    refine yb_push (v := 1) rfl ?_
    refine yb_iadd (x := (d 147 (((27 : Int) + ((6 : Int) * a2)) + (xp_ntz (xi_and (d 147 ((18 : Int) + a3)) (xi_xor (d 147 ((18 : Int) + a2)) (-1 : Int))))))) (y := (1 : Int)) rfl ?_
    refine yb_iast (j := (((27 : Int) + ((6 : Int) * a2)) + (xp_ntz (xi_and (d 147 ((18 : Int) + a3)) (xi_xor (d 147 ((18 : Int) + a2)) (-1 : Int)))))) (x := ((d 147 (((27 : Int) + ((6 : Int) * a2)) + (xp_ntz (xi_and (d 147 ((18 : Int) + a3)) (xi_xor (d 147 ((18 : Int) + a2)) (-1 : Int)))))) + (1 : Int))) rfl xd_A147 (by decide) r6 ?_
    refine yb_aload rfl rfl ?_
    refine yb_iload (x := (((27 : Int) + ((6 : Int) * a2)) + (xp_ntz (xi_and (d 147 ((18 : Int) + a3)) (xi_xor (d 147 ((18 : Int) + a2)) (-1 : Int)))))) rfl rfl ?_
    refine yb_iald (j := (((27 : Int) + ((6 : Int) * a2)) + (xp_ntz (xi_and (d 147 ((18 : Int) + a3)) (xi_xor (d 147 ((18 : Int) + a2)) (-1 : Int)))))) rfl xd_A147 (by decide) r6 (v := ((d 147 (((27 : Int) + ((6 : Int) * a2)) + (xp_ntz (xi_and (d 147 ((18 : Int) + a3)) (xi_xor (d 147 ((18 : Int) + a2)) (-1 : Int)))))) + (1 : Int))) xs_eq ?_
    refine yb_push (v := 3) rfl ?_
    have r7 := h.1
    replace h := h.2
    refine yb_icmp_ge (x := ((d 147 (((27 : Int) + ((6 : Int) * a2)) + (xp_ntz (xi_and (d 147 ((18 : Int) + a3)) (xi_xor (d 147 ((18 : Int) + a2)) (-1 : Int)))))) + (1 : Int))) (y := (3 : Int)) rfl rfl r7 (by decide) (fun c => ?_) (fun c => ?_)
    · replace h := h.1 c
      refine yb_aload rfl rfl ?_
      refine yb_push (v := 18) rfl ?_
      refine yb_iload (x := a2) rfl rfl ?_
      refine yb_iadd (x := (18 : Int)) (y := a2) rfl ?_
      refine yb_dup2 rfl rfl rfl ?_
      refine yb_iald (j := ((18 : Int) + a2)) rfl xd_A147 (by decide) r2 (v := ((xs d 147 (((27 : Int) + ((6 : Int) * a2)) + (xp_ntz (xi_and (d 147 ((18 : Int) + a3)) (xi_xor (d 147 ((18 : Int) + a2)) (-1 : Int))))) ((d 147 (((27 : Int) + ((6 : Int) * a2)) + (xp_ntz (xi_and (d 147 ((18 : Int) + a3)) (xi_xor (d 147 ((18 : Int) + a2)) (-1 : Int)))))) + (1 : Int))) 147 ((18 : Int) + a2))) rfl ?_
      refine yb_push (v := 1) rfl ?_
      refine yb_iload (x := (xp_ntz (xi_and (d 147 ((18 : Int) + a3)) (xi_xor (d 147 ((18 : Int) + a2)) (-1 : Int))))) rfl rfl ?_
      refine yb_ishl (x := (1 : Int)) (y := (xp_ntz (xi_and (d 147 ((18 : Int) + a3)) (xi_xor (d 147 ((18 : Int) + a2)) (-1 : Int))))) rfl ?_
      refine yb_ior (x := ((xs d 147 (((27 : Int) + ((6 : Int) * a2)) + (xp_ntz (xi_and (d 147 ((18 : Int) + a3)) (xi_xor (d 147 ((18 : Int) + a2)) (-1 : Int))))) ((d 147 (((27 : Int) + ((6 : Int) * a2)) + (xp_ntz (xi_and (d 147 ((18 : Int) + a3)) (xi_xor (d 147 ((18 : Int) + a2)) (-1 : Int)))))) + (1 : Int))) 147 ((18 : Int) + a2))) (y := (xi_shl (1 : Int) (xp_ntz (xi_and (d 147 ((18 : Int) + a3)) (xi_xor (d 147 ((18 : Int) + a2)) (-1 : Int)))))) rfl ?_
      refine yb_iast (j := ((18 : Int) + a2)) (x := (xi_or ((xs d 147 (((27 : Int) + ((6 : Int) * a2)) + (xp_ntz (xi_and (d 147 ((18 : Int) + a3)) (xi_xor (d 147 ((18 : Int) + a2)) (-1 : Int))))) ((d 147 (((27 : Int) + ((6 : Int) * a2)) + (xp_ntz (xi_and (d 147 ((18 : Int) + a3)) (xi_xor (d 147 ((18 : Int) + a2)) (-1 : Int)))))) + (1 : Int))) 147 ((18 : Int) + a2)) (xi_shl (1 : Int) (xp_ntz (xi_and (d 147 ((18 : Int) + a3)) (xi_xor (d 147 ((18 : Int) + a2)) (-1 : Int))))))) rfl xd_A147 (by decide) r2 ?_
      refine yb_aload rfl rfl ?_
      refine yb_dup rfl rfl ?_
      refine yb_get (v := .int (xJ (d 146 (29 : Int)))) rfl (by decide) (by decide) (rfl) rfl ?_
      refine yb_push (v := 1) rfl ?_
      refine yb_iadd (x := (d 146 (29 : Int))) (y := (1 : Int)) rfl ?_
      refine yb_put (z := ((d 146 (29 : Int)) + (1 : Int))) (k := 29) rfl rfl (by decide) (by decide) (rfl) (Nat.le_of_ble_eq_true rfl) rfl (rfl) ?_
      exact yb_retv rfl h
    · replace h := h.2 c
      exact yb_retv rfl h
  · replace h := h.2 c
    exact yb_retv rfl h
theorem yk_224_162_0 {D L : Nat} {P : xh_D → xd_E → Prop} {d : xh_D} {e : xd_E} {a2 : Int} {a3 : Int}   (hD : 1 ≤ D) (h : ((0 ≤ ((18 : Int) + a3) ∧ ((18 : Int) + a3) < 353) ∧ ((0 ≤ ((18 : Int) + a2) ∧ ((18 : Int) + a2) < 353) ∧ (∀ v3, v3 = (xi_and (d 162 ((18 : Int) + a3)) (xi_xor (d 162 ((18 : Int) + a2)) (-1 : Int))) → (((¬ v3 = 0) → ((0 < v3 ∧ v3 < 64) ∧ (∀ v5, v5 = (((27 : Int) + ((6 : Int) * a2)) + (xp_ntz v3)) → ((0 ≤ v5 ∧ v5 < 353) ∧ ((-2147483648 ≤ ((d 162 v5) + (1 : Int)) ∧ ((d 162 v5) + (1 : Int)) < 2147483648) ∧ ((((3 : Int) ≤ ((d 162 v5) + (1 : Int))) → P (xs (xs (xs d 162 v5 ((d 162 v5) + (1 : Int))) 162 ((18 : Int) + a2) (xi_or ((xs d 162 v5 ((d 162 v5) + (1 : Int))) 162 ((18 : Int) + a2)) (xi_shl (1 : Int) (xp_ntz v3)))) 146 (29 : Int) ((d 146 (29 : Int)) + (1 : Int))) e) ∧ ((¬ (3 : Int) ≤ ((d 162 v5) + (1 : Int))) → P (xs d 162 v5 ((d 162 v5) + (1 : Int))) e))))))) ∧ ((v3 = 0) → P d e)))))) : yB D xm_c224 (yQv L P) L 0 [.ref 146, .ref 162, .int (xJ a2), .int (xJ a3), .double 0, .double 0, .double 0] [] d e := by
  refine yb_aload rfl rfl ?_
  refine yb_push (v := 18) rfl ?_
  refine yb_iload (x := a3) rfl rfl ?_
  refine yb_iadd (x := (18 : Int)) (y := a3) rfl ?_
  have r1 := h.1
  replace h := h.2
  refine yb_iald (j := ((18 : Int) + a3)) rfl xd_A162 (by decide) r1 (v := (d 162 ((18 : Int) + a3))) rfl ?_
  refine yb_aload rfl rfl ?_
  refine yb_push (v := 18) rfl ?_
  refine yb_iload (x := a2) rfl rfl ?_
  refine yb_iadd (x := (18 : Int)) (y := a2) rfl ?_
  have r2 := h.1
  replace h := h.2
  refine yb_iald (j := ((18 : Int) + a2)) rfl xd_A162 (by decide) r2 (v := (d 162 ((18 : Int) + a2))) rfl ?_
  refine yb_push (v := (-1)) rfl ?_
  refine yb_ixor (x := (d 162 ((18 : Int) + a2))) (y := (-1 : Int)) rfl ?_
  refine yb_iand (x := (d 162 ((18 : Int) + a3))) (y := (xi_xor (d 162 ((18 : Int) + a2)) (-1 : Int))) rfl ?_
  replace h := h _ rfl
  refine yb_istore rfl rfl rfl ?_
  refine yb_iload (x := (xi_and (d 162 ((18 : Int) + a3)) (xi_xor (d 162 ((18 : Int) + a2)) (-1 : Int)))) rfl rfl ?_
  refine yb_if_ne (x := (xi_and (d 162 ((18 : Int) + a3)) (xi_xor (d 162 ((18 : Int) + a2)) (-1 : Int)))) rfl rfl (xJ_rng _) (fun c => ?_) (fun c => ?_)
  · replace h := h.1 c
    refine yb_iload (x := (xi_and (d 162 ((18 : Int) + a3)) (xi_xor (d 162 ((18 : Int) + a2)) (-1 : Int)))) rfl rfl ?_
    have r4 := h.1
    replace h := h.2
    refine yb_callSi (As := [.int (xJ (xi_and (d 162 ((18 : Int) + a3)) (xi_xor (d 162 ((18 : Int) + a2)) (-1 : Int))))]) rfl rfl rfl rfl rfl rfl rfl rfl (by decide) (sp_1 (by omega) r4 ?_)
    show yB D xm_c224 _ L 19 [.ref 146, .ref 162, .int (xJ a2), .int (xJ a3), .int (xJ (xi_and (d 162 ((18 : Int) + a3)) (xi_xor (d 162 ((18 : Int) + a2)) (-1 : Int)))), .double 0, .double 0] [.int (xJ (xp_ntz (xi_and (d 162 ((18 : Int) + a3)) (xi_xor (d 162 ((18 : Int) + a2)) (-1 : Int)))))] d e
    refine yb_istore rfl rfl rfl ?_
    refine yb_push (v := 27) rfl ?_
    refine yb_push (v := 6) rfl ?_
    refine yb_iload (x := a2) rfl rfl ?_
    refine yb_imul (x := (6 : Int)) (y := a2) rfl ?_
    refine yb_iadd (x := (27 : Int)) (y := ((6 : Int) * a2)) rfl ?_
    refine yb_iload (x := (xp_ntz (xi_and (d 162 ((18 : Int) + a3)) (xi_xor (d 162 ((18 : Int) + a2)) (-1 : Int))))) rfl rfl ?_
    refine yb_iadd (x := ((27 : Int) + ((6 : Int) * a2))) (y := (xp_ntz (xi_and (d 162 ((18 : Int) + a3)) (xi_xor (d 162 ((18 : Int) + a2)) (-1 : Int))))) rfl ?_
    replace h := h _ rfl
    refine yb_istore rfl rfl rfl ?_
    refine yb_aload rfl rfl ?_
    refine yb_iload (x := (((27 : Int) + ((6 : Int) * a2)) + (xp_ntz (xi_and (d 162 ((18 : Int) + a3)) (xi_xor (d 162 ((18 : Int) + a2)) (-1 : Int)))))) rfl rfl ?_
    refine yb_dup2 rfl rfl rfl ?_
    have r6 := h.1
    replace h := h.2
    refine yb_iald (j := (((27 : Int) + ((6 : Int) * a2)) + (xp_ntz (xi_and (d 162 ((18 : Int) + a3)) (xi_xor (d 162 ((18 : Int) + a2)) (-1 : Int)))))) rfl xd_A162 (by decide) r6 (v := (d 162 (((27 : Int) + ((6 : Int) * a2)) + (xp_ntz (xi_and (d 162 ((18 : Int) + a3)) (xi_xor (d 162 ((18 : Int) + a2)) (-1 : Int))))))) rfl ?_
    refine yb_push (v := 1) rfl ?_
    refine yb_iadd (x := (d 162 (((27 : Int) + ((6 : Int) * a2)) + (xp_ntz (xi_and (d 162 ((18 : Int) + a3)) (xi_xor (d 162 ((18 : Int) + a2)) (-1 : Int))))))) (y := (1 : Int)) rfl ?_
    refine yb_iast (j := (((27 : Int) + ((6 : Int) * a2)) + (xp_ntz (xi_and (d 162 ((18 : Int) + a3)) (xi_xor (d 162 ((18 : Int) + a2)) (-1 : Int)))))) (x := ((d 162 (((27 : Int) + ((6 : Int) * a2)) + (xp_ntz (xi_and (d 162 ((18 : Int) + a3)) (xi_xor (d 162 ((18 : Int) + a2)) (-1 : Int)))))) + (1 : Int))) rfl xd_A162 (by decide) r6 ?_
    refine yb_aload rfl rfl ?_
    refine yb_iload (x := (((27 : Int) + ((6 : Int) * a2)) + (xp_ntz (xi_and (d 162 ((18 : Int) + a3)) (xi_xor (d 162 ((18 : Int) + a2)) (-1 : Int)))))) rfl rfl ?_
    refine yb_iald (j := (((27 : Int) + ((6 : Int) * a2)) + (xp_ntz (xi_and (d 162 ((18 : Int) + a3)) (xi_xor (d 162 ((18 : Int) + a2)) (-1 : Int)))))) rfl xd_A162 (by decide) r6 (v := ((d 162 (((27 : Int) + ((6 : Int) * a2)) + (xp_ntz (xi_and (d 162 ((18 : Int) + a3)) (xi_xor (d 162 ((18 : Int) + a2)) (-1 : Int)))))) + (1 : Int))) xs_eq ?_
    refine yb_push (v := 3) rfl ?_
    have r7 := h.1
    replace h := h.2
    refine yb_icmp_ge (x := ((d 162 (((27 : Int) + ((6 : Int) * a2)) + (xp_ntz (xi_and (d 162 ((18 : Int) + a3)) (xi_xor (d 162 ((18 : Int) + a2)) (-1 : Int)))))) + (1 : Int))) (y := (3 : Int)) rfl rfl r7 (by decide) (fun c => ?_) (fun c => ?_)
    · replace h := h.1 c
      refine yb_aload rfl rfl ?_
      refine yb_push (v := 18) rfl ?_
      refine yb_iload (x := a2) rfl rfl ?_
      refine yb_iadd (x := (18 : Int)) (y := a2) rfl ?_
      refine yb_dup2 rfl rfl rfl ?_
      refine yb_iald (j := ((18 : Int) + a2)) rfl xd_A162 (by decide) r2 (v := ((xs d 162 (((27 : Int) + ((6 : Int) * a2)) + (xp_ntz (xi_and (d 162 ((18 : Int) + a3)) (xi_xor (d 162 ((18 : Int) + a2)) (-1 : Int))))) ((d 162 (((27 : Int) + ((6 : Int) * a2)) + (xp_ntz (xi_and (d 162 ((18 : Int) + a3)) (xi_xor (d 162 ((18 : Int) + a2)) (-1 : Int)))))) + (1 : Int))) 162 ((18 : Int) + a2))) rfl ?_
      refine yb_push (v := 1) rfl ?_
      refine yb_iload (x := (xp_ntz (xi_and (d 162 ((18 : Int) + a3)) (xi_xor (d 162 ((18 : Int) + a2)) (-1 : Int))))) rfl rfl ?_
      refine yb_ishl (x := (1 : Int)) (y := (xp_ntz (xi_and (d 162 ((18 : Int) + a3)) (xi_xor (d 162 ((18 : Int) + a2)) (-1 : Int))))) rfl ?_
      refine yb_ior (x := ((xs d 162 (((27 : Int) + ((6 : Int) * a2)) + (xp_ntz (xi_and (d 162 ((18 : Int) + a3)) (xi_xor (d 162 ((18 : Int) + a2)) (-1 : Int))))) ((d 162 (((27 : Int) + ((6 : Int) * a2)) + (xp_ntz (xi_and (d 162 ((18 : Int) + a3)) (xi_xor (d 162 ((18 : Int) + a2)) (-1 : Int)))))) + (1 : Int))) 162 ((18 : Int) + a2))) (y := (xi_shl (1 : Int) (xp_ntz (xi_and (d 162 ((18 : Int) + a3)) (xi_xor (d 162 ((18 : Int) + a2)) (-1 : Int)))))) rfl ?_
      refine yb_iast (j := ((18 : Int) + a2)) (x := (xi_or ((xs d 162 (((27 : Int) + ((6 : Int) * a2)) + (xp_ntz (xi_and (d 162 ((18 : Int) + a3)) (xi_xor (d 162 ((18 : Int) + a2)) (-1 : Int))))) ((d 162 (((27 : Int) + ((6 : Int) * a2)) + (xp_ntz (xi_and (d 162 ((18 : Int) + a3)) (xi_xor (d 162 ((18 : Int) + a2)) (-1 : Int)))))) + (1 : Int))) 162 ((18 : Int) + a2)) (xi_shl (1 : Int) (xp_ntz (xi_and (d 162 ((18 : Int) + a3)) (xi_xor (d 162 ((18 : Int) + a2)) (-1 : Int))))))) rfl xd_A162 (by decide) r2 ?_
      refine yb_aload rfl rfl ?_
      refine yb_dup rfl rfl ?_
      refine yb_get (v := .int (xJ (d 146 (29 : Int)))) rfl (by decide) (by decide) (rfl) rfl ?_
      refine yb_push (v := 1) rfl ?_
      refine yb_iadd (x := (d 146 (29 : Int))) (y := (1 : Int)) rfl ?_
      refine yb_put (z := ((d 146 (29 : Int)) + (1 : Int))) (k := 29) rfl rfl (by decide) (by decide) (rfl) (Nat.le_of_ble_eq_true rfl) rfl (rfl) ?_
      exact yb_retv rfl h
    · replace h := h.2 c
      exact yb_retv rfl h
  · replace h := h.2 c
    exact yb_retv rfl h
