/-! SMALL METHODS over the memory. -/
theorem yk_21_0 {D L : Nat} {P1 P0 : xh_D → xd_E → Prop} {d : xh_D} {e : xd_E} {a1 : Int}   (h : ((-2147483648 ≤ a1 ∧ a1 < 2147483648) ∧ (((a1 < 0) → P0 d e) ∧ ((¬ a1 < 0) → ((-2147483648 ≤ (d 6 (4 : Int)) ∧ (d 6 (4 : Int)) < 2147483648) ∧ ((((d 6 (4 : Int)) ≤ a1) → P0 d e) ∧ ((¬ (d 6 (4 : Int)) ≤ a1) → P1 d e))))))) : yB D xm_c21 (yQz L P1 P0) L 0 [.ref 6, .int (xJ a1)] [] d e := by
  refine yb_iload (x := a1) rfl rfl ?_
  have r1 := h.1
  replace h := h.2
  refine yb_if_lt (x := a1) rfl rfl r1 (fun c => ?_) (fun c => ?_)
  · replace h := h.1 c
    refine yb_push (v := 0) rfl ?_
    exact yb_ret0 rfl h
  · replace h := h.2 c
    refine yb_iload (x := a1) rfl rfl ?_
    refine yb_aload rfl rfl ?_
    refine yb_get (v := .int (xJ (d 6 (4 : Int)))) rfl (by decide) (by decide) (rfl) rfl ?_
    have r2 := h.1
    replace h := h.2
    refine yb_icmp_ge (x := a1) (y := (d 6 (4 : Int))) rfl rfl r1 r2 (fun c => ?_) (fun c => ?_)
    · replace h := h.1 c
      refine yb_push (v := 0) rfl ?_
      exact yb_ret0 rfl h
    · replace h := h.2 c
      refine yb_push (v := 1) rfl ?_
      refine yb_goto rfl rfl ?_
      exact yb_ret1 rfl h
theorem sp_21 {D L : Nat} {P1 P0 : xh_D → xd_E → Prop} {d : xh_D} {e : xd_E} {a0 : Int} (hD : 1 ≤ D) (o : (-2147483648 ≤ a0 ∧ a0 < 2147483648) ∧ (-2147483648 ≤ (d 6 (4 : Int)) ∧ (d 6 (4 : Int)) < 2147483648)) (h1 : (0 ≤ a0 ∧ a0 < (d 6 (4 : Int))) → P1 d e) (h0 : ¬ (0 ≤ a0 ∧ a0 < (d 6 (4 : Int))) → P0 d e) : yZ D 21 L [.ref 6, .int (xJ a0)] d e P1 P0 := by
  refine yZ_of rfl rfl rfl (by omega) (yk_21_0 ?_)
  repeat' (first | apply And.intro | intro _)
  all_goals first
    | omega
    | exact h1 (by omega)
    | exact h0 (by omega)
theorem yk_22_0 {D L : Nat} {P1 P0 : xh_D → xd_E → Prop} {d : xh_D} {e : xd_E} {a1 : Int} {a2 : Int}   (hD : 1 ≤ D) (h : ((-2147483648 ≤ a1 ∧ a1 < 2147483648) ∧ ((-2147483648 ≤ (d 6 (4 : Int)) ∧ (d 6 (4 : Int)) < 2147483648) ∧ (((0 ≤ a1 ∧ a1 < (d 6 (4 : Int))) → ((-2147483648 ≤ a2 ∧ a2 < 2147483648) ∧ (((0 ≤ a2 ∧ a2 < (d 6 (4 : Int))) → (((a1 = a2) → P0 d e) ∧ ((¬ a1 = a2) → P1 d e))) ∧ (¬ (0 ≤ a2 ∧ a2 < (d 6 (4 : Int))) → P0 d e)))) ∧ (¬ (0 ≤ a1 ∧ a1 < (d 6 (4 : Int))) → P0 d e))))) : yB D xm_c22 (yQz L P1 P0) L 0 [.ref 6, .int (xJ a1), .int (xJ a2)] [] d e := by
  refine yb_aload rfl rfl ?_
  refine yb_iload (x := a1) rfl rfl ?_
  have r1 := h.1
  replace h := h.2
  have r2 := h.1
  replace h := h.2
  refine yb_callVz (As := [.int (xJ a1)]) (a := 6) rfl rfl rfl rfl rfl rfl rfl rfl (by decide) (by decide) (rfl) (by decide) (sp_21 (by omega) ⟨r1, r2⟩ (fun c => ?_) (fun c => ?_))
  · replace h := h.1 c
    show yB D xm_c22 _ L 3 [.ref 6, .int (xJ a1), .int (xJ a2)] [.int (xJ (1 : Int))] d e
    refine yb_if_eq (x := (1 : Int)) rfl rfl (by decide) (fun c => absurd c (by decide)) (fun _ => ?_)
    refine yb_aload rfl rfl ?_
    refine yb_iload (x := a2) rfl rfl ?_
    have r3 := h.1
    replace h := h.2
    refine yb_callVz (As := [.int (xJ a2)]) (a := 6) rfl rfl rfl rfl rfl rfl rfl rfl (by decide) (by decide) (rfl) (by decide) (sp_21 (by omega) ⟨r3, r2⟩ (fun c => ?_) (fun c => ?_))
    · replace h := h.1 c
      show yB D xm_c22 _ L 7 [.ref 6, .int (xJ a1), .int (xJ a2)] [.int (xJ (1 : Int))] d e
      refine yb_if_eq (x := (1 : Int)) rfl rfl (by decide) (fun c => absurd c (by decide)) (fun _ => ?_)
      refine yb_iload (x := a1) rfl rfl ?_
      refine yb_iload (x := a2) rfl rfl ?_
      refine yb_icmp_eq (x := a1) (y := a2) rfl rfl r1 r3 (fun c => ?_) (fun c => ?_)
      · replace h := h.1 c
        refine yb_push (v := 0) rfl ?_
        exact yb_ret0 rfl h
      · replace h := h.2 c
        refine yb_push (v := 1) rfl ?_
        refine yb_goto rfl rfl ?_
        exact yb_ret1 rfl h
    · replace h := h.2 c
      show yB D xm_c22 _ L 7 [.ref 6, .int (xJ a1), .int (xJ a2)] [.int (xJ (0 : Int))] d e
      refine yb_if_eq (x := (0 : Int)) rfl rfl (by decide) (fun _ => ?_) (fun c => absurd (by decide) c)
      refine yb_push (v := 0) rfl ?_
      exact yb_ret0 rfl h
  · replace h := h.2 c
    show yB D xm_c22 _ L 3 [.ref 6, .int (xJ a1), .int (xJ a2)] [.int (xJ (0 : Int))] d e
    refine yb_if_eq (x := (0 : Int)) rfl rfl (by decide) (fun _ => ?_) (fun c => absurd (by decide) c)
    refine yb_push (v := 0) rfl ?_
    exact yb_ret0 rfl h
theorem sp_22 {D L : Nat} {P1 P0 : xh_D → xd_E → Prop} {d : xh_D} {e : xd_E} {a0 a1 : Int} (hD : 2 ≤ D) (o : (-2147483648 ≤ a0 ∧ a0 < 2147483648) ∧ (-2147483648 ≤ a1 ∧ a1 < 2147483648) ∧ (-2147483648 ≤ (d 6 (4 : Int)) ∧ (d 6 (4 : Int)) < 2147483648)) (h1 : ((0 ≤ a0 ∧ a0 < (d 6 (4 : Int))) ∧ (0 ≤ a1 ∧ a1 < (d 6 (4 : Int))) ∧ ¬ a0 = a1) → P1 d e) (h0 : ¬ ((0 ≤ a0 ∧ a0 < (d 6 (4 : Int))) ∧ (0 ≤ a1 ∧ a1 < (d 6 (4 : Int))) ∧ ¬ a0 = a1) → P0 d e) : yZ D 22 L [.ref 6, .int (xJ a0), .int (xJ a1)] d e P1 P0 := by
  refine yZ_of rfl rfl rfl (by omega) (yk_22_0 (by omega) ?_)
  repeat' (first | apply And.intro | intro _)
  all_goals first
    | omega
    | exact h1 (by omega)
    | exact h0 (by omega)
theorem yk_54_11_0 {D L : Nat} {P1 P0 : xh_D → xd_E → Prop} {d : xh_D} {e : xd_E} {a1 : Int} {a2 : Int}   (h : ((0 ≤ a1 ∧ a1 < 9) ∧ ((((xi_and (xi_shr (d 14 a1) a2) (1 : Int)) = 0) → P0 d e) ∧ ((¬ (xi_and (xi_shr (d 14 a1) a2) (1 : Int)) = 0) → P1 d e)))) : yB D xm_c54 (yQz L P1 P0) L 0 [.ref 11, .int (xJ a1), .int (xJ a2)] [] d e := by
  refine yb_aload rfl rfl ?_
  refine yb_get (v := .ref 14) rfl (by decide) (by decide) (rfl) rfl ?_
  refine yb_iload (x := a1) rfl rfl ?_
  have r1 := h.1
  replace h := h.2
  refine yb_iald (j := a1) rfl xd_A14 (by decide) r1 (v := (d 14 a1)) rfl ?_
  refine yb_iload (x := a2) rfl rfl ?_
  refine yb_ishr (x := (d 14 a1)) (y := a2) rfl ?_
  refine yb_push (v := 1) rfl ?_
  refine yb_iand (x := (xi_shr (d 14 a1) a2)) (y := (1 : Int)) rfl ?_
  refine yb_if_eq (x := (xi_and (xi_shr (d 14 a1) a2) (1 : Int))) rfl rfl (xJ_rng _) (fun c => ?_) (fun c => ?_)
  · replace h := h.1 c
    refine yb_push (v := 0) rfl ?_
    exact yb_ret0 rfl h
  · replace h := h.2 c
    refine yb_push (v := 1) rfl ?_
    refine yb_goto rfl rfl ?_
    exact yb_ret1 rfl h
theorem sp_54_11 {D L : Nat} {P1 P0 : xh_D → xd_E → Prop} {d : xh_D} {e : xd_E} {a0 a1 : Int} (hD : 1 ≤ D) (o : (0 ≤ a0 ∧ a0 < 9)) (h1 : (¬ xi_and (xi_shr (d 14 a0) a1) (1 : Int) = 0) → P1 d e) (h0 : ¬ (¬ xi_and (xi_shr (d 14 a0) a1) (1 : Int) = 0) → P0 d e) : yZ D 54 L [.ref 11, .int (xJ a0), .int (xJ a1)] d e P1 P0 := by
  refine yZ_of rfl rfl rfl (by omega) (yk_54_11_0 ?_)
  exact ⟨o, fun c => h0 (fun q => q c), h1⟩
theorem yk_54_17_0 {D L : Nat} {P1 P0 : xh_D → xd_E → Prop} {d : xh_D} {e : xd_E} {a1 : Int} {a2 : Int}   (h : ((0 ≤ a1 ∧ a1 < 9) ∧ ((((xi_and (xi_shr (d 20 a1) a2) (1 : Int)) = 0) → P0 d e) ∧ ((¬ (xi_and (xi_shr (d 20 a1) a2) (1 : Int)) = 0) → P1 d e)))) : yB D xm_c54 (yQz L P1 P0) L 0 [.ref 17, .int (xJ a1), .int (xJ a2)] [] d e := by
  refine yb_aload rfl rfl ?_
  refine yb_get (v := .ref 20) rfl (by decide) (by decide) (rfl) rfl ?_
  refine yb_iload (x := a1) rfl rfl ?_
  have r1 := h.1
  replace h := h.2
  refine yb_iald (j := a1) rfl xd_A20 (by decide) r1 (v := (d 20 a1)) rfl ?_
  refine yb_iload (x := a2) rfl rfl ?_
  refine yb_ishr (x := (d 20 a1)) (y := a2) rfl ?_
  refine yb_push (v := 1) rfl ?_
  refine yb_iand (x := (xi_shr (d 20 a1) a2)) (y := (1 : Int)) rfl ?_
  refine yb_if_eq (x := (xi_and (xi_shr (d 20 a1) a2) (1 : Int))) rfl rfl (xJ_rng _) (fun c => ?_) (fun c => ?_)
  · replace h := h.1 c
    refine yb_push (v := 0) rfl ?_
    exact yb_ret0 rfl h
  · replace h := h.2 c
    refine yb_push (v := 1) rfl ?_
    refine yb_goto rfl rfl ?_
    exact yb_ret1 rfl h
theorem sp_54_17 {D L : Nat} {P1 P0 : xh_D → xd_E → Prop} {d : xh_D} {e : xd_E} {a0 a1 : Int} (hD : 1 ≤ D) (o : (0 ≤ a0 ∧ a0 < 9)) (h1 : (¬ xi_and (xi_shr (d 20 a0) a1) (1 : Int) = 0) → P1 d e) (h0 : ¬ (¬ xi_and (xi_shr (d 20 a0) a1) (1 : Int) = 0) → P0 d e) : yZ D 54 L [.ref 17, .int (xJ a0), .int (xJ a1)] d e P1 P0 := by
  refine yZ_of rfl rfl rfl (by omega) (yk_54_17_0 ?_)
  exact ⟨o, fun c => h0 (fun q => q c), h1⟩
theorem yk_73_0 {D L : Nat} {P1 P0 : xh_D → xd_E → Prop} {d : xh_D} {e : xd_E} {a1 : Int}   (h : ((-2147483648 ≤ ((d 2 (1 : Int)) + a1) ∧ ((d 2 (1 : Int)) + a1) < 2147483648) ∧ ((((80 : Int) < ((d 2 (1 : Int)) + a1)) → P0 d e) ∧ ((¬ (80 : Int) < ((d 2 (1 : Int)) + a1)) → P1 d e)))) : yB D xm_c73 (yQz L P1 P0) L 0 [.ref 2, .int (xJ a1)] [] d e := by
  refine yb_aload rfl rfl ?_
  refine yb_get (v := .int (xJ (d 2 (1 : Int)))) rfl (by decide) (by decide) (rfl) rfl ?_
  refine yb_iload (x := a1) rfl rfl ?_
  refine yb_iadd (x := (d 2 (1 : Int))) (y := a1) rfl ?_
  refine yb_push (v := 80) rfl ?_
  have r1 := h.1
  replace h := h.2
  refine yb_icmp_gt (x := ((d 2 (1 : Int)) + a1)) (y := (80 : Int)) rfl rfl r1 (by decide) (fun c => ?_) (fun c => ?_)
  · replace h := h.1 c
    refine yb_push (v := 0) rfl ?_
    exact yb_ret0 rfl h
  · replace h := h.2 c
    refine yb_push (v := 1) rfl ?_
    refine yb_goto rfl rfl ?_
    exact yb_ret1 rfl h
theorem sp_73 {D L : Nat} {P1 P0 : xh_D → xd_E → Prop} {d : xh_D} {e : xd_E} {a0 : Int} (hD : 1 ≤ D) (o : (-2147483648 ≤ ((d 2 (1 : Int)) + a0) ∧ ((d 2 (1 : Int)) + a0) < 2147483648)) (h1 : ((d 2 (1 : Int)) + a0 ≤ 80) → P1 d e) (h0 : ¬ ((d 2 (1 : Int)) + a0 ≤ 80) → P0 d e) : yZ D 73 L [.ref 2, .int (xJ a0)] d e P1 P0 := by
  refine yZ_of rfl rfl rfl (by omega) (yk_73_0 ?_)
  repeat' (first | apply And.intro | intro _)
  all_goals first
    | omega
    | exact h1 (by omega)
    | exact h0 (by omega)
theorem yk_75_0 {D L : Nat} {P : Int → xh_D → xd_E → Prop} {d : xh_D} {e : xd_E} {a1 : Int}   (h : ((-2147483648 ≤ a1 ∧ a1 < 2147483648) ∧ (((a1 < 0) → P (-1 : Int) d e) ∧ ((¬ a1 < 0) → ((-2147483648 ≤ (d 2 (1 : Int)) ∧ (d 2 (1 : Int)) < 2147483648) ∧ ((((d 2 (1 : Int)) ≤ a1) → P (-1 : Int) d e) ∧ ((¬ (d 2 (1 : Int)) ≤ a1) → ((0 ≤ a1 ∧ a1 < 80) ∧ P (d 3 a1) d e)))))))) : yB D xm_c75 (yQi L P) L 0 [.ref 2, .int (xJ a1)] [] d e := by
  refine yb_iload (x := a1) rfl rfl ?_
  have r1 := h.1
  replace h := h.2
  refine yb_if_lt (x := a1) rfl rfl r1 (fun c => ?_) (fun c => ?_)
  · replace h := h.1 c
    refine yb_push (v := (-1)) rfl ?_
    exact yb_ret rfl h
  · replace h := h.2 c
    refine yb_iload (x := a1) rfl rfl ?_
    refine yb_aload rfl rfl ?_
    refine yb_get (v := .int (xJ (d 2 (1 : Int)))) rfl (by decide) (by decide) (rfl) rfl ?_
    have r2 := h.1
    replace h := h.2
    refine yb_icmp_ge (x := a1) (y := (d 2 (1 : Int))) rfl rfl r1 r2 (fun c => ?_) (fun c => ?_)
    · replace h := h.1 c
      refine yb_push (v := (-1)) rfl ?_
      exact yb_ret rfl h
    · replace h := h.2 c
      refine yb_aload rfl rfl ?_
      refine yb_get (v := .ref 3) rfl (by decide) (by decide) (rfl) rfl ?_
      refine yb_iload (x := a1) rfl rfl ?_
      have r3 := h.1
      replace h := h.2
      refine yb_iald (j := a1) rfl xd_A3 (by decide) r3 (v := (d 3 a1)) rfl ?_
      refine yb_goto rfl rfl ?_
      exact yb_ret rfl h
theorem sp_75 {D L : Nat} {P : Int → xh_D → xd_E → Prop} {d : xh_D} {e : xd_E} {a0 : Int} (hD : 1 ≤ D) (o : (-2147483648 ≤ a0 ∧ a0 < 2147483648) ∧ xt_ok d) (h : P (xt_at d a0) d e) : yC D 75 L [.ref 2, .int (xJ a0)] d e P := by
  refine yC_of rfl rfl rfl (by omega) (yk_75_0 ?_)
  obtain ⟨o1, o2⟩ := o
  have o3 := o2.1
  unfold xt_at at h
  refine ⟨o1, fun c => ?_, fun c => ⟨by omega, fun c2 => ?_, fun c2 => ⟨by omega, ?_⟩⟩⟩
  · rw [if_neg (by omega)] at h; exact h
  · rw [if_neg (by omega)] at h; exact h
  · rw [if_pos (by omega)] at h; exact h
theorem yk_76_0 {D L : Nat} {P : Int → xh_D → xd_E → Prop} {d : xh_D} {e : xd_E} {a1 : Int}   (hD : 1 ≤ D) (h : ((-2147483648 ≤ a1 ∧ a1 < 2147483648) ∧ (xt_ok d ∧ ((-2147483648 ≤ (xt_at d a1) ∧ (xt_at d a1) < 2147483648) ∧ ((((xt_at d a1) < (48 : Int)) → P (-1 : Int) d e) ∧ ((¬ (xt_at d a1) < (48 : Int)) → ((((57 : Int) < (xt_at d a1)) → P (-1 : Int) d e) ∧ ((¬ (57 : Int) < (xt_at d a1)) → P ((xt_at d a1) - (48 : Int)) d e)))))))) : yB D xm_c76 (yQi L P) L 0 [.ref 2, .int (xJ a1), .double 0] [] d e := by
  refine yb_aload rfl rfl ?_
  refine yb_iload (x := a1) rfl rfl ?_
  have r1 := h.1
  replace h := h.2
  have r2 := h.1
  replace h := h.2
  refine yb_callVi (As := [.int (xJ a1)]) (a := 2) rfl rfl rfl rfl rfl rfl rfl rfl (by decide) (by decide) (rfl) (by decide) (sp_75 (by omega) ⟨r1, r2⟩ ?_)
  show yB D xm_c76 _ L 3 [.ref 2, .int (xJ a1), .double 0] [.int (xJ (xt_at d a1))] d e
  refine yb_istore rfl rfl rfl ?_
  refine yb_iload (x := (xt_at d a1)) rfl rfl ?_
  refine yb_push (v := 48) rfl ?_
  have r3 := h.1
  replace h := h.2
  refine yb_icmp_lt (x := (xt_at d a1)) (y := (48 : Int)) rfl rfl r3 (by decide) (fun c => ?_) (fun c => ?_)
  · replace h := h.1 c
    refine yb_push (v := (-1)) rfl ?_
    exact yb_ret rfl h
  · replace h := h.2 c
    refine yb_iload (x := (xt_at d a1)) rfl rfl ?_
    refine yb_push (v := 57) rfl ?_
    refine yb_icmp_gt (x := (xt_at d a1)) (y := (57 : Int)) rfl rfl r3 (by decide) (fun c => ?_) (fun c => ?_)
    · replace h := h.1 c
      refine yb_push (v := (-1)) rfl ?_
      exact yb_ret rfl h
    · replace h := h.2 c
      refine yb_iload (x := (xt_at d a1)) rfl rfl ?_
      refine yb_push (v := 48) rfl ?_
      refine yb_isub (x := (xt_at d a1)) (y := (48 : Int)) rfl ?_
      refine yb_goto rfl rfl ?_
      exact yb_ret rfl h
theorem sp_76 {D L : Nat} {P : Int → xh_D → xd_E → Prop} {d : xh_D} {e : xd_E} {a0 : Int} (hD : 2 ≤ D) (o : (-2147483648 ≤ a0 ∧ a0 < 2147483648) ∧ xt_ok d) (h : P (xt_dig d a0) d e) : yC D 76 L [.ref 2, .int (xJ a0)] d e P := by
  refine yC_of rfl rfl rfl (by omega) (yk_76_0 (by omega) ?_)
  have o1 := xt_at_r o.2 a0
  unfold xt_dig xt_dg at h
  refine ⟨o.1, o.2, by omega, fun c => ?_, fun c => ⟨fun c2 => ?_, fun c2 => ?_⟩⟩
  · rw [if_neg (by omega)] at h; exact h
  · rw [if_neg (by omega)] at h; exact h
  · rw [if_pos (by omega)] at h; exact h
theorem yk_77_0 {D L : Nat} {P1 P0 : xh_D → xd_E → Prop} {d : xh_D} {e : xd_E} {a1 : Int}   (hD : 1 ≤ D) (h : ((-2147483648 ≤ a1 ∧ a1 < 2147483648) ∧ (((a1 = 0) → P1 d e) ∧ ((¬ a1 = 0) → ((-2147483648 ≤ (a1 - (1 : Int)) ∧ (a1 - (1 : Int)) < 2147483648) ∧ (xt_ok d ∧ ((-2147483648 ≤ (xt_at d (a1 - (1 : Int))) ∧ (xt_at d (a1 - (1 : Int))) < 2147483648) ∧ (((¬ (xt_at d (a1 - (1 : Int))) = (59 : Int)) → P0 d e) ∧ (((xt_at d (a1 - (1 : Int))) = (59 : Int)) → P1 d e))))))))) : yB D xm_c77 (yQz L P1 P0) L 0 [.ref 2, .int (xJ a1)] [] d e := by
  refine yb_iload (x := a1) rfl rfl ?_
  have r1 := h.1
  replace h := h.2
  refine yb_if_eq (x := a1) rfl rfl r1 (fun c => ?_) (fun c => ?_)
  · replace h := h.1 c
    refine yb_push (v := 1) rfl ?_
    refine yb_goto rfl rfl ?_
    exact yb_ret1 rfl h
  · replace h := h.2 c
    refine yb_aload rfl rfl ?_
    refine yb_iload (x := a1) rfl rfl ?_
    refine yb_push (v := 1) rfl ?_
    refine yb_isub (x := a1) (y := (1 : Int)) rfl ?_
    have r2 := h.1
    replace h := h.2
    have r3 := h.1
    replace h := h.2
    refine yb_callVi (As := [.int (xJ (a1 - (1 : Int)))]) (a := 2) rfl rfl rfl rfl rfl rfl rfl rfl (by decide) (by decide) (rfl) (by decide) (sp_75 (by omega) ⟨r2, r3⟩ ?_)
    show yB D xm_c77 _ L 7 [.ref 2, .int (xJ a1)] [.int (xJ (xt_at d (a1 - (1 : Int))))] d e
    refine yb_push (v := 59) rfl ?_
    have r4 := h.1
    replace h := h.2
    refine yb_icmp_ne (x := (xt_at d (a1 - (1 : Int)))) (y := (59 : Int)) rfl rfl r4 (by decide) (fun c => ?_) (fun c => ?_)
    · replace h := h.1 c
      refine yb_push (v := 0) rfl ?_
      exact yb_ret0 rfl h
    · replace h := h.2 c
      refine yb_push (v := 1) rfl ?_
      refine yb_goto rfl rfl ?_
      exact yb_ret1 rfl h
theorem sp_77 {D L : Nat} {P1 P0 : xh_D → xd_E → Prop} {d : xh_D} {e : xd_E} {a0 : Int} (hD : 2 ≤ D) (o : (-2147483648 ≤ a0 ∧ a0 < 2147483648) ∧ (-2147483648 ≤ (a0 - 1) ∧ (a0 - 1) < 2147483648) ∧ xt_ok d) (h1 : (a0 = 0 ∨ xt_at d (a0 - 1) = 59) → P1 d e) (h0 : ¬ (a0 = 0 ∨ xt_at d (a0 - 1) = 59) → P0 d e) : yZ D 77 L [.ref 2, .int (xJ a0)] d e P1 P0 := by
  refine yZ_of rfl rfl rfl (by omega) (yk_77_0 (by omega) ?_)
  have o1 := xt_at_r o.2.2 (a0 - 1)
  refine ⟨o.1, fun c => h1 (by omega), fun c => ⟨o.2.1, o.2.2, by omega, fun c2 => h0 (by omega), fun c2 => h1 (by omega)⟩⟩
theorem yk_74_0 {D L : Nat} {P : xh_D → xd_E → Prop} {d : xh_D} {e : xd_E} {a1 : Int}   (h : ((-2147483648 ≤ (d 2 (1 : Int)) ∧ (d 2 (1 : Int)) < 2147483648) ∧ ((((80 : Int) ≤ (d 2 (1 : Int))) → P d e) ∧ ((¬ (80 : Int) ≤ (d 2 (1 : Int))) → ((0 ≤ (d 2 (1 : Int)) ∧ (d 2 (1 : Int)) < 80) ∧ P (xs (xs d 3 (d 2 (1 : Int)) a1) 2 (1 : Int) ((d 2 (1 : Int)) + (1 : Int))) e))))) : yB D xm_c74 (yQv L P) L 0 [.ref 2, .int (xJ a1)] [] d e := by
  refine yb_aload rfl rfl ?_
  refine yb_get (v := .int (xJ (d 2 (1 : Int)))) rfl (by decide) (by decide) (rfl) rfl ?_
  refine yb_push (v := 80) rfl ?_
  have r1 := h.1
  replace h := h.2
  refine yb_icmp_ge (x := (d 2 (1 : Int))) (y := (80 : Int)) rfl rfl r1 (by decide) (fun c => ?_) (fun c => ?_)
  · replace h := h.1 c
    exact yb_retv rfl h
  · replace h := h.2 c
    refine yb_aload rfl rfl ?_
    refine yb_get (v := .ref 3) rfl (by decide) (by decide) (rfl) rfl ?_
    refine yb_aload rfl rfl ?_
    refine yb_get (v := .int (xJ (d 2 (1 : Int)))) rfl (by decide) (by decide) (rfl) rfl ?_
    refine yb_iload (x := a1) rfl rfl ?_
    have r2 := h.1
    replace h := h.2
    refine yb_iast (j := (d 2 (1 : Int))) (x := a1) rfl xd_A3 (by decide) r2 ?_
    refine yb_aload rfl rfl ?_
    refine yb_dup rfl rfl ?_
    refine yb_get (v := .int (xJ (d 2 (1 : Int)))) rfl (by decide) (by decide) (rfl) rfl ?_
    refine yb_push (v := 1) rfl ?_
    refine yb_iadd (x := (d 2 (1 : Int))) (y := (1 : Int)) rfl ?_
    refine yb_put (z := ((d 2 (1 : Int)) + (1 : Int))) (k := 1) rfl rfl (by decide) (by decide) (rfl) (Nat.le_of_ble_eq_true rfl) rfl (rfl) ?_
    exact yb_retv rfl h
theorem sp_74 {D L : Nat} {P : xh_D → xd_E → Prop} {d : xh_D} {e : xd_E} {a0 : Int} (hD : 1 ≤ D) (o : (0 ≤ (d 2 (1 : Int)) ∧ (d 2 (1 : Int)) < 80)) (h : P (xs (xs d 3 (d 2 (1 : Int)) a0) 2 (1 : Int) ((d 2 (1 : Int)) + 1)) e) : yV D 74 L [.ref 2, .int (xJ a0)] d e P := by
  refine yV_of rfl rfl rfl (by omega) (yk_74_0 ?_)
  repeat' (first | apply And.intro | intro _)
  all_goals first
    | omega
    | exact h
theorem yk_184_0 {D L : Nat} {P1 P0 : xh_D → xd_E → Prop} {d : xh_D} {e : xd_E} {a1 : Int}   (hD : 1 ≤ D) (h : ((-2147483648 ≤ a1 ∧ a1 < 2147483648) ∧ ((-2147483648 ≤ ((d 146 (1 : Int)) - (1 : Int)) ∧ ((d 146 (1 : Int)) - (1 : Int)) < 2147483648) ∧ ((((0 : Int) ≤ a1 ∧ a1 ≤ ((d 146 (1 : Int)) - (1 : Int))) → P1 d e) ∧ (¬ ((0 : Int) ≤ a1 ∧ a1 ≤ ((d 146 (1 : Int)) - (1 : Int))) → P0 d e))))) : yB D xm_c184 (yQz L P1 P0) L 0 [.ref 146, .int (xJ a1)] [] d e := by
  refine yb_iload (x := a1) rfl rfl ?_
  refine yb_push (v := 0) rfl ?_
  refine yb_aload rfl rfl ?_
  refine yb_get (v := .int (xJ (d 146 (1 : Int)))) rfl (by decide) (by decide) (rfl) rfl ?_
  refine yb_push (v := 1) rfl ?_
  refine yb_isub (x := (d 146 (1 : Int))) (y := (1 : Int)) rfl ?_
  have r1 := h.1
  replace h := h.2
  have r2 := h.1
  replace h := h.2
  refine yb_callSz (As := [.int (xJ a1), .int (xJ (0 : Int)), .int (xJ ((d 146 (1 : Int)) - (1 : Int)))]) rfl rfl rfl rfl rfl rfl rfl rfl (by decide) (sp_180 (by omega) ⟨r1, (by show (-2147483648 ≤ (0 : Int) ∧ (0 : Int) < 2147483648); decide), r2⟩ (fun c => ?_) (fun c => ?_))
  · replace h := h.1 c
    show yB D xm_c184 _ L 7 [.ref 146, .int (xJ a1)] [.int (xJ (1 : Int))] d e
    exact yb_ret1 rfl h
  · replace h := h.2 c
    show yB D xm_c184 _ L 7 [.ref 146, .int (xJ a1)] [.int (xJ (0 : Int))] d e
    exact yb_ret0 rfl h
theorem sp_184 {D L : Nat} {P1 P0 : xh_D → xd_E → Prop} {d : xh_D} {e : xd_E} {a0 : Int} (hD : 2 ≤ D) (o : (-2147483648 ≤ a0 ∧ a0 < 2147483648) ∧ (0 ≤ (d 146 (1 : Int)) ∧ (d 146 (1 : Int)) ≤ 9)) (h1 : (0 ≤ a0 ∧ a0 < (d 146 (1 : Int))) → P1 d e) (h0 : ¬ (0 ≤ a0 ∧ a0 < (d 146 (1 : Int))) → P0 d e) : yZ D 184 L [.ref 146, .int (xJ a0)] d e P1 P0 := by
  refine yZ_of rfl rfl rfl (by omega) (yk_184_0 (by omega) ?_)
  exact ⟨o.1, by omega, fun c => h1 (by omega), fun c => h0 (by omega)⟩
theorem yk_185_0 {D L : Nat} {P1 P0 : xh_D → xd_E → Prop} {d : xh_D} {e : xd_E} {a1 : Int} {a2 : Int}   (hD : 2 ≤ D) (h : ((-2147483648 ≤ a1 ∧ a1 < 2147483648) ∧ ((0 ≤ (d 146 (1 : Int)) ∧ (d 146 (1 : Int)) ≤ 9) ∧ (((0 ≤ a1 ∧ a1 < (d 146 (1 : Int))) → ((-2147483648 ≤ a2 ∧ a2 < 2147483648) ∧ (((0 ≤ a2 ∧ a2 < (d 146 (1 : Int))) → (((a1 = a2) → P0 d e) ∧ ((¬ a1 = a2) → P1 d e))) ∧ (¬ (0 ≤ a2 ∧ a2 < (d 146 (1 : Int))) → P0 d e)))) ∧ (¬ (0 ≤ a1 ∧ a1 < (d 146 (1 : Int))) → P0 d e))))) : yB D xm_c185 (yQz L P1 P0) L 0 [.ref 146, .int (xJ a1), .int (xJ a2)] [] d e := by
  refine yb_aload rfl rfl ?_
  refine yb_iload (x := a1) rfl rfl ?_
  have r1 := h.1
  replace h := h.2
  have r2 := h.1
  replace h := h.2
  refine yb_callVz (As := [.int (xJ a1)]) (a := 146) rfl rfl rfl rfl rfl rfl rfl rfl (by decide) (by decide) (rfl) (by decide) (sp_184 (by omega) ⟨r1, r2⟩ (fun c => ?_) (fun c => ?_))
  · replace h := h.1 c
    show yB D xm_c185 _ L 3 [.ref 146, .int (xJ a1), .int (xJ a2)] [.int (xJ (1 : Int))] d e
    refine yb_if_eq (x := (1 : Int)) rfl rfl (by decide) (fun c => absurd c (by decide)) (fun _ => ?_)
    refine yb_aload rfl rfl ?_
    refine yb_iload (x := a2) rfl rfl ?_
    have r3 := h.1
    replace h := h.2
    refine yb_callVz (As := [.int (xJ a2)]) (a := 146) rfl rfl rfl rfl rfl rfl rfl rfl (by decide) (by decide) (rfl) (by decide) (sp_184 (by omega) ⟨r3, r2⟩ (fun c => ?_) (fun c => ?_))
    · replace h := h.1 c
      show yB D xm_c185 _ L 7 [.ref 146, .int (xJ a1), .int (xJ a2)] [.int (xJ (1 : Int))] d e
      refine yb_if_eq (x := (1 : Int)) rfl rfl (by decide) (fun c => absurd c (by decide)) (fun _ => ?_)
      refine yb_iload (x := a1) rfl rfl ?_
      refine yb_iload (x := a2) rfl rfl ?_
      refine yb_icmp_eq (x := a1) (y := a2) rfl rfl r1 r3 (fun c => ?_) (fun c => ?_)
      · replace h := h.1 c
        refine yb_push (v := 0) rfl ?_
        exact yb_ret0 rfl h
      · replace h := h.2 c
        refine yb_push (v := 1) rfl ?_
        refine yb_goto rfl rfl ?_
        exact yb_ret1 rfl h
    · replace h := h.2 c
      show yB D xm_c185 _ L 7 [.ref 146, .int (xJ a1), .int (xJ a2)] [.int (xJ (0 : Int))] d e
      refine yb_if_eq (x := (0 : Int)) rfl rfl (by decide) (fun _ => ?_) (fun c => absurd (by decide) c)
      refine yb_push (v := 0) rfl ?_
      exact yb_ret0 rfl h
  · replace h := h.2 c
    show yB D xm_c185 _ L 3 [.ref 146, .int (xJ a1), .int (xJ a2)] [.int (xJ (0 : Int))] d e
    refine yb_if_eq (x := (0 : Int)) rfl rfl (by decide) (fun _ => ?_) (fun c => absurd (by decide) c)
    refine yb_push (v := 0) rfl ?_
    exact yb_ret0 rfl h
theorem sp_185 {D L : Nat} {P1 P0 : xh_D → xd_E → Prop} {d : xh_D} {e : xd_E} {a0 a1 : Int} (hD : 3 ≤ D) (o : (-2147483648 ≤ a0 ∧ a0 < 2147483648) ∧ (-2147483648 ≤ a1 ∧ a1 < 2147483648) ∧ (0 ≤ (d 146 (1 : Int)) ∧ (d 146 (1 : Int)) ≤ 9)) (h1 : ((0 ≤ a0 ∧ a0 < (d 146 (1 : Int))) ∧ (0 ≤ a1 ∧ a1 < (d 146 (1 : Int))) ∧ ¬ a0 = a1) → P1 d e) (h0 : ¬ ((0 ≤ a0 ∧ a0 < (d 146 (1 : Int))) ∧ (0 ≤ a1 ∧ a1 < (d 146 (1 : Int))) ∧ ¬ a0 = a1) → P0 d e) : yZ D 185 L [.ref 146, .int (xJ a0), .int (xJ a1)] d e P1 P0 := by
  refine yZ_of rfl rfl rfl (by omega) (yk_185_0 (by omega) ?_)
  repeat' (first | apply And.intro | intro _)
  all_goals first
    | omega
    | exact h1 (by omega)
    | exact h0 (by omega)
theorem yk_191_0 {D L : Nat} {P1 P0 : xh_D → xd_E → Prop} {d : xh_D} {e : xd_E}    (h : ((-2147483648 ≤ (d 146 (13 : Int)) ∧ (d 146 (13 : Int)) < 2147483648) ∧ (((¬ (d 146 (13 : Int)) = (-1 : Int)) → P0 d e) ∧ (((d 146 (13 : Int)) = (-1 : Int)) → P1 d e)))) : yB D xm_c191 (yQz L P1 P0) L 0 [.ref 146] [] d e := by
  refine yb_aload rfl rfl ?_
  refine yb_get (v := .int (xJ (d 146 (13 : Int)))) rfl (by decide) (by decide) (rfl) rfl ?_
  refine yb_push (v := (-1)) rfl ?_
  have r1 := h.1
  replace h := h.2
  refine yb_icmp_ne (x := (d 146 (13 : Int))) (y := (-1 : Int)) rfl rfl r1 (by decide) (fun c => ?_) (fun c => ?_)
  · replace h := h.1 c
    refine yb_push (v := 0) rfl ?_
    exact yb_ret0 rfl h
  · replace h := h.2 c
    refine yb_push (v := 1) rfl ?_
    refine yb_goto rfl rfl ?_
    exact yb_ret1 rfl h
theorem sp_191 {D L : Nat} {P1 P0 : xh_D → xd_E → Prop} {d : xh_D} {e : xd_E} (hD : 1 ≤ D) (o : (-2147483648 ≤ (d 146 (13 : Int)) ∧ (d 146 (13 : Int)) < 2147483648)) (h1 : ((d 146 (13 : Int)) = -1) → P1 d e) (h0 : ¬ ((d 146 (13 : Int)) = -1) → P0 d e) : yZ D 191 L [.ref 146] d e P1 P0 := by
  refine yZ_of rfl rfl rfl (by omega) (yk_191_0 ?_)
  repeat' (first | apply And.intro | intro _)
  all_goals first
    | omega
    | exact h1 (by omega)
    | exact h0 (by omega)
theorem yk_192_0 {D L : Nat} {P : xh_D → xd_E → Prop} {d : xh_D} {e : xd_E} {a1 : Int}   (hD : 1 ≤ D) (h : ((-2147483648 ≤ (d 146 (13 : Int)) ∧ (d 146 (13 : Int)) < 2147483648) ∧ ((((d 146 (13 : Int)) = -1) → P (xs d 146 (13 : Int) a1) e) ∧ (¬ ((d 146 (13 : Int)) = -1) → P d e)))) : yB D xm_c192 (yQv L P) L 0 [.ref 146, .int (xJ a1)] [] d e := by
  refine yb_aload rfl rfl ?_
  have r1 := h.1
  replace h := h.2
  refine yb_callVz (As := []) (a := 146) rfl rfl rfl rfl rfl rfl rfl rfl (by decide) (by decide) (rfl) (by decide) (sp_191 (by omega) r1 (fun c => ?_) (fun c => ?_))
  · replace h := h.1 c
    show yB D xm_c192 _ L 2 [.ref 146, .int (xJ a1)] [.int (xJ (1 : Int))] d e
    refine yb_if_eq (x := (1 : Int)) rfl rfl (by decide) (fun c => absurd c (by decide)) (fun _ => ?_)
    refine yb_aload rfl rfl ?_
    refine yb_iload (x := a1) rfl rfl ?_
    refine yb_put (z := a1) (k := 13) rfl rfl (by decide) (by decide) (rfl) (Nat.le_of_ble_eq_true rfl) rfl (rfl) ?_
    exact yb_retv rfl h
  · replace h := h.2 c
    show yB D xm_c192 _ L 2 [.ref 146, .int (xJ a1)] [.int (xJ (0 : Int))] d e
    refine yb_if_eq (x := (0 : Int)) rfl rfl (by decide) (fun _ => ?_) (fun c => absurd (by decide) c)
    exact yb_retv rfl h
theorem sp_192 {D L : Nat} {P : xh_D → xd_E → Prop} {d : xh_D} {e : xd_E} {a0 : Int} (hD : 2 ≤ D) (o : (-2147483648 ≤ (d 146 (13 : Int)) ∧ (d 146 (13 : Int)) < 2147483648)) (h : P (xs d 146 (13 : Int) (if (d 146 (13 : Int)) = -1 then a0 else (d 146 (13 : Int)))) e) : yV D 192 L [.ref 146, .int (xJ a0)] d e P := by
  refine yV_of rfl rfl rfl (by omega) (yk_192_0 (by omega) ?_)
  refine ⟨o, fun c => ?_, fun c => ?_⟩
  · rw [if_pos c] at h; exact h
  · rw [if_neg c] at h
    refine cast ?_ h
    congr 1
    funext p i
    unfold xs
    split
    · rename_i q; rw [q.1, q.2]
    · rfl
theorem yk_190_0 {D L : Nat} {P : Int → xh_D → xd_E → Prop} {d : xh_D} {e : xd_E}    (h : ((-2147483648 ≤ (d 146 (12 : Int)) ∧ (d 146 (12 : Int)) < 2147483648) ∧ ((-2147483648 ≤ (d 146 (10 : Int)) ∧ (d 146 (10 : Int)) < 2147483648) ∧ ((((d 146 (10 : Int)) ≤ (d 146 (12 : Int))) → P (-1 : Int) d e) ∧ ((¬ (d 146 (10 : Int)) ≤ (d 146 (12 : Int))) → ((-2147483648 ≤ (d 146 (11 : Int)) ∧ (d 146 (11 : Int)) < 2147483648) ∧ ((((d 146 (11 : Int)) ≤ (d 146 (12 : Int))) → P (-1 : Int) d e) ∧ ((¬ (d 146 (11 : Int)) ≤ (d 146 (12 : Int))) → (((d 146 (9 : Int)) = 150 → ((0 ≤ (d 146 (12 : Int)) ∧ (d 146 (12 : Int)) < 80) ∧ P (d 150 (d 146 (12 : Int))) d e)) ∧ ((d 146 (9 : Int)) = 153 → ((0 ≤ (d 146 (12 : Int)) ∧ (d 146 (12 : Int)) < 40) ∧ P (d 153 (d 146 (12 : Int))) d e)) ∧ ((d 146 (9 : Int)) = 150 ∨ (d 146 (9 : Int)) = 153)))))))))) : yB D xm_c190 (yQi L P) L 0 [.ref 146] [] d e := by
  refine yb_aload rfl rfl ?_
  refine yb_get (v := .int (xJ (d 146 (12 : Int)))) rfl (by decide) (by decide) (rfl) rfl ?_
  refine yb_aload rfl rfl ?_
  refine yb_get (v := .int (xJ (d 146 (10 : Int)))) rfl (by decide) (by decide) (rfl) rfl ?_
  have r1 := h.1
  replace h := h.2
  have r2 := h.1
  replace h := h.2
  refine yb_icmp_ge (x := (d 146 (12 : Int))) (y := (d 146 (10 : Int))) rfl rfl r1 r2 (fun c => ?_) (fun c => ?_)
  · replace h := h.1 c
    refine yb_push (v := (-1)) rfl ?_
    exact yb_ret rfl h
  · replace h := h.2 c
    refine yb_aload rfl rfl ?_
    refine yb_get (v := .int (xJ (d 146 (12 : Int)))) rfl (by decide) (by decide) (rfl) rfl ?_
    refine yb_aload rfl rfl ?_
    refine yb_get (v := .int (xJ (d 146 (11 : Int)))) rfl (by decide) (by decide) (rfl) rfl ?_
    have r3 := h.1
    replace h := h.2
    refine yb_icmp_ge (x := (d 146 (12 : Int))) (y := (d 146 (11 : Int))) rfl rfl r1 r3 (fun c => ?_) (fun c => ?_)
    · replace h := h.1 c
      refine yb_push (v := (-1)) rfl ?_
      exact yb_ret rfl h
    · replace h := h.2 c
      refine yb_aload rfl rfl ?_
      rcases h.2.2 with c | c
      · replace h := h.1 c
        refine yb_get (v := .ref 150) rfl (by decide) (by decide) rfl (by show some (xd_r (xJ (d 146 (9 : Int)))) = some (.ref 150); rw [c]; rfl) ?_
        refine yb_aload rfl rfl ?_
        refine yb_get (v := .int (xJ (d 146 (12 : Int)))) rfl (by decide) (by decide) (rfl) rfl ?_
        have r4 := h.1
        replace h := h.2
        refine yb_bald (j := (d 146 (12 : Int))) rfl (by decide) xd_A150 r4 (v := (d 150 (d 146 (12 : Int)))) rfl ?_
        refine yb_goto rfl rfl ?_
        exact yb_ret rfl h
      · replace h := h.2.1 c
        refine yb_get (v := .ref 153) rfl (by decide) (by decide) rfl (by show some (xd_r (xJ (d 146 (9 : Int)))) = some (.ref 153); rw [c]; rfl) ?_
        refine yb_aload rfl rfl ?_
        refine yb_get (v := .int (xJ (d 146 (12 : Int)))) rfl (by decide) (by decide) (rfl) rfl ?_
        have r5 := h.1
        replace h := h.2
        refine yb_bald (j := (d 146 (12 : Int))) rfl (by decide) xd_A153 r5 (v := (d 153 (d 146 (12 : Int)))) rfl ?_
        refine yb_goto rfl rfl ?_
        exact yb_ret rfl h
theorem sp_190 {D L : Nat} {P : Int → xh_D → xd_E → Prop} {d : xh_D} {e : xd_E} (hD : 1 ≤ D) (o : xm_hok d) (h : P (xm_here d) d e) : yC D 190 L [.ref 146] d e P := by
  refine yC_of rfl rfl rfl (by omega) (yk_190_0 ?_)
  obtain ⟨h1, h2, h3, h4, h5⟩ := o
  unfold xm_here at h
  have h6 : -2147483648 ≤ d 146 10 ∧ d 146 10 < 2147483648 := by omega
  refine ⟨by omega, h6, fun c => ?_, fun c => ⟨by omega, fun c2 => ?_, fun c2 => ⟨fun c3 => ⟨by omega, ?_⟩, fun c3 => ⟨by omega, ?_⟩, by omega⟩⟩⟩
  · rw [if_neg (by omega)] at h; exact h
  · rw [if_neg (by omega)] at h; exact h
  · rw [if_pos (by omega), c3] at h; exact h
  · rw [if_pos (by omega), c3] at h; exact h
theorem yk_183_0 {D L : Nat} {P : xh_D → xd_E → Prop} {d : xh_D} {e : xd_E} {a1 : Int}   (h : ((0 ≤ (d 146 (7 : Int)) ∧ (d 146 (7 : Int)) < 20) ∧ P (xs (xs d 151 (d 146 (7 : Int)) a1) 146 (7 : Int) ((d 146 (7 : Int)) + (1 : Int))) e)) : yB D xm_c183 (yQv L P) L 0 [.ref 146, .int (xJ a1)] [] d e := by
  refine yb_aload rfl rfl ?_
  refine yb_get (v := .ref 151) rfl (by decide) (by decide) (rfl) rfl ?_
  refine yb_aload rfl rfl ?_
  refine yb_get (v := .int (xJ (d 146 (7 : Int)))) rfl (by decide) (by decide) (rfl) rfl ?_
  refine yb_iload (x := a1) rfl rfl ?_
  have r1 := h.1
  replace h := h.2
  refine yb_iast (j := (d 146 (7 : Int))) (x := a1) rfl xd_A151 (by decide) r1 ?_
  refine yb_aload rfl rfl ?_
  refine yb_dup rfl rfl ?_
  refine yb_get (v := .int (xJ (d 146 (7 : Int)))) rfl (by decide) (by decide) (rfl) rfl ?_
  refine yb_push (v := 1) rfl ?_
  refine yb_iadd (x := (d 146 (7 : Int))) (y := (1 : Int)) rfl ?_
  refine yb_put (z := ((d 146 (7 : Int)) + (1 : Int))) (k := 7) rfl rfl (by decide) (by decide) (rfl) (Nat.le_of_ble_eq_true rfl) rfl (rfl) ?_
  exact yb_retv rfl h
theorem sp_183 {D L : Nat} {P : xh_D → xd_E → Prop} {d : xh_D} {e : xd_E} {a0 : Int} (hD : 1 ≤ D) (o : (0 ≤ (d 146 (7 : Int)) ∧ (d 146 (7 : Int)) < 20)) (h : P (xs (xs d 151 (d 146 (7 : Int)) a0) 146 (7 : Int) ((d 146 (7 : Int)) + 1)) e) : yV D 183 L [.ref 146, .int (xJ a0)] d e P := by
  refine yV_of rfl rfl rfl (by omega) (yk_183_0 ?_)
  repeat' (first | apply And.intro | intro _)
  all_goals first
    | omega
    | exact h
theorem yk_182_0 {D L : Nat} {P : Int → xh_D → xd_E → Prop} {d : xh_D} {e : xd_E}    (h : P (0 : Int) (xs d 146 (8 : Int) (1 : Int)) e) : yB D xm_c182 (yQi L P) L 0 [.ref 146] [] d e := by
  refine yb_aload rfl rfl ?_
  refine yb_push (v := 1) rfl ?_
  refine yb_put (z := (1 : Int)) (k := 8) rfl rfl (by decide) (by decide) (rfl) (Nat.le_of_ble_eq_true rfl) rfl (rfl) ?_
  refine yb_push (v := 0) rfl ?_
  exact yb_ret rfl h
theorem sp_182 {D L : Nat} {P : Int → xh_D → xd_E → Prop} {d : xh_D} {e : xd_E} (hD : 1 ≤ D) (h : P (0 : Int) (xs d 146 (8 : Int) (1 : Int)) e) : yC D 182 L [.ref 146] d e P := by
  refine yC_of rfl rfl rfl (by omega) (yk_182_0 ?_)
  exact h
theorem yk_179_0 {D L : Nat} {P : Int → xh_D → xd_E → Prop} {d : xh_D} {e : xd_E}    (h : P (d 146 (8 : Int)) d e) : yB D xm_c179 (yQi L P) L 0 [.ref 146] [] d e := by
  refine yb_aload rfl rfl ?_
  refine yb_get (v := .int (xJ (d 146 (8 : Int)))) rfl (by decide) (by decide) (rfl) rfl ?_
  exact yb_ret rfl h
theorem sp_179 {D L : Nat} {P : Int → xh_D → xd_E → Prop} {d : xh_D} {e : xd_E} (hD : 1 ≤ D) (h : P (d 146 (8 : Int)) d e) : yC D 179 L [.ref 146] d e P := by
  refine yC_of rfl rfl rfl (by omega) (yk_179_0 ?_)
  exact h
theorem yk_189_150_0 {D L : Nat} {P : xh_D → xd_E → Prop} {d : xh_D} {e : xd_E} {a2 : Int} {a3 : Int}   (h : P (xs (xs (xs (xs (xs d 146 (9 : Int) (150 : Int)) 146 (10 : Int) a2) 146 (11 : Int) a3) 146 (12 : Int) (0 : Int)) 146 (13 : Int) (-1 : Int)) e) : yB D xm_c189 (yQv L P) L 0 [.ref 146, .ref 150, .int (xJ a2), .int (xJ a3)] [] d e := by
  refine yb_aload rfl rfl ?_
  refine yb_aload rfl rfl ?_
  refine yb_put (z := (150 : Int)) (k := 9) rfl rfl (by decide) (by decide) (rfl) (Nat.le_of_ble_eq_true rfl) rfl (rfl) ?_
  refine yb_aload rfl rfl ?_
  refine yb_iload (x := a2) rfl rfl ?_
  refine yb_put (z := a2) (k := 10) rfl rfl (by decide) (by decide) (rfl) (Nat.le_of_ble_eq_true rfl) rfl (rfl) ?_
  refine yb_aload rfl rfl ?_
  refine yb_iload (x := a3) rfl rfl ?_
  refine yb_put (z := a3) (k := 11) rfl rfl (by decide) (by decide) (rfl) (Nat.le_of_ble_eq_true rfl) rfl (rfl) ?_
  refine yb_aload rfl rfl ?_
  refine yb_push (v := 0) rfl ?_
  refine yb_put (z := (0 : Int)) (k := 12) rfl rfl (by decide) (by decide) (rfl) (Nat.le_of_ble_eq_true rfl) rfl (rfl) ?_
  refine yb_aload rfl rfl ?_
  refine yb_push (v := (-1)) rfl ?_
  refine yb_put (z := (-1 : Int)) (k := 13) rfl rfl (by decide) (by decide) (rfl) (Nat.le_of_ble_eq_true rfl) rfl (rfl) ?_
  exact yb_retv rfl h
theorem sp_189_150 {D L : Nat} {P : xh_D → xd_E → Prop} {d : xh_D} {e : xd_E} {a1 a2 : Int} (hD : 1 ≤ D) (h : P (xs (xs (xs (xs (xs d 146 (9 : Int) (150 : Int)) 146 (10 : Int) a1) 146 (11 : Int) a2) 146 (12 : Int) (0 : Int)) 146 (13 : Int) (-1 : Int)) e) : yV D 189 L [.ref 146, .ref 150, .int (xJ a1), .int (xJ a2)] d e P := by
  refine yV_of rfl rfl rfl (by omega) (yk_189_150_0 ?_)
  exact h
theorem yk_189_153_0 {D L : Nat} {P : xh_D → xd_E → Prop} {d : xh_D} {e : xd_E} {a2 : Int} {a3 : Int}   (h : P (xs (xs (xs (xs (xs d 146 (9 : Int) (153 : Int)) 146 (10 : Int) a2) 146 (11 : Int) a3) 146 (12 : Int) (0 : Int)) 146 (13 : Int) (-1 : Int)) e) : yB D xm_c189 (yQv L P) L 0 [.ref 146, .ref 153, .int (xJ a2), .int (xJ a3)] [] d e := by
  refine yb_aload rfl rfl ?_
  refine yb_aload rfl rfl ?_
  refine yb_put (z := (153 : Int)) (k := 9) rfl rfl (by decide) (by decide) (rfl) (Nat.le_of_ble_eq_true rfl) rfl (rfl) ?_
  refine yb_aload rfl rfl ?_
  refine yb_iload (x := a2) rfl rfl ?_
  refine yb_put (z := a2) (k := 10) rfl rfl (by decide) (by decide) (rfl) (Nat.le_of_ble_eq_true rfl) rfl (rfl) ?_
  refine yb_aload rfl rfl ?_
  refine yb_iload (x := a3) rfl rfl ?_
  refine yb_put (z := a3) (k := 11) rfl rfl (by decide) (by decide) (rfl) (Nat.le_of_ble_eq_true rfl) rfl (rfl) ?_
  refine yb_aload rfl rfl ?_
  refine yb_push (v := 0) rfl ?_
  refine yb_put (z := (0 : Int)) (k := 12) rfl rfl (by decide) (by decide) (rfl) (Nat.le_of_ble_eq_true rfl) rfl (rfl) ?_
  refine yb_aload rfl rfl ?_
  refine yb_push (v := (-1)) rfl ?_
  refine yb_put (z := (-1 : Int)) (k := 13) rfl rfl (by decide) (by decide) (rfl) (Nat.le_of_ble_eq_true rfl) rfl (rfl) ?_
  exact yb_retv rfl h
theorem sp_189_153 {D L : Nat} {P : xh_D → xd_E → Prop} {d : xh_D} {e : xd_E} {a1 a2 : Int} (hD : 1 ≤ D) (h : P (xs (xs (xs (xs (xs d 146 (9 : Int) (153 : Int)) 146 (10 : Int) a1) 146 (11 : Int) a2) 146 (12 : Int) (0 : Int)) 146 (13 : Int) (-1 : Int)) e) : yV D 189 L [.ref 146, .ref 153, .int (xJ a1), .int (xJ a2)] d e P := by
  refine yV_of rfl rfl rfl (by omega) (yk_189_153_0 ?_)
  exact h
theorem yk_232_147_0 {D L : Nat} {P : xh_D → xd_E → Prop} {d : xh_D} {e : xd_E} {a1 : Int} {a2 : Int}   (h : ((0 ≤ a1 ∧ a1 < 353) ∧ ((0 ≤ a2 ∧ a2 < 353) ∧ P (xs (xs d 147 a1 (d 147 a2)) 147 a2 (d 147 a1)) e))) : yB D xm_c232 (yQv L P) L 0 [.ref 147, .int (xJ a1), .int (xJ a2), .double 0] [] d e := by
  refine yb_aload rfl rfl ?_
  refine yb_iload (x := a1) rfl rfl ?_
  have r1 := h.1
  replace h := h.2
  refine yb_iald (j := a1) rfl xd_A147 (by decide) r1 (v := (d 147 a1)) rfl ?_
  refine yb_istore rfl rfl rfl ?_
  refine yb_aload rfl rfl ?_
  refine yb_iload (x := a1) rfl rfl ?_
  refine yb_aload rfl rfl ?_
  refine yb_iload (x := a2) rfl rfl ?_
  have r2 := h.1
  replace h := h.2
  refine yb_iald (j := a2) rfl xd_A147 (by decide) r2 (v := (d 147 a2)) rfl ?_
  refine yb_iast (j := a1) (x := (d 147 a2)) rfl xd_A147 (by decide) r1 ?_
  refine yb_aload rfl rfl ?_
  refine yb_iload (x := a2) rfl rfl ?_
  refine yb_iload (x := (d 147 a1)) rfl rfl ?_
  refine yb_iast (j := a2) (x := (d 147 a1)) rfl xd_A147 (by decide) r2 ?_
  exact yb_retv rfl h
theorem sp_232_147 {D L : Nat} {P : xh_D → xd_E → Prop} {d : xh_D} {e : xd_E} {a1 a2 : Int} (hD : 1 ≤ D) (o : (0 ≤ a1 ∧ a1 < 9) ∧ (0 ≤ a2 ∧ a2 < 9)) (h : P (xs (xs d 147 a1 (d 147 a2)) 147 a2 (d 147 a1)) e) : yV D 232 L [.ref 147, .int (xJ a1), .int (xJ a2)] d e P := by
  refine yV_of rfl rfl rfl (by omega) (yk_232_147_0 ?_)
  repeat' (first | apply And.intro | intro _)
  all_goals first
    | omega
    | exact h
theorem yk_232_164_0 {D L : Nat} {P : xh_D → xd_E → Prop} {d : xh_D} {e : xd_E} {a1 : Int} {a2 : Int}   (h : ((0 ≤ a1 ∧ a1 < 10) ∧ ((0 ≤ a2 ∧ a2 < 10) ∧ P (xs (xs d 164 a1 (d 164 a2)) 164 a2 (d 164 a1)) e))) : yB D xm_c232 (yQv L P) L 0 [.ref 164, .int (xJ a1), .int (xJ a2), .double 0] [] d e := by
  refine yb_aload rfl rfl ?_
  refine yb_iload (x := a1) rfl rfl ?_
  have r1 := h.1
  replace h := h.2
  refine yb_iald (j := a1) rfl xd_A164 (by decide) r1 (v := (d 164 a1)) rfl ?_
  refine yb_istore rfl rfl rfl ?_
  refine yb_aload rfl rfl ?_
  refine yb_iload (x := a1) rfl rfl ?_
  refine yb_aload rfl rfl ?_
  refine yb_iload (x := a2) rfl rfl ?_
  have r2 := h.1
  replace h := h.2
  refine yb_iald (j := a2) rfl xd_A164 (by decide) r2 (v := (d 164 a2)) rfl ?_
  refine yb_iast (j := a1) (x := (d 164 a2)) rfl xd_A164 (by decide) r1 ?_
  refine yb_aload rfl rfl ?_
  refine yb_iload (x := a2) rfl rfl ?_
  refine yb_iload (x := (d 164 a1)) rfl rfl ?_
  refine yb_iast (j := a2) (x := (d 164 a1)) rfl xd_A164 (by decide) r2 ?_
  exact yb_retv rfl h
theorem sp_232_164 {D L : Nat} {P : xh_D → xd_E → Prop} {d : xh_D} {e : xd_E} {a1 a2 : Int} (hD : 1 ≤ D) (o : (0 ≤ a1 ∧ a1 < 9) ∧ (0 ≤ a2 ∧ a2 < 9)) (h : P (xs (xs d 164 a1 (d 164 a2)) 164 a2 (d 164 a1)) e) : yV D 232 L [.ref 164, .int (xJ a1), .int (xJ a2)] d e P := by
  refine yV_of rfl rfl rfl (by omega) (yk_232_164_0 ?_)
  repeat' (first | apply And.intro | intro _)
  all_goals first
    | omega
    | exact h
theorem yk_53_11_0 {D L : Nat} {P : xh_D → xd_E → Prop} {d : xh_D} {e : xd_E} {a1 : Int} {a2 : Int}   (h : ((0 ≤ a1 ∧ a1 < 9) ∧ ((0 ≤ a2 ∧ a2 < 9) ∧ P (xs (xs d 12 a1 (d 12 a2)) 12 a2 (d 12 a1)) e))) : yB D xm_c53 (yQv L P) L 0 [.ref 11, .int (xJ a1), .int (xJ a2), .double 0] [] d e := by
  refine yb_aload rfl rfl ?_
  refine yb_get (v := .ref 12) rfl (by decide) (by decide) (rfl) rfl ?_
  refine yb_iload (x := a1) rfl rfl ?_
  have r1 := h.1
  replace h := h.2
  refine yb_iald (j := a1) rfl xd_A12 (by decide) r1 (v := (d 12 a1)) rfl ?_
  refine yb_istore rfl rfl rfl ?_
  refine yb_aload rfl rfl ?_
  refine yb_get (v := .ref 12) rfl (by decide) (by decide) (rfl) rfl ?_
  refine yb_iload (x := a1) rfl rfl ?_
  refine yb_aload rfl rfl ?_
  refine yb_get (v := .ref 12) rfl (by decide) (by decide) (rfl) rfl ?_
  refine yb_iload (x := a2) rfl rfl ?_
  have r2 := h.1
  replace h := h.2
  refine yb_iald (j := a2) rfl xd_A12 (by decide) r2 (v := (d 12 a2)) rfl ?_
  refine yb_iast (j := a1) (x := (d 12 a2)) rfl xd_A12 (by decide) r1 ?_
  refine yb_aload rfl rfl ?_
  refine yb_get (v := .ref 12) rfl (by decide) (by decide) (rfl) rfl ?_
  refine yb_iload (x := a2) rfl rfl ?_
  refine yb_iload (x := (d 12 a1)) rfl rfl ?_
  refine yb_iast (j := a2) (x := (d 12 a1)) rfl xd_A12 (by decide) r2 ?_
  exact yb_retv rfl h
theorem sp_53_11 {D L : Nat} {P : xh_D → xd_E → Prop} {d : xh_D} {e : xd_E} {a0 a1 : Int} (hD : 1 ≤ D) (o : (0 ≤ a0 ∧ a0 < 9) ∧ (0 ≤ a1 ∧ a1 < 9)) (h : P (xs (xs d 12 a0 (d 12 a1)) 12 a1 (d 12 a0)) e) : yV D 53 L [.ref 11, .int (xJ a0), .int (xJ a1)] d e P := by
  refine yV_of rfl rfl rfl (by omega) (yk_53_11_0 ?_)
  repeat' (first | apply And.intro | intro _)
  all_goals first
    | omega
    | exact h
theorem yk_12_0 {D L : Nat} {P : Int → xh_D → xd_E → Prop} {d : xh_D} {e : xd_E}    (h : ((0 ≤ (d 119 (8 : Int)) ∧ (d 119 (8 : Int)) < 2147483648) ∧ P ((d 119 (8 : Int)) / (1000 : Int)) d e)) : yB D xm_c12 (yQi L P) L 0 [.ref 119] [] d e := by
  refine yb_aload rfl rfl ?_
  refine yb_get (v := .int (xJ (d 119 (8 : Int)))) rfl (by decide) (by decide) (rfl) rfl ?_
  refine yb_push (v := 1000) rfl ?_
  have r1 := h.1
  replace h := h.2
  refine yb_idiv (x := (d 119 (8 : Int))) (y := (1000 : Int)) rfl r1 (by decide) ?_
  exact yb_ret rfl h
theorem sp_12 {D L : Nat} {P : Int → xh_D → xd_E → Prop} {d : xh_D} {e : xd_E} (hD : 1 ≤ D) (o : (0 ≤ (d 119 (8 : Int)) ∧ (d 119 (8 : Int)) < 2147483648)) (h : P ((d 119 (8 : Int)) / (1000 : Int)) d e) : yC D 12 L [.ref 119] d e P := by
  refine yC_of rfl rfl rfl (by omega) (yk_12_0 ?_)
  repeat' (first | apply And.intro | intro _)
  all_goals first
    | omega
    | exact h
theorem yk_13_0 {D L : Nat} {P : Int → xh_D → xd_E → Prop} {d : xh_D} {e : xd_E}    (h : ((0 ≤ (d 119 (8 : Int)) ∧ (d 119 (8 : Int)) < 2147483648) ∧ P ((d 119 (8 : Int)) % (1000 : Int)) d e)) : yB D xm_c13 (yQi L P) L 0 [.ref 119] [] d e := by
  refine yb_aload rfl rfl ?_
  refine yb_get (v := .int (xJ (d 119 (8 : Int)))) rfl (by decide) (by decide) (rfl) rfl ?_
  refine yb_push (v := 1000) rfl ?_
  have r1 := h.1
  replace h := h.2
  refine yb_irem (x := (d 119 (8 : Int))) (y := (1000 : Int)) rfl r1 (by decide) ?_
  exact yb_ret rfl h
theorem sp_13 {D L : Nat} {P : Int → xh_D → xd_E → Prop} {d : xh_D} {e : xd_E} (hD : 1 ≤ D) (o : (0 ≤ (d 119 (8 : Int)) ∧ (d 119 (8 : Int)) < 2147483648)) (h : P ((d 119 (8 : Int)) % (1000 : Int)) d e) : yC D 13 L [.ref 119] d e P := by
  refine yC_of rfl rfl rfl (by omega) (yk_13_0 ?_)
  repeat' (first | apply And.intro | intro _)
  all_goals first
    | omega
    | exact h
theorem yk_23_0 {D L : Nat} {P : Int → xh_D → xd_E → Prop} {d : xh_D} {e : xd_E}    (h : P ((xi_shl (1 : Int) (d 6 (4 : Int))) - (1 : Int)) d e) : yB D xm_c23 (yQi L P) L 0 [.ref 6] [] d e := by
  refine yb_push (v := 1) rfl ?_
  refine yb_aload rfl rfl ?_
  refine yb_get (v := .int (xJ (d 6 (4 : Int)))) rfl (by decide) (by decide) (rfl) rfl ?_
  refine yb_ishl (x := (1 : Int)) (y := (d 6 (4 : Int))) rfl ?_
  refine yb_push (v := 1) rfl ?_
  refine yb_isub (x := (xi_shl (1 : Int) (d 6 (4 : Int)))) (y := (1 : Int)) rfl ?_
  exact yb_ret rfl h
theorem sp_23 {D L : Nat} {P : Int → xh_D → xd_E → Prop} {d : xh_D} {e : xd_E} (hD : 1 ≤ D) (h : P (xi_shl (1 : Int) (d 6 (4 : Int)) - 1) d e) : yC D 23 L [.ref 6] d e P := by
  refine yC_of rfl rfl rfl (by omega) (yk_23_0 ?_)
  exact h
theorem yk_57_11_0 {D L : Nat} {P : Int → xh_D → xd_E → Prop} {d : xh_D} {e : xd_E}    (hD : 1 ≤ D) (h : ((-2147483648 ≤ (d 11 (5 : Int)) ∧ (d 11 (5 : Int)) < 2147483648) ∧ P (min (d 11 (5 : Int)) (30 : Int)) d e)) : yB D xm_c57 (yQi L P) L 0 [.ref 11] [] d e := by
  refine yb_aload rfl rfl ?_
  refine yb_get (v := .int (xJ (d 11 (5 : Int)))) rfl (by decide) (by decide) (rfl) rfl ?_
  refine yb_push (v := 30) rfl ?_
  have r1 := h.1
  replace h := h.2
  refine yb_callSi (As := [.int (xJ (d 11 (5 : Int))), .int (xJ (30 : Int))]) rfl rfl rfl rfl rfl rfl rfl rfl (by decide) (sp_5 (by omega) ⟨r1, (by show (-2147483648 ≤ (30 : Int) ∧ (30 : Int) < 2147483648); decide)⟩ ?_)
  show yB D xm_c57 _ L 4 [.ref 11] [.int (xJ (min (d 11 (5 : Int)) (30 : Int)))] d e
  exact yb_ret rfl h
theorem sp_57_11 {D L : Nat} {P : Int → xh_D → xd_E → Prop} {d : xh_D} {e : xd_E} (hD : 2 ≤ D) (o : (-2147483648 ≤ (d 11 (5 : Int)) ∧ (d 11 (5 : Int)) < 2147483648)) (h : P (min (d 11 (5 : Int)) 30) d e) : yC D 57 L [.ref 11] d e P := by
  refine yC_of rfl rfl rfl (by omega) (yk_57_11_0 (by omega) ?_)
  repeat' (first | apply And.intro | intro _)
  all_goals first
    | omega
    | exact h
theorem yk_292_11_0 {D L : Nat} {P : Int → xh_D → xd_E → Prop} {d : xh_D} {e : xd_E} {a1 : Int}   (hD : 1 ≤ D) (h : ((0 ≤ ((d 11 (5 : Int)) - a1) ∧ ((d 11 (5 : Int)) - a1) < 2147483648) ∧ P (((d 11 (5 : Int)) - a1) % (30 : Int)) d e)) : yB D xm_c292 (yQi L P) L 0 [.ref 11, .int (xJ a1)] [] d e := by
  refine yb_aload rfl rfl ?_
  refine yb_get (v := .int (xJ (d 11 (5 : Int)))) rfl (by decide) (by decide) (rfl) rfl ?_
  refine yb_iload (x := a1) rfl rfl ?_
  refine yb_isub (x := (d 11 (5 : Int))) (y := a1) rfl ?_
  refine yb_push (v := 30) rfl ?_
  have r1 := h.1
  replace h := h.2
  refine yb_callSi (As := [.int (xJ ((d 11 (5 : Int)) - a1)), .int (xJ (30 : Int))]) rfl rfl rfl rfl rfl rfl rfl rfl (by decide) (sp_3 (by omega) ⟨r1, (by show (0 < (30 : Int) ∧ (30 : Int) < 2147483648); decide)⟩ ?_)
  show yB D xm_c292 _ L 6 [.ref 11, .int (xJ a1)] [.int (xJ (((d 11 (5 : Int)) - a1) % (30 : Int)))] d e
  exact yb_ret rfl h
theorem sp_292_11 {D L : Nat} {P : Int → xh_D → xd_E → Prop} {d : xh_D} {e : xd_E} {a0 : Int} (hD : 2 ≤ D) (o : (0 ≤ (d 11 (5 : Int)) - a0 ∧ (d 11 (5 : Int)) - a0 < 2147483648)) (h : P (((d 11 (5 : Int)) - a0) % (30 : Int)) d e) : yC D 292 L [.ref 11, .int (xJ a0)] d e P := by
  refine yC_of rfl rfl rfl (by omega) (yk_292_11_0 (by omega) ?_)
  repeat' (first | apply And.intro | intro _)
  all_goals first
    | omega
    | exact h
theorem yk_292_17_0 {D L : Nat} {P : Int → xh_D → xd_E → Prop} {d : xh_D} {e : xd_E} {a1 : Int}   (hD : 1 ≤ D) (h : ((0 ≤ ((d 17 (5 : Int)) - a1) ∧ ((d 17 (5 : Int)) - a1) < 2147483648) ∧ P (((d 17 (5 : Int)) - a1) % (30 : Int)) d e)) : yB D xm_c292 (yQi L P) L 0 [.ref 17, .int (xJ a1)] [] d e := by
  refine yb_aload rfl rfl ?_
  refine yb_get (v := .int (xJ (d 17 (5 : Int)))) rfl (by decide) (by decide) (rfl) rfl ?_
  refine yb_iload (x := a1) rfl rfl ?_
  refine yb_isub (x := (d 17 (5 : Int))) (y := a1) rfl ?_
  refine yb_push (v := 30) rfl ?_
  have r1 := h.1
  replace h := h.2
  refine yb_callSi (As := [.int (xJ ((d 17 (5 : Int)) - a1)), .int (xJ (30 : Int))]) rfl rfl rfl rfl rfl rfl rfl rfl (by decide) (sp_3 (by omega) ⟨r1, (by show (0 < (30 : Int) ∧ (30 : Int) < 2147483648); decide)⟩ ?_)
  show yB D xm_c292 _ L 6 [.ref 17, .int (xJ a1)] [.int (xJ (((d 17 (5 : Int)) - a1) % (30 : Int)))] d e
  exact yb_ret rfl h
theorem sp_292_17 {D L : Nat} {P : Int → xh_D → xd_E → Prop} {d : xh_D} {e : xd_E} {a0 : Int} (hD : 2 ≤ D) (o : (0 ≤ (d 17 (5 : Int)) - a0 ∧ (d 17 (5 : Int)) - a0 < 2147483648)) (h : P (((d 17 (5 : Int)) - a0) % (30 : Int)) d e) : yC D 292 L [.ref 17, .int (xJ a0)] d e P := by
  refine yC_of rfl rfl rfl (by omega) (yk_292_17_0 (by omega) ?_)
  repeat' (first | apply And.intro | intro _)
  all_goals first
    | omega
    | exact h
theorem yk_58_11_0 {D L : Nat} {P : Int → xh_D → xd_E → Prop} {d : xh_D} {e : xd_E} {a1 : Int} {a2 : Int}   (hD : 2 ≤ D) (h : ((0 ≤ (d 11 (5 : Int)) - a2 ∧ (d 11 (5 : Int)) - a2 < 2147483648) ∧ ((0 ≤ (((d 11 (5 : Int)) - a2) % (30 : Int)) ∧ (((d 11 (5 : Int)) - a2) % (30 : Int)) < 30) ∧ P (xi_and ((((e 16 (((d 11 (5 : Int)) - a2) % (30 : Int)).toNat).toUInt64 >>> ((xJ (a1 * (4 : Int))).toInt64.toUInt64 &&& Int64.toUInt64 63)).toInt64).toInt32.toInt) (15 : Int)) d e))) : yB D xm_c58 (yQi L P) L 0 [.ref 11, .int (xJ a1), .int (xJ a2)] [] d e := by
  refine yb_aload rfl rfl ?_
  refine yb_get (v := .ref 16) rfl (by decide) (by decide) (rfl) rfl ?_
  refine yb_aload rfl rfl ?_
  refine yb_iload (x := a2) rfl rfl ?_
  have r1 := h.1
  replace h := h.2
  refine yb_callVi (As := [.int (xJ a2)]) (a := 11) rfl rfl rfl rfl rfl rfl rfl rfl (by decide) (by decide) (rfl) (by show (1 : Nat) ≤ 8; decide) (sp_292_11 (by omega) r1 ?_)
  show yB D xm_c58 _ L 5 [.ref 11, .int (xJ a1), .int (xJ a2)] [.int (xJ (((d 11 (5 : Int)) - a2) % (30 : Int))), .ref 16] d e
  have r2 := h.1
  replace h := h.2
  refine yb_lald (j := (((d 11 (5 : Int)) - a2) % (30 : Int))) rfl xd_A16 r2 rfl ?_
  refine yb_iload (x := a1) rfl rfl ?_
  refine yb_push (v := 4) rfl ?_
  refine yb_imul (x := a1) (y := (4 : Int)) rfl ?_
  refine yb_lushr (y := (a1 * (4 : Int))) rfl ?_
  refine yb_l2i rfl ?_
  refine yb_push (v := 15) rfl ?_
  refine yb_iand (x := (((e 16 (((d 11 (5 : Int)) - a2) % (30 : Int)).toNat).toUInt64 >>> ((xJ (a1 * (4 : Int))).toInt64.toUInt64 &&& Int64.toUInt64 63)).toInt64).toInt32.toInt) (y := (15 : Int)) rfl ?_
  exact yb_ret rfl h
theorem sp_58_11 {D L : Nat} {P : Int → xh_D → xd_E → Prop} {d : xh_D} {e : xd_E} {a0 a1 : Int} (hD : 3 ≤ D) (o : (0 ≤ (d 11 (5 : Int)) - a1 ∧ (d 11 (5 : Int)) - a1 < 2147483648)) (h : P (xp_ent (e 16 (((d 11 (5 : Int)) - a1) % 30).toNat) a0) d e) : yC D 58 L [.ref 11, .int (xJ a0), .int (xJ a1)] d e P := by
  refine yC_of rfl rfl rfl (by omega) (yk_58_11_0 (by omega) ?_)
  refine ⟨o, by omega, ?_⟩
  exact h
theorem yk_64_0 {D L : Nat} {P : Int → xh_D → xd_E → Prop} {d : xh_D} {e : xd_E} {a1 : Int}   (h : ((0 ≤ a1 ∧ a1 < 9) ∧ P (xi_and (d 127 (9 : Int)) (xi_xor (d 133 a1) (-1 : Int))) d e)) : yB D xm_c64 (yQi L P) L 0 [.ref 127, .int (xJ a1)] [] d e := by
  refine yb_aload rfl rfl ?_
  refine yb_get (v := .int (xJ (d 127 (9 : Int)))) rfl (by decide) (by decide) (rfl) rfl ?_
  refine yb_aload rfl rfl ?_
  refine yb_get (v := .ref 133) rfl (by decide) (by decide) (rfl) rfl ?_
  refine yb_iload (x := a1) rfl rfl ?_
  have r1 := h.1
  replace h := h.2
  refine yb_iald (j := a1) rfl xd_A133 (by decide) r1 (v := (d 133 a1)) rfl ?_
  refine yb_push (v := (-1)) rfl ?_
  refine yb_ixor (x := (d 133 a1)) (y := (-1 : Int)) rfl ?_
  refine yb_iand (x := (d 127 (9 : Int))) (y := (xi_xor (d 133 a1) (-1 : Int))) rfl ?_
  exact yb_ret rfl h
theorem sp_64 {D L : Nat} {P : Int → xh_D → xd_E → Prop} {d : xh_D} {e : xd_E} {a0 : Int} (hD : 1 ≤ D) (o : (0 ≤ a0 ∧ a0 < 9)) (h : P (xi_and (d 127 (9 : Int)) (xi_xor (d 133 a0) (-1 : Int))) d e) : yC D 64 L [.ref 127, .int (xJ a0)] d e P := by
  refine yC_of rfl rfl rfl (by omega) (yk_64_0 ?_)
  exact ⟨o, h⟩
theorem yk_69_0 {D L : Nat} {P : xh_D → xd_E → Prop} {d : xh_D} {e : xd_E} {a1 : Int} {a2 : Int} {a3 : Int}   (h : ((0 ≤ a2 ∧ a2 < 9) ∧ ((0 ≤ a3 ∧ a3 < 9) ∧ P (xs (xs d 133 a2 (xi_xor (d 133 a2) (xi_shl (1 : Int) a1))) 133 a3 (xi_xor ((xs d 133 a2 (xi_xor (d 133 a2) (xi_shl (1 : Int) a1))) 133 a3) (xi_shl (1 : Int) a1))) e))) : yB D xm_c69 (yQv L P) L 0 [.ref 127, .int (xJ a1), .int (xJ a2), .int (xJ a3)] [] d e := by
  refine yb_aload rfl rfl ?_
  refine yb_get (v := .ref 133) rfl (by decide) (by decide) (rfl) rfl ?_
  refine yb_iload (x := a2) rfl rfl ?_
  refine yb_dup2 rfl rfl rfl ?_
  have r1 := h.1
  replace h := h.2
  refine yb_iald (j := a2) rfl xd_A133 (by decide) r1 (v := (d 133 a2)) rfl ?_
  refine yb_push (v := 1) rfl ?_
  refine yb_iload (x := a1) rfl rfl ?_
  refine yb_ishl (x := (1 : Int)) (y := a1) rfl ?_
  refine yb_ixor (x := (d 133 a2)) (y := (xi_shl (1 : Int) a1)) rfl ?_
  refine yb_iast (j := a2) (x := (xi_xor (d 133 a2) (xi_shl (1 : Int) a1))) rfl xd_A133 (by decide) r1 ?_
  refine yb_aload rfl rfl ?_
  refine yb_get (v := .ref 133) rfl (by decide) (by decide) (rfl) rfl ?_
  refine yb_iload (x := a3) rfl rfl ?_
  refine yb_dup2 rfl rfl rfl ?_
  have r2 := h.1
  replace h := h.2
  refine yb_iald (j := a3) rfl xd_A133 (by decide) r2 (v := ((xs d 133 a2 (xi_xor (d 133 a2) (xi_shl (1 : Int) a1))) 133 a3)) rfl ?_
  refine yb_push (v := 1) rfl ?_
  refine yb_iload (x := a1) rfl rfl ?_
  refine yb_ishl (x := (1 : Int)) (y := a1) rfl ?_
  refine yb_ixor (x := ((xs d 133 a2 (xi_xor (d 133 a2) (xi_shl (1 : Int) a1))) 133 a3)) (y := (xi_shl (1 : Int) a1)) rfl ?_
  refine yb_iast (j := a3) (x := (xi_xor ((xs d 133 a2 (xi_xor (d 133 a2) (xi_shl (1 : Int) a1))) 133 a3) (xi_shl (1 : Int) a1))) rfl xd_A133 (by decide) r2 ?_
  exact yb_retv rfl h
theorem sp_69 {D L : Nat} {P : xh_D → xd_E → Prop} {d : xh_D} {e : xd_E} {a0 a1 a2 : Int} (hD : 1 ≤ D) (o : (0 ≤ a1 ∧ a1 < 9) ∧ (0 ≤ a2 ∧ a2 < 9)) (h : P (xs (xs d 133 a1 (xi_xor (d 133 a1) (xi_shl (1 : Int) a0))) 133 a2 (xi_xor ((xs d 133 a1 (xi_xor (d 133 a1) (xi_shl (1 : Int) a0))) 133 a2) (xi_shl (1 : Int) a0))) e) : yV D 69 L [.ref 127, .int (xJ a0), .int (xJ a1), .int (xJ a2)] d e P := by
  refine yV_of rfl rfl rfl (by omega) (yk_69_0 ?_)
  exact ⟨o.1, o.2, h⟩
theorem yk_31_0 {D L : Nat} {P : xh_D → xd_E → Prop} {d : xh_D} {e : xd_E}    (h : P (xs d 4 (1 : Int) (0 : Int)) e) : yB D xm_c31 (yQv L P) L 0 [.ref 4] [] d e := by
  refine yb_aload rfl rfl ?_
  refine yb_push (v := 0) rfl ?_
  refine yb_put (z := (0 : Int)) (k := 1) rfl rfl (by decide) (by decide) (rfl) (Nat.le_of_ble_eq_true rfl) rfl (rfl) ?_
  exact yb_retv rfl h
theorem sp_31 {D L : Nat} {P : xh_D → xd_E → Prop} {d : xh_D} {e : xd_E} (hD : 1 ≤ D) (h : P (xs d 4 (1 : Int) (0 : Int)) e) : yV D 31 L [.ref 4] d e P := by
  refine yV_of rfl rfl rfl (by omega) (yk_31_0 ?_)
  exact h
theorem yk_32_0 {D L : Nat} {P : xh_D → xd_E → Prop} {d : xh_D} {e : xd_E} {a1 : Int}   (h : ((-2147483648 ≤ (d 4 (1 : Int)) ∧ (d 4 (1 : Int)) < 2147483648) ∧ ((((12 : Int) ≤ (d 4 (1 : Int))) → P d e) ∧ ((¬ (12 : Int) ≤ (d 4 (1 : Int))) → ((0 ≤ (d 4 (1 : Int)) ∧ (d 4 (1 : Int)) < 12) ∧ P (xs (xs d 5 (d 4 (1 : Int)) a1) 4 (1 : Int) ((d 4 (1 : Int)) + (1 : Int))) e))))) : yB D xm_c32 (yQv L P) L 0 [.ref 4, .int (xJ a1)] [] d e := by
  refine yb_aload rfl rfl ?_
  refine yb_get (v := .int (xJ (d 4 (1 : Int)))) rfl (by decide) (by decide) (rfl) rfl ?_
  refine yb_push (v := 12) rfl ?_
  have r1 := h.1
  replace h := h.2
  refine yb_icmp_ge (x := (d 4 (1 : Int))) (y := (12 : Int)) rfl rfl r1 (by decide) (fun c => ?_) (fun c => ?_)
  · replace h := h.1 c
    exact yb_retv rfl h
  · replace h := h.2 c
    refine yb_aload rfl rfl ?_
    refine yb_get (v := .ref 5) rfl (by decide) (by decide) (rfl) rfl ?_
    refine yb_aload rfl rfl ?_
    refine yb_get (v := .int (xJ (d 4 (1 : Int)))) rfl (by decide) (by decide) (rfl) rfl ?_
    refine yb_iload (x := a1) rfl rfl ?_
    have r2 := h.1
    replace h := h.2
    refine yb_iast (j := (d 4 (1 : Int))) (x := a1) rfl xd_A5 (by decide) r2 ?_
    refine yb_aload rfl rfl ?_
    refine yb_dup rfl rfl ?_
    refine yb_get (v := .int (xJ (d 4 (1 : Int)))) rfl (by decide) (by decide) (rfl) rfl ?_
    refine yb_push (v := 1) rfl ?_
    refine yb_iadd (x := (d 4 (1 : Int))) (y := (1 : Int)) rfl ?_
    refine yb_put (z := ((d 4 (1 : Int)) + (1 : Int))) (k := 1) rfl rfl (by decide) (by decide) (rfl) (Nat.le_of_ble_eq_true rfl) rfl (rfl) ?_
    exact yb_retv rfl h
theorem sp_32 {D L : Nat} {P : xh_D → xd_E → Prop} {d : xh_D} {e : xd_E} {a0 : Int} (hD : 1 ≤ D) (o : (0 ≤ (d 4 (1 : Int)) ∧ (d 4 (1 : Int)) < 12)) (h : P (xs (xs d 5 (d 4 (1 : Int)) a0) 4 (1 : Int) ((d 4 (1 : Int)) + 1)) e) : yV D 32 L [.ref 4, .int (xJ a0)] d e P := by
  refine yV_of rfl rfl rfl (by omega) (yk_32_0 ?_)
  repeat' (first | apply And.intro | intro _)
  all_goals first
    | omega
    | exact h
theorem yk_41_0 {D L : Nat} {P : xh_D → xd_E → Prop} {d : xh_D} {e : xd_E} {a1 : Int}   (h : ((-2147483648 ≤ (d 111 (7 : Int)) ∧ (d 111 (7 : Int)) < 2147483648) ∧ ((((40 : Int) ≤ (d 111 (7 : Int))) → P d e) ∧ ((¬ (40 : Int) ≤ (d 111 (7 : Int))) → ((0 ≤ (d 111 (7 : Int)) ∧ (d 111 (7 : Int)) < 40) ∧ P (xs (xs d 113 (d 111 (7 : Int)) a1) 111 (7 : Int) ((d 111 (7 : Int)) + (1 : Int))) e))))) : yB D xm_c41 (yQv L P) L 0 [.ref 111, .int (xJ a1)] [] d e := by
  refine yb_aload rfl rfl ?_
  refine yb_get (v := .int (xJ (d 111 (7 : Int)))) rfl (by decide) (by decide) (rfl) rfl ?_
  refine yb_push (v := 40) rfl ?_
  have r1 := h.1
  replace h := h.2
  refine yb_icmp_ge (x := (d 111 (7 : Int))) (y := (40 : Int)) rfl rfl r1 (by decide) (fun c => ?_) (fun c => ?_)
  · replace h := h.1 c
    exact yb_retv rfl h
  · replace h := h.2 c
    refine yb_aload rfl rfl ?_
    refine yb_get (v := .ref 113) rfl (by decide) (by decide) (rfl) rfl ?_
    refine yb_aload rfl rfl ?_
    refine yb_get (v := .int (xJ (d 111 (7 : Int)))) rfl (by decide) (by decide) (rfl) rfl ?_
    refine yb_iload (x := a1) rfl rfl ?_
    have r2 := h.1
    replace h := h.2
    refine yb_iast (j := (d 111 (7 : Int))) (x := a1) rfl xd_A113 (by decide) r2 ?_
    refine yb_aload rfl rfl ?_
    refine yb_dup rfl rfl ?_
    refine yb_get (v := .int (xJ (d 111 (7 : Int)))) rfl (by decide) (by decide) (rfl) rfl ?_
    refine yb_push (v := 1) rfl ?_
    refine yb_iadd (x := (d 111 (7 : Int))) (y := (1 : Int)) rfl ?_
    refine yb_put (z := ((d 111 (7 : Int)) + (1 : Int))) (k := 7) rfl rfl (by decide) (by decide) (rfl) (Nat.le_of_ble_eq_true rfl) rfl (rfl) ?_
    exact yb_retv rfl h
theorem sp_41 {D L : Nat} {P : xh_D → xd_E → Prop} {d : xh_D} {e : xd_E} {a0 : Int} (hD : 1 ≤ D) (o : (0 ≤ (d 111 (7 : Int)) ∧ (d 111 (7 : Int)) < 40)) (h : P (xs (xs d 113 (d 111 (7 : Int)) a0) 111 (7 : Int) ((d 111 (7 : Int)) + 1)) e) : yV D 41 L [.ref 111, .int (xJ a0)] d e P := by
  refine yV_of rfl rfl rfl (by omega) (yk_41_0 ?_)
  repeat' (first | apply And.intro | intro _)
  all_goals first
    | omega
    | exact h
theorem yk_42_0 {D L : Nat} {P : xh_D → xd_E → Prop} {d : xh_D} {e : xd_E} {a1 : Int}   (h : ((-2147483648 ≤ (d 111 (8 : Int)) ∧ (d 111 (8 : Int)) < 2147483648) ∧ ((((40 : Int) ≤ (d 111 (8 : Int))) → P d e) ∧ ((¬ (40 : Int) ≤ (d 111 (8 : Int))) → ((0 ≤ (d 111 (8 : Int)) ∧ (d 111 (8 : Int)) < 40) ∧ P (xs (xs d 114 (d 111 (8 : Int)) a1) 111 (8 : Int) ((d 111 (8 : Int)) + (1 : Int))) e))))) : yB D xm_c42 (yQv L P) L 0 [.ref 111, .int (xJ a1)] [] d e := by
  refine yb_aload rfl rfl ?_
  refine yb_get (v := .int (xJ (d 111 (8 : Int)))) rfl (by decide) (by decide) (rfl) rfl ?_
  refine yb_push (v := 40) rfl ?_
  have r1 := h.1
  replace h := h.2
  refine yb_icmp_ge (x := (d 111 (8 : Int))) (y := (40 : Int)) rfl rfl r1 (by decide) (fun c => ?_) (fun c => ?_)
  · replace h := h.1 c
    exact yb_retv rfl h
  · replace h := h.2 c
    refine yb_aload rfl rfl ?_
    refine yb_get (v := .ref 114) rfl (by decide) (by decide) (rfl) rfl ?_
    refine yb_aload rfl rfl ?_
    refine yb_get (v := .int (xJ (d 111 (8 : Int)))) rfl (by decide) (by decide) (rfl) rfl ?_
    refine yb_iload (x := a1) rfl rfl ?_
    have r2 := h.1
    replace h := h.2
    refine yb_iast (j := (d 111 (8 : Int))) (x := a1) rfl xd_A114 (by decide) r2 ?_
    refine yb_aload rfl rfl ?_
    refine yb_dup rfl rfl ?_
    refine yb_get (v := .int (xJ (d 111 (8 : Int)))) rfl (by decide) (by decide) (rfl) rfl ?_
    refine yb_push (v := 1) rfl ?_
    refine yb_iadd (x := (d 111 (8 : Int))) (y := (1 : Int)) rfl ?_
    refine yb_put (z := ((d 111 (8 : Int)) + (1 : Int))) (k := 8) rfl rfl (by decide) (by decide) (rfl) (Nat.le_of_ble_eq_true rfl) rfl (rfl) ?_
    exact yb_retv rfl h
theorem sp_42 {D L : Nat} {P : xh_D → xd_E → Prop} {d : xh_D} {e : xd_E} {a0 : Int} (hD : 1 ≤ D) (o : (0 ≤ (d 111 (8 : Int)) ∧ (d 111 (8 : Int)) < 40)) (h : P (xs (xs d 114 (d 111 (8 : Int)) a0) 111 (8 : Int) ((d 111 (8 : Int)) + 1)) e) : yV D 42 L [.ref 111, .int (xJ a0)] d e P := by
  refine yV_of rfl rfl rfl (by omega) (yk_42_0 ?_)
  repeat' (first | apply And.intro | intro _)
  all_goals first
    | omega
    | exact h
theorem yk_62_0 {D L : Nat} {P : xh_D → xd_E → Prop} {d : xh_D} {e : xd_E} {a1 : Int} {a2 : Int}   (h : ((-2147483648 ≤ (d 127 (8 : Int)) ∧ (d 127 (8 : Int)) < 2147483648) ∧ ((((6 : Int) ≤ (d 127 (8 : Int))) → P d e) ∧ ((¬ (6 : Int) ≤ (d 127 (8 : Int))) → ((0 ≤ (d 127 (8 : Int)) ∧ (d 127 (8 : Int)) < 6) ∧ P (xs (xs (xs d 128 (d 127 (8 : Int)) a1) 129 (d 127 (8 : Int)) a2) 127 (8 : Int) ((d 127 (8 : Int)) + (1 : Int))) e))))) : yB D xm_c62 (yQv L P) L 0 [.ref 127, .int (xJ a1), .int (xJ a2)] [] d e := by
  refine yb_aload rfl rfl ?_
  refine yb_get (v := .int (xJ (d 127 (8 : Int)))) rfl (by decide) (by decide) (rfl) rfl ?_
  refine yb_push (v := 6) rfl ?_
  have r1 := h.1
  replace h := h.2
  refine yb_icmp_ge (x := (d 127 (8 : Int))) (y := (6 : Int)) rfl rfl r1 (by decide) (fun c => ?_) (fun c => ?_)
  · replace h := h.1 c
    exact yb_retv rfl h
  · replace h := h.2 c
    refine yb_aload rfl rfl ?_
    refine yb_get (v := .ref 128) rfl (by decide) (by decide) (rfl) rfl ?_
    refine yb_aload rfl rfl ?_
    refine yb_get (v := .int (xJ (d 127 (8 : Int)))) rfl (by decide) (by decide) (rfl) rfl ?_
    refine yb_iload (x := a1) rfl rfl ?_
    have r2 := h.1
    replace h := h.2
    refine yb_iast (j := (d 127 (8 : Int))) (x := a1) rfl xd_A128 (by decide) r2 ?_
    refine yb_aload rfl rfl ?_
    refine yb_get (v := .ref 129) rfl (by decide) (by decide) (rfl) rfl ?_
    refine yb_aload rfl rfl ?_
    refine yb_get (v := .int (xJ (d 127 (8 : Int)))) rfl (by decide) (by decide) (rfl) rfl ?_
    refine yb_iload (x := a2) rfl rfl ?_
    refine yb_iast (j := (d 127 (8 : Int))) (x := a2) rfl xd_A129 (by decide) r2 ?_
    refine yb_aload rfl rfl ?_
    refine yb_dup rfl rfl ?_
    refine yb_get (v := .int (xJ (d 127 (8 : Int)))) rfl (by decide) (by decide) (rfl) rfl ?_
    refine yb_push (v := 1) rfl ?_
    refine yb_iadd (x := (d 127 (8 : Int))) (y := (1 : Int)) rfl ?_
    refine yb_put (z := ((d 127 (8 : Int)) + (1 : Int))) (k := 8) rfl rfl (by decide) (by decide) (rfl) (Nat.le_of_ble_eq_true rfl) rfl (rfl) ?_
    exact yb_retv rfl h
theorem sp_62 {D L : Nat} {P : xh_D → xd_E → Prop} {d : xh_D} {e : xd_E} {a0 a1 : Int} (hD : 1 ≤ D) (o : (0 ≤ (d 127 (8 : Int)) ∧ (d 127 (8 : Int)) < 6)) (h : P (xs (xs (xs d 128 (d 127 (8 : Int)) a0) 129 (d 127 (8 : Int)) a1) 127 (8 : Int) ((d 127 (8 : Int)) + 1)) e) : yV D 62 L [.ref 127, .int (xJ a0), .int (xJ a1)] d e P := by
  refine yV_of rfl rfl rfl (by omega) (yk_62_0 ?_)
  repeat' (first | apply And.intro | intro _)
  all_goals first
    | omega
    | exact h
theorem yk_89_0 {D L : Nat} {P : xh_D → xd_E → Prop} {d : xh_D} {e : xd_E} {a1 : Int} {a2 : Int} {a3 : Int}   (h : ((-2147483648 ≤ (d 136 (5 : Int)) ∧ (d 136 (5 : Int)) < 2147483648) ∧ ((((12 : Int) ≤ (d 136 (5 : Int))) → P d e) ∧ ((¬ (12 : Int) ≤ (d 136 (5 : Int))) → ((0 ≤ (d 136 (5 : Int)) ∧ (d 136 (5 : Int)) < 12) ∧ P (xs (xs (xs (xs d 137 (d 136 (5 : Int)) a1) 138 (d 136 (5 : Int)) a2) 139 (d 136 (5 : Int)) a3) 136 (5 : Int) ((d 136 (5 : Int)) + (1 : Int))) e))))) : yB D xm_c89 (yQv L P) L 0 [.ref 136, .int (xJ a1), .int (xJ a2), .int (xJ a3)] [] d e := by
  refine yb_aload rfl rfl ?_
  refine yb_get (v := .int (xJ (d 136 (5 : Int)))) rfl (by decide) (by decide) (rfl) rfl ?_
  refine yb_push (v := 12) rfl ?_
  have r1 := h.1
  replace h := h.2
  refine yb_icmp_ge (x := (d 136 (5 : Int))) (y := (12 : Int)) rfl rfl r1 (by decide) (fun c => ?_) (fun c => ?_)
  · replace h := h.1 c
    exact yb_retv rfl h
  · replace h := h.2 c
    refine yb_aload rfl rfl ?_
    refine yb_get (v := .ref 137) rfl (by decide) (by decide) (rfl) rfl ?_
    refine yb_aload rfl rfl ?_
    refine yb_get (v := .int (xJ (d 136 (5 : Int)))) rfl (by decide) (by decide) (rfl) rfl ?_
    refine yb_iload (x := a1) rfl rfl ?_
    have r2 := h.1
    replace h := h.2
    refine yb_iast (j := (d 136 (5 : Int))) (x := a1) rfl xd_A137 (by decide) r2 ?_
    refine yb_aload rfl rfl ?_
    refine yb_get (v := .ref 138) rfl (by decide) (by decide) (rfl) rfl ?_
    refine yb_aload rfl rfl ?_
    refine yb_get (v := .int (xJ (d 136 (5 : Int)))) rfl (by decide) (by decide) (rfl) rfl ?_
    refine yb_iload (x := a2) rfl rfl ?_
    refine yb_iast (j := (d 136 (5 : Int))) (x := a2) rfl xd_A138 (by decide) r2 ?_
    refine yb_aload rfl rfl ?_
    refine yb_get (v := .ref 139) rfl (by decide) (by decide) (rfl) rfl ?_
    refine yb_aload rfl rfl ?_
    refine yb_get (v := .int (xJ (d 136 (5 : Int)))) rfl (by decide) (by decide) (rfl) rfl ?_
    refine yb_iload (x := a3) rfl rfl ?_
    refine yb_iast (j := (d 136 (5 : Int))) (x := a3) rfl xd_A139 (by decide) r2 ?_
    refine yb_aload rfl rfl ?_
    refine yb_dup rfl rfl ?_
    refine yb_get (v := .int (xJ (d 136 (5 : Int)))) rfl (by decide) (by decide) (rfl) rfl ?_
    refine yb_push (v := 1) rfl ?_
    refine yb_iadd (x := (d 136 (5 : Int))) (y := (1 : Int)) rfl ?_
    refine yb_put (z := ((d 136 (5 : Int)) + (1 : Int))) (k := 5) rfl rfl (by decide) (by decide) (rfl) (Nat.le_of_ble_eq_true rfl) rfl (rfl) ?_
    exact yb_retv rfl h
theorem sp_89 {D L : Nat} {P : xh_D → xd_E → Prop} {d : xh_D} {e : xd_E} {a0 a1 a2 : Int} (hD : 1 ≤ D) (o : (0 ≤ (d 136 (5 : Int)) ∧ (d 136 (5 : Int)) < 12)) (h : P (xs (xs (xs (xs d 137 (d 136 (5 : Int)) a0) 138 (d 136 (5 : Int)) a1) 139 (d 136 (5 : Int)) a2) 136 (5 : Int) ((d 136 (5 : Int)) + 1)) e) : yV D 89 L [.ref 136, .int (xJ a0), .int (xJ a1), .int (xJ a2)] d e P := by
  refine yV_of rfl rfl rfl (by omega) (yk_89_0 ?_)
  repeat' (first | apply And.intro | intro _)
  all_goals first
    | omega
    | exact h
theorem yk_80_0 {D L : Nat} {P : xh_D → xd_E → Prop} {d : xh_D} {e : xd_E} {a1 : Int} {a2 : Int}   (h : ((-2147483648 ≤ (d 142 (3 : Int)) ∧ (d 142 (3 : Int)) < 2147483648) ∧ ((((10 : Int) ≤ (d 142 (3 : Int))) → P d e) ∧ ((¬ (10 : Int) ≤ (d 142 (3 : Int))) → ((0 ≤ (d 142 (3 : Int)) ∧ (d 142 (3 : Int)) < 10) ∧ P (xs (xs (xs d 143 (d 142 (3 : Int)) a1) 144 (d 142 (3 : Int)) a2) 142 (3 : Int) ((d 142 (3 : Int)) + (1 : Int))) e))))) : yB D xm_c80 (yQv L P) L 0 [.ref 142, .int (xJ a1), .int (xJ a2)] [] d e := by
  refine yb_aload rfl rfl ?_
  refine yb_get (v := .int (xJ (d 142 (3 : Int)))) rfl (by decide) (by decide) (rfl) rfl ?_
  refine yb_push (v := 10) rfl ?_
  have r1 := h.1
  replace h := h.2
  refine yb_icmp_ge (x := (d 142 (3 : Int))) (y := (10 : Int)) rfl rfl r1 (by decide) (fun c => ?_) (fun c => ?_)
  · replace h := h.1 c
    exact yb_retv rfl h
  · replace h := h.2 c
    refine yb_aload rfl rfl ?_
    refine yb_get (v := .ref 143) rfl (by decide) (by decide) (rfl) rfl ?_
    refine yb_aload rfl rfl ?_
    refine yb_get (v := .int (xJ (d 142 (3 : Int)))) rfl (by decide) (by decide) (rfl) rfl ?_
    refine yb_iload (x := a1) rfl rfl ?_
    have r2 := h.1
    replace h := h.2
    refine yb_iast (j := (d 142 (3 : Int))) (x := a1) rfl xd_A143 (by decide) r2 ?_
    refine yb_aload rfl rfl ?_
    refine yb_get (v := .ref 144) rfl (by decide) (by decide) (rfl) rfl ?_
    refine yb_aload rfl rfl ?_
    refine yb_get (v := .int (xJ (d 142 (3 : Int)))) rfl (by decide) (by decide) (rfl) rfl ?_
    refine yb_iload (x := a2) rfl rfl ?_
    refine yb_iast (j := (d 142 (3 : Int))) (x := a2) rfl xd_A144 (by decide) r2 ?_
    refine yb_aload rfl rfl ?_
    refine yb_dup rfl rfl ?_
    refine yb_get (v := .int (xJ (d 142 (3 : Int)))) rfl (by decide) (by decide) (rfl) rfl ?_
    refine yb_push (v := 1) rfl ?_
    refine yb_iadd (x := (d 142 (3 : Int))) (y := (1 : Int)) rfl ?_
    refine yb_put (z := ((d 142 (3 : Int)) + (1 : Int))) (k := 3) rfl rfl (by decide) (by decide) (rfl) (Nat.le_of_ble_eq_true rfl) rfl (rfl) ?_
    exact yb_retv rfl h
theorem sp_80 {D L : Nat} {P : xh_D → xd_E → Prop} {d : xh_D} {e : xd_E} {a0 a1 : Int} (hD : 1 ≤ D) (o : (0 ≤ (d 142 (3 : Int)) ∧ (d 142 (3 : Int)) < 10)) (h : P (xs (xs (xs d 143 (d 142 (3 : Int)) a0) 144 (d 142 (3 : Int)) a1) 142 (3 : Int) ((d 142 (3 : Int)) + 1)) e) : yV D 80 L [.ref 142, .int (xJ a0), .int (xJ a1)] d e P := by
  refine yV_of rfl rfl rfl (by omega) (yk_80_0 ?_)
  repeat' (first | apply And.intro | intro _)
  all_goals first
    | omega
    | exact h
theorem yk_104_0 {D L : Nat} {P : xh_D → xd_E → Prop} {d : xh_D} {e : xd_E} {a1 : Int} {a2 : Int} {a3 : Int}   (h : ((-2147483648 ≤ (d 6 (4 : Int)) ∧ (d 6 (4 : Int)) < 2147483648) ∧ ((((9 : Int) ≤ (d 6 (4 : Int))) → P d e) ∧ ((¬ (9 : Int) ≤ (d 6 (4 : Int))) → ((0 ≤ (d 6 (4 : Int)) ∧ (d 6 (4 : Int)) < 9) ∧ P (xs (xs (xs (xs d 12 (d 6 (4 : Int)) a1) 13 (d 6 (4 : Int)) a2) 14 (d 6 (4 : Int)) a3) 6 (4 : Int) ((d 6 (4 : Int)) + (1 : Int))) e))))) : yB D xm_c104 (yQv L P) L 0 [.ref 1, .int (xJ a1), .int (xJ a2), .int (xJ a3)] [] d e := by
  refine yb_aload rfl rfl ?_
  refine yb_get (v := .ref 6) rfl (by decide) (by decide) (rfl) rfl ?_
  refine yb_get (v := .int (xJ (d 6 (4 : Int)))) rfl (by decide) (by decide) (rfl) rfl ?_
  refine yb_push (v := 9) rfl ?_
  have r1 := h.1
  replace h := h.2
  refine yb_icmp_ge (x := (d 6 (4 : Int))) (y := (9 : Int)) rfl rfl r1 (by decide) (fun c => ?_) (fun c => ?_)
  · replace h := h.1 c
    exact yb_retv rfl h
  · replace h := h.2 c
    refine yb_aload rfl rfl ?_
    refine yb_get (v := .ref 11) rfl (by decide) (by decide) (rfl) rfl ?_
    refine yb_get (v := .ref 12) rfl (by decide) (by decide) (rfl) rfl ?_
    refine yb_aload rfl rfl ?_
    refine yb_get (v := .ref 6) rfl (by decide) (by decide) (rfl) rfl ?_
    refine yb_get (v := .int (xJ (d 6 (4 : Int)))) rfl (by decide) (by decide) (rfl) rfl ?_
    refine yb_iload (x := a1) rfl rfl ?_
    have r2 := h.1
    replace h := h.2
    refine yb_iast (j := (d 6 (4 : Int))) (x := a1) rfl xd_A12 (by decide) r2 ?_
    refine yb_aload rfl rfl ?_
    refine yb_get (v := .ref 11) rfl (by decide) (by decide) (rfl) rfl ?_
    refine yb_get (v := .ref 13) rfl (by decide) (by decide) (rfl) rfl ?_
    refine yb_aload rfl rfl ?_
    refine yb_get (v := .ref 6) rfl (by decide) (by decide) (rfl) rfl ?_
    refine yb_get (v := .int (xJ (d 6 (4 : Int)))) rfl (by decide) (by decide) (rfl) rfl ?_
    refine yb_iload (x := a2) rfl rfl ?_
    refine yb_iast (j := (d 6 (4 : Int))) (x := a2) rfl xd_A13 (by decide) r2 ?_
    refine yb_aload rfl rfl ?_
    refine yb_get (v := .ref 11) rfl (by decide) (by decide) (rfl) rfl ?_
    refine yb_get (v := .ref 14) rfl (by decide) (by decide) (rfl) rfl ?_
    refine yb_aload rfl rfl ?_
    refine yb_get (v := .ref 6) rfl (by decide) (by decide) (rfl) rfl ?_
    refine yb_get (v := .int (xJ (d 6 (4 : Int)))) rfl (by decide) (by decide) (rfl) rfl ?_
    refine yb_iload (x := a3) rfl rfl ?_
    refine yb_iast (j := (d 6 (4 : Int))) (x := a3) rfl xd_A14 (by decide) r2 ?_
    refine yb_aload rfl rfl ?_
    refine yb_get (v := .ref 6) rfl (by decide) (by decide) (rfl) rfl ?_
    refine yb_dup rfl rfl ?_
    refine yb_get (v := .int (xJ (d 6 (4 : Int)))) rfl (by decide) (by decide) (rfl) rfl ?_
    refine yb_push (v := 1) rfl ?_
    refine yb_iadd (x := (d 6 (4 : Int))) (y := (1 : Int)) rfl ?_
    refine yb_put (z := ((d 6 (4 : Int)) + (1 : Int))) (k := 4) rfl rfl (by decide) (by decide) (rfl) (Nat.le_of_ble_eq_true rfl) rfl (rfl) ?_
    exact yb_retv rfl h
theorem sp_104 {D L : Nat} {P : xh_D → xd_E → Prop} {d : xh_D} {e : xd_E} {a0 a1 a2 : Int} (hD : 1 ≤ D) (o : (0 ≤ (d 6 (4 : Int)) ∧ (d 6 (4 : Int)) < 9)) (h : P (xs (xs (xs (xs d 12 (d 6 (4 : Int)) a0) 13 (d 6 (4 : Int)) a1) 14 (d 6 (4 : Int)) a2) 6 (4 : Int) ((d 6 (4 : Int)) + 1)) e) : yV D 104 L [.ref 1, .int (xJ a0), .int (xJ a1), .int (xJ a2)] d e P := by
  refine yV_of rfl rfl rfl (by omega) (yk_104_0 ?_)
  repeat' (first | apply And.intro | intro _)
  all_goals first
    | omega
    | exact h
theorem yk_19_0 {D L : Nat} {P : xh_D → xd_E → Prop} {d : xh_D} {e : xd_E}    (h : P (xs d 23 (4 : Int) (0 : Int)) e) : yB D xm_c19 (yQv L P) L 0 [.ref 23] [] d e := by
  refine yb_aload rfl rfl ?_
  refine yb_push (v := 0) rfl ?_
  refine yb_put (z := (0 : Int)) (k := 4) rfl rfl (by decide) (by decide) (rfl) (Nat.le_of_ble_eq_true rfl) rfl (rfl) ?_
  exact yb_retv rfl h
theorem sp_19 {D L : Nat} {P : xh_D → xd_E → Prop} {d : xh_D} {e : xd_E} (hD : 1 ≤ D) (h : P (xs d 23 (4 : Int) (0 : Int)) e) : yV D 19 L [.ref 23] d e P := by
  refine yV_of rfl rfl rfl (by omega) (yk_19_0 ?_)
  exact h
theorem yk_35_0 {D L : Nat} {P : xh_D → xd_E → Prop} {d : xh_D} {e : xd_E}    (h : P (xs (xs (xs (xs (xs (xs d 111 (7 : Int) (0 : Int)) 111 (8 : Int) (0 : Int)) 111 (9 : Int) (0 : Int)) 111 (10 : Int) (0 : Int)) 111 (11 : Int) (1 : Int)) 117 (0 : Int) (0 : Int)) e) : yB D xm_c35 (yQv L P) L 0 [.ref 111] [] d e := by
  refine yb_aload rfl rfl ?_
  refine yb_push (v := 0) rfl ?_
  refine yb_put (z := (0 : Int)) (k := 7) rfl rfl (by decide) (by decide) (rfl) (Nat.le_of_ble_eq_true rfl) rfl (rfl) ?_
  refine yb_aload rfl rfl ?_
  refine yb_push (v := 0) rfl ?_
  refine yb_put (z := (0 : Int)) (k := 8) rfl rfl (by decide) (by decide) (rfl) (Nat.le_of_ble_eq_true rfl) rfl (rfl) ?_
  refine yb_aload rfl rfl ?_
  refine yb_push (v := 0) rfl ?_
  refine yb_put (z := (0 : Int)) (k := 9) rfl rfl (by decide) (by decide) (rfl) (Nat.le_of_ble_eq_true rfl) rfl (rfl) ?_
  refine yb_aload rfl rfl ?_
  refine yb_push (v := 0) rfl ?_
  refine yb_put (z := (0 : Int)) (k := 10) rfl rfl (by decide) (by decide) (rfl) (Nat.le_of_ble_eq_true rfl) rfl (rfl) ?_
  refine yb_aload rfl rfl ?_
  refine yb_push (v := 1) rfl ?_
  refine yb_put (z := (1 : Int)) (k := 11) rfl rfl (by decide) (by decide) (rfl) (Nat.le_of_ble_eq_true rfl) (by decide) (rfl) ?_
  refine yb_aload rfl rfl ?_
  refine yb_get (v := .ref 117) rfl (by decide) (by decide) (rfl) rfl ?_
  refine yb_push (v := 0) rfl ?_
  refine yb_push (v := 0) rfl ?_
  refine yb_bast (j := (0 : Int)) (x := (0 : Int)) rfl (Or.inr ⟨rfl, by decide⟩) xd_A117 (by decide) ?_
  exact yb_retv rfl h
theorem sp_35 {D L : Nat} {P : xh_D → xd_E → Prop} {d : xh_D} {e : xd_E} (hD : 1 ≤ D) (h : P (xs (xs (xs (xs (xs (xs d 111 (7 : Int) (0 : Int)) 111 (8 : Int) (0 : Int)) 111 (9 : Int) (0 : Int)) 111 (10 : Int) (0 : Int)) 111 (11 : Int) (1 : Int)) 117 (0 : Int) (0 : Int)) e) : yV D 35 L [.ref 111] d e P := by
  refine yV_of rfl rfl rfl (by omega) (yk_35_0 ?_)
  exact h
theorem yk_27_12_0 {D L : Nat} {P1 P0 : xh_D → xd_E → Prop} {d : xh_D} {e : xd_E} {a2 : Int} {a3 : Int}   (h : ((0 ≤ a3 ∧ a3 < 9) ∧ ((0 ≤ ((a2 * (9 : Int)) + (d 12 a3)) ∧ ((a2 * (9 : Int)) + (d 12 a3)) < 81) ∧ ((0 ≤ a2 ∧ a2 < 9) ∧ ((0 ≤ ((a2 * (9 : Int)) + (d 12 a2)) ∧ ((a2 * (9 : Int)) + (d 12 a2)) < 81) ∧ ((-2147483648 ≤ (d 8 ((a2 * (9 : Int)) + (d 12 a3))) ∧ (d 8 ((a2 * (9 : Int)) + (d 12 a3))) < 2147483648) ∧ ((-2147483648 ≤ (d 8 ((a2 * (9 : Int)) + (d 12 a2))) ∧ (d 8 ((a2 * (9 : Int)) + (d 12 a2))) < 2147483648) ∧ ((((d 8 ((a2 * (9 : Int)) + (d 12 a3))) ≤ (d 8 ((a2 * (9 : Int)) + (d 12 a2)))) → P0 d e) ∧ ((¬ (d 8 ((a2 * (9 : Int)) + (d 12 a3))) ≤ (d 8 ((a2 * (9 : Int)) + (d 12 a2)))) → P1 d e))))))))) : yB D xm_c27 (yQz L P1 P0) L 0 [.ref 6, .ref 12, .int (xJ a2), .int (xJ a3)] [] d e := by
  refine yb_aload rfl rfl ?_
  refine yb_get (v := .ref 8) rfl (by decide) (by decide) (rfl) rfl ?_
  refine yb_iload (x := a2) rfl rfl ?_
  refine yb_push (v := 9) rfl ?_
  refine yb_imul (x := a2) (y := (9 : Int)) rfl ?_
  refine yb_aload rfl rfl ?_
  refine yb_iload (x := a3) rfl rfl ?_
  have r1 := h.1
  replace h := h.2
  refine yb_iald (j := a3) rfl xd_A12 (by decide) r1 (v := (d 12 a3)) rfl ?_
  refine yb_iadd (x := (a2 * (9 : Int))) (y := (d 12 a3)) rfl ?_
  have r2 := h.1
  replace h := h.2
  refine yb_iald (j := ((a2 * (9 : Int)) + (d 12 a3))) rfl xd_A8 (by decide) r2 (v := (d 8 ((a2 * (9 : Int)) + (d 12 a3)))) rfl ?_
  refine yb_aload rfl rfl ?_
  refine yb_get (v := .ref 8) rfl (by decide) (by decide) (rfl) rfl ?_
  refine yb_iload (x := a2) rfl rfl ?_
  refine yb_push (v := 9) rfl ?_
  refine yb_imul (x := a2) (y := (9 : Int)) rfl ?_
  refine yb_aload rfl rfl ?_
  refine yb_iload (x := a2) rfl rfl ?_
  have r3 := h.1
  replace h := h.2
  refine yb_iald (j := a2) rfl xd_A12 (by decide) r3 (v := (d 12 a2)) rfl ?_
  refine yb_iadd (x := (a2 * (9 : Int))) (y := (d 12 a2)) rfl ?_
  have r4 := h.1
  replace h := h.2
  refine yb_iald (j := ((a2 * (9 : Int)) + (d 12 a2))) rfl xd_A8 (by decide) r4 (v := (d 8 ((a2 * (9 : Int)) + (d 12 a2)))) rfl ?_
  have r5 := h.1
  replace h := h.2
  have r6 := h.1
  replace h := h.2
  refine yb_icmp_le (x := (d 8 ((a2 * (9 : Int)) + (d 12 a3)))) (y := (d 8 ((a2 * (9 : Int)) + (d 12 a2)))) rfl rfl r5 r6 (fun c => ?_) (fun c => ?_)
  · replace h := h.1 c
    refine yb_push (v := 0) rfl ?_
    exact yb_ret0 rfl h
  · replace h := h.2 c
    refine yb_push (v := 1) rfl ?_
    refine yb_goto rfl rfl ?_
    exact yb_ret1 rfl h
theorem sp_27_12 {D L : Nat} {P1 P0 : xh_D → xd_E → Prop} {d : xh_D} {e : xd_E} {a1 a2 : Int} (hD : 1 ≤ D) (o : (0 ≤ a1 ∧ a1 < 9) ∧ (0 ≤ a2 ∧ a2 < 9) ∧ (0 ≤ (d 12 a1) ∧ (d 12 a1) < 9) ∧ (0 ≤ (d 12 a2) ∧ (d 12 a2) < 9) ∧ (-2147483648 ≤ (d 8 (a1 * 9 + (d 12 a1))) ∧ (d 8 (a1 * 9 + (d 12 a1))) < 2147483648) ∧ (-2147483648 ≤ (d 8 (a1 * 9 + (d 12 a2))) ∧ (d 8 (a1 * 9 + (d 12 a2))) < 2147483648)) (h1 : ((d 8 (a1 * 9 + (d 12 a1))) < (d 8 (a1 * 9 + (d 12 a2)))) → P1 d e) (h0 : ¬ ((d 8 (a1 * 9 + (d 12 a1))) < (d 8 (a1 * 9 + (d 12 a2)))) → P0 d e) : yZ D 27 L [.ref 6, .ref 12, .int (xJ a1), .int (xJ a2)] d e P1 P0 := by
  refine yZ_of rfl rfl rfl (by omega) (yk_27_12_0 ?_)
  repeat' (first | apply And.intro | intro _)
  all_goals first
    | omega
    | exact h1 (by omega)
    | exact h0 (by omega)
theorem yk_27_18_0 {D L : Nat} {P1 P0 : xh_D → xd_E → Prop} {d : xh_D} {e : xd_E} {a2 : Int} {a3 : Int}   (h : ((0 ≤ a3 ∧ a3 < 9) ∧ ((0 ≤ ((a2 * (9 : Int)) + (d 18 a3)) ∧ ((a2 * (9 : Int)) + (d 18 a3)) < 81) ∧ ((0 ≤ a2 ∧ a2 < 9) ∧ ((0 ≤ ((a2 * (9 : Int)) + (d 18 a2)) ∧ ((a2 * (9 : Int)) + (d 18 a2)) < 81) ∧ ((-2147483648 ≤ (d 8 ((a2 * (9 : Int)) + (d 18 a3))) ∧ (d 8 ((a2 * (9 : Int)) + (d 18 a3))) < 2147483648) ∧ ((-2147483648 ≤ (d 8 ((a2 * (9 : Int)) + (d 18 a2))) ∧ (d 8 ((a2 * (9 : Int)) + (d 18 a2))) < 2147483648) ∧ ((((d 8 ((a2 * (9 : Int)) + (d 18 a3))) ≤ (d 8 ((a2 * (9 : Int)) + (d 18 a2)))) → P0 d e) ∧ ((¬ (d 8 ((a2 * (9 : Int)) + (d 18 a3))) ≤ (d 8 ((a2 * (9 : Int)) + (d 18 a2)))) → P1 d e))))))))) : yB D xm_c27 (yQz L P1 P0) L 0 [.ref 6, .ref 18, .int (xJ a2), .int (xJ a3)] [] d e := by
  refine yb_aload rfl rfl ?_
  refine yb_get (v := .ref 8) rfl (by decide) (by decide) (rfl) rfl ?_
  refine yb_iload (x := a2) rfl rfl ?_
  refine yb_push (v := 9) rfl ?_
  refine yb_imul (x := a2) (y := (9 : Int)) rfl ?_
  refine yb_aload rfl rfl ?_
  refine yb_iload (x := a3) rfl rfl ?_
  have r1 := h.1
  replace h := h.2
  refine yb_iald (j := a3) rfl xd_A18 (by decide) r1 (v := (d 18 a3)) rfl ?_
  refine yb_iadd (x := (a2 * (9 : Int))) (y := (d 18 a3)) rfl ?_
  have r2 := h.1
  replace h := h.2
  refine yb_iald (j := ((a2 * (9 : Int)) + (d 18 a3))) rfl xd_A8 (by decide) r2 (v := (d 8 ((a2 * (9 : Int)) + (d 18 a3)))) rfl ?_
  refine yb_aload rfl rfl ?_
  refine yb_get (v := .ref 8) rfl (by decide) (by decide) (rfl) rfl ?_
  refine yb_iload (x := a2) rfl rfl ?_
  refine yb_push (v := 9) rfl ?_
  refine yb_imul (x := a2) (y := (9 : Int)) rfl ?_
  refine yb_aload rfl rfl ?_
  refine yb_iload (x := a2) rfl rfl ?_
  have r3 := h.1
  replace h := h.2
  refine yb_iald (j := a2) rfl xd_A18 (by decide) r3 (v := (d 18 a2)) rfl ?_
  refine yb_iadd (x := (a2 * (9 : Int))) (y := (d 18 a2)) rfl ?_
  have r4 := h.1
  replace h := h.2
  refine yb_iald (j := ((a2 * (9 : Int)) + (d 18 a2))) rfl xd_A8 (by decide) r4 (v := (d 8 ((a2 * (9 : Int)) + (d 18 a2)))) rfl ?_
  have r5 := h.1
  replace h := h.2
  have r6 := h.1
  replace h := h.2
  refine yb_icmp_le (x := (d 8 ((a2 * (9 : Int)) + (d 18 a3)))) (y := (d 8 ((a2 * (9 : Int)) + (d 18 a2)))) rfl rfl r5 r6 (fun c => ?_) (fun c => ?_)
  · replace h := h.1 c
    refine yb_push (v := 0) rfl ?_
    exact yb_ret0 rfl h
  · replace h := h.2 c
    refine yb_push (v := 1) rfl ?_
    refine yb_goto rfl rfl ?_
    exact yb_ret1 rfl h
theorem sp_27_18 {D L : Nat} {P1 P0 : xh_D → xd_E → Prop} {d : xh_D} {e : xd_E} {a1 a2 : Int} (hD : 1 ≤ D) (o : (0 ≤ a1 ∧ a1 < 9) ∧ (0 ≤ a2 ∧ a2 < 9) ∧ (0 ≤ (d 18 a1) ∧ (d 18 a1) < 9) ∧ (0 ≤ (d 18 a2) ∧ (d 18 a2) < 9) ∧ (-2147483648 ≤ (d 8 (a1 * 9 + (d 18 a1))) ∧ (d 8 (a1 * 9 + (d 18 a1))) < 2147483648) ∧ (-2147483648 ≤ (d 8 (a1 * 9 + (d 18 a2))) ∧ (d 8 (a1 * 9 + (d 18 a2))) < 2147483648)) (h1 : ((d 8 (a1 * 9 + (d 18 a1))) < (d 8 (a1 * 9 + (d 18 a2)))) → P1 d e) (h0 : ¬ ((d 8 (a1 * 9 + (d 18 a1))) < (d 8 (a1 * 9 + (d 18 a2)))) → P0 d e) : yZ D 27 L [.ref 6, .ref 18, .int (xJ a1), .int (xJ a2)] d e P1 P0 := by
  refine yZ_of rfl rfl rfl (by omega) (yk_27_18_0 ?_)
  repeat' (first | apply And.intro | intro _)
  all_goals first
    | omega
    | exact h1 (by omega)
    | exact h0 (by omega)
theorem yk_266_147_0 {D L : Nat} {P1 P0 : xh_D → xd_E → Prop} {d : xh_D} {e : xd_E} {a2 : Int} {a3 : Int}   (h : ((0 ≤ a3 ∧ a3 < 353) ∧ ((0 ≤ (((9 : Int) * a2) + (d 147 a3)) ∧ (((9 : Int) * a2) + (d 147 a3)) < 81) ∧ ((0 ≤ a2 ∧ a2 < 353) ∧ ((0 ≤ (((9 : Int) * a2) + (d 147 a2)) ∧ (((9 : Int) * a2) + (d 147 a2)) < 81) ∧ ((-2147483648 ≤ (d 149 (((9 : Int) * a2) + (d 147 a3))) ∧ (d 149 (((9 : Int) * a2) + (d 147 a3))) < 2147483648) ∧ ((-2147483648 ≤ (d 149 (((9 : Int) * a2) + (d 147 a2))) ∧ (d 149 (((9 : Int) * a2) + (d 147 a2))) < 2147483648) ∧ ((((d 149 (((9 : Int) * a2) + (d 147 a3))) ≤ (d 149 (((9 : Int) * a2) + (d 147 a2)))) → P0 d e) ∧ ((¬ (d 149 (((9 : Int) * a2) + (d 147 a3))) ≤ (d 149 (((9 : Int) * a2) + (d 147 a2)))) → P1 d e))))))))) : yB D xm_c266 (yQz L P1 P0) L 0 [.ref 146, .ref 147, .int (xJ a2), .int (xJ a3)] [] d e := by
  refine yb_aload rfl rfl ?_
  refine yb_get (v := .ref 149) rfl (by decide) (by decide) (rfl) rfl ?_
  refine yb_push (v := 9) rfl ?_
  refine yb_iload (x := a2) rfl rfl ?_
  refine yb_imul (x := (9 : Int)) (y := a2) rfl ?_
  refine yb_aload rfl rfl ?_
  refine yb_iload (x := a3) rfl rfl ?_
  have r1 := h.1
  replace h := h.2
  refine yb_iald (j := a3) rfl xd_A147 (by decide) r1 (v := (d 147 a3)) rfl ?_
  refine yb_iadd (x := ((9 : Int) * a2)) (y := (d 147 a3)) rfl ?_
  have r2 := h.1
  replace h := h.2
  refine yb_iald (j := (((9 : Int) * a2) + (d 147 a3))) rfl xd_A149 (by decide) r2 (v := (d 149 (((9 : Int) * a2) + (d 147 a3)))) rfl ?_
  refine yb_aload rfl rfl ?_
  refine yb_get (v := .ref 149) rfl (by decide) (by decide) (rfl) rfl ?_
  refine yb_push (v := 9) rfl ?_
  refine yb_iload (x := a2) rfl rfl ?_
  refine yb_imul (x := (9 : Int)) (y := a2) rfl ?_
  refine yb_aload rfl rfl ?_
  refine yb_iload (x := a2) rfl rfl ?_
  have r3 := h.1
  replace h := h.2
  refine yb_iald (j := a2) rfl xd_A147 (by decide) r3 (v := (d 147 a2)) rfl ?_
  refine yb_iadd (x := ((9 : Int) * a2)) (y := (d 147 a2)) rfl ?_
  have r4 := h.1
  replace h := h.2
  refine yb_iald (j := (((9 : Int) * a2) + (d 147 a2))) rfl xd_A149 (by decide) r4 (v := (d 149 (((9 : Int) * a2) + (d 147 a2)))) rfl ?_
  have r5 := h.1
  replace h := h.2
  have r6 := h.1
  replace h := h.2
  refine yb_icmp_le (x := (d 149 (((9 : Int) * a2) + (d 147 a3)))) (y := (d 149 (((9 : Int) * a2) + (d 147 a2)))) rfl rfl r5 r6 (fun c => ?_) (fun c => ?_)
  · replace h := h.1 c
    refine yb_push (v := 0) rfl ?_
    exact yb_ret0 rfl h
  · replace h := h.2 c
    refine yb_push (v := 1) rfl ?_
    refine yb_goto rfl rfl ?_
    exact yb_ret1 rfl h
theorem sp_266_147 {D L : Nat} {P1 P0 : xh_D → xd_E → Prop} {d : xh_D} {e : xd_E} {a1 a2 : Int} (hD : 1 ≤ D) (o : (0 ≤ a1 ∧ a1 < 9) ∧ (0 ≤ a2 ∧ a2 < 9) ∧ (0 ≤ (d 147 a1) ∧ (d 147 a1) < 9) ∧ (0 ≤ (d 147 a2) ∧ (d 147 a2) < 9) ∧ (-2147483648 ≤ (d 149 (9 * a1 + (d 147 a1))) ∧ (d 149 (9 * a1 + (d 147 a1))) < 2147483648) ∧ (-2147483648 ≤ (d 149 (9 * a1 + (d 147 a2))) ∧ (d 149 (9 * a1 + (d 147 a2))) < 2147483648)) (h1 : ((d 149 (9 * a1 + (d 147 a1))) < (d 149 (9 * a1 + (d 147 a2)))) → P1 d e) (h0 : ¬ ((d 149 (9 * a1 + (d 147 a1))) < (d 149 (9 * a1 + (d 147 a2)))) → P0 d e) : yZ D 266 L [.ref 146, .ref 147, .int (xJ a1), .int (xJ a2)] d e P1 P0 := by
  refine yZ_of rfl rfl rfl (by omega) (yk_266_147_0 ?_)
  repeat' (first | apply And.intro | intro _)
  all_goals first
    | omega
    | exact h1 (by omega)
    | exact h0 (by omega)
theorem yk_266_162_0 {D L : Nat} {P1 P0 : xh_D → xd_E → Prop} {d : xh_D} {e : xd_E} {a2 : Int} {a3 : Int}   (h : ((0 ≤ a3 ∧ a3 < 353) ∧ ((0 ≤ (((9 : Int) * a2) + (d 162 a3)) ∧ (((9 : Int) * a2) + (d 162 a3)) < 81) ∧ ((0 ≤ a2 ∧ a2 < 353) ∧ ((0 ≤ (((9 : Int) * a2) + (d 162 a2)) ∧ (((9 : Int) * a2) + (d 162 a2)) < 81) ∧ ((-2147483648 ≤ (d 149 (((9 : Int) * a2) + (d 162 a3))) ∧ (d 149 (((9 : Int) * a2) + (d 162 a3))) < 2147483648) ∧ ((-2147483648 ≤ (d 149 (((9 : Int) * a2) + (d 162 a2))) ∧ (d 149 (((9 : Int) * a2) + (d 162 a2))) < 2147483648) ∧ ((((d 149 (((9 : Int) * a2) + (d 162 a3))) ≤ (d 149 (((9 : Int) * a2) + (d 162 a2)))) → P0 d e) ∧ ((¬ (d 149 (((9 : Int) * a2) + (d 162 a3))) ≤ (d 149 (((9 : Int) * a2) + (d 162 a2)))) → P1 d e))))))))) : yB D xm_c266 (yQz L P1 P0) L 0 [.ref 146, .ref 162, .int (xJ a2), .int (xJ a3)] [] d e := by
  refine yb_aload rfl rfl ?_
  refine yb_get (v := .ref 149) rfl (by decide) (by decide) (rfl) rfl ?_
  refine yb_push (v := 9) rfl ?_
  refine yb_iload (x := a2) rfl rfl ?_
  refine yb_imul (x := (9 : Int)) (y := a2) rfl ?_
  refine yb_aload rfl rfl ?_
  refine yb_iload (x := a3) rfl rfl ?_
  have r1 := h.1
  replace h := h.2
  refine yb_iald (j := a3) rfl xd_A162 (by decide) r1 (v := (d 162 a3)) rfl ?_
  refine yb_iadd (x := ((9 : Int) * a2)) (y := (d 162 a3)) rfl ?_
  have r2 := h.1
  replace h := h.2
  refine yb_iald (j := (((9 : Int) * a2) + (d 162 a3))) rfl xd_A149 (by decide) r2 (v := (d 149 (((9 : Int) * a2) + (d 162 a3)))) rfl ?_
  refine yb_aload rfl rfl ?_
  refine yb_get (v := .ref 149) rfl (by decide) (by decide) (rfl) rfl ?_
  refine yb_push (v := 9) rfl ?_
  refine yb_iload (x := a2) rfl rfl ?_
  refine yb_imul (x := (9 : Int)) (y := a2) rfl ?_
  refine yb_aload rfl rfl ?_
  refine yb_iload (x := a2) rfl rfl ?_
  have r3 := h.1
  replace h := h.2
  refine yb_iald (j := a2) rfl xd_A162 (by decide) r3 (v := (d 162 a2)) rfl ?_
  refine yb_iadd (x := ((9 : Int) * a2)) (y := (d 162 a2)) rfl ?_
  have r4 := h.1
  replace h := h.2
  refine yb_iald (j := (((9 : Int) * a2) + (d 162 a2))) rfl xd_A149 (by decide) r4 (v := (d 149 (((9 : Int) * a2) + (d 162 a2)))) rfl ?_
  have r5 := h.1
  replace h := h.2
  have r6 := h.1
  replace h := h.2
  refine yb_icmp_le (x := (d 149 (((9 : Int) * a2) + (d 162 a3)))) (y := (d 149 (((9 : Int) * a2) + (d 162 a2)))) rfl rfl r5 r6 (fun c => ?_) (fun c => ?_)
  · replace h := h.1 c
    refine yb_push (v := 0) rfl ?_
    exact yb_ret0 rfl h
  · replace h := h.2 c
    refine yb_push (v := 1) rfl ?_
    refine yb_goto rfl rfl ?_
    exact yb_ret1 rfl h
theorem sp_266_162 {D L : Nat} {P1 P0 : xh_D → xd_E → Prop} {d : xh_D} {e : xd_E} {a1 a2 : Int} (hD : 1 ≤ D) (o : (0 ≤ a1 ∧ a1 < 9) ∧ (0 ≤ a2 ∧ a2 < 9) ∧ (0 ≤ (d 162 a1) ∧ (d 162 a1) < 9) ∧ (0 ≤ (d 162 a2) ∧ (d 162 a2) < 9) ∧ (-2147483648 ≤ (d 149 (9 * a1 + (d 162 a1))) ∧ (d 149 (9 * a1 + (d 162 a1))) < 2147483648) ∧ (-2147483648 ≤ (d 149 (9 * a1 + (d 162 a2))) ∧ (d 149 (9 * a1 + (d 162 a2))) < 2147483648)) (h1 : ((d 149 (9 * a1 + (d 162 a1))) < (d 149 (9 * a1 + (d 162 a2)))) → P1 d e) (h0 : ¬ ((d 149 (9 * a1 + (d 162 a1))) < (d 149 (9 * a1 + (d 162 a2)))) → P0 d e) : yZ D 266 L [.ref 146, .ref 162, .int (xJ a1), .int (xJ a2)] d e P1 P0 := by
  refine yZ_of rfl rfl rfl (by omega) (yk_266_162_0 ?_)
  repeat' (first | apply And.intro | intro _)
  all_goals first
    | omega
    | exact h1 (by omega)
    | exact h0 (by omega)
theorem yk_91_12_0 {D L : Nat} {P1 P0 : xh_D → xd_E → Prop} {d : xh_D} {e : xd_E} {a2 : Int}   (h : ((0 ≤ a2 ∧ a2 < 12) ∧ ((0 ≤ (d 137 a2) ∧ (d 137 a2) < 9) ∧ ((0 ≤ (d 138 a2) ∧ (d 138 a2) < 9) ∧ ((-2147483648 ≤ (d 12 (d 137 a2)) ∧ (d 12 (d 137 a2)) < 2147483648) ∧ ((-2147483648 ≤ (d 12 (d 138 a2)) ∧ (d 12 (d 138 a2)) < 2147483648) ∧ (((¬ (d 12 (d 137 a2)) = (d 12 (d 138 a2))) → ((-2147483648 ≤ (d 139 a2) ∧ (d 139 a2) < 2147483648) ∧ (((¬ (d 139 a2) = (1 : Int)) → P1 d e) ∧ (((d 139 a2) = (1 : Int)) → P0 d e)))) ∧ (((d 12 (d 137 a2)) = (d 12 (d 138 a2))) → ((-2147483648 ≤ (d 139 a2) ∧ (d 139 a2) < 2147483648) ∧ (((¬ (d 139 a2) = (1 : Int)) → P0 d e) ∧ (((d 139 a2) = (1 : Int)) → P1 d e))))))))))) : yB D xm_c91 (yQz L P1 P0) L 0 [.ref 136, .ref 12, .int (xJ a2)] [] d e := by
  refine yb_aload rfl rfl ?_
  refine yb_aload rfl rfl ?_
  refine yb_get (v := .ref 137) rfl (by decide) (by decide) (rfl) rfl ?_
  refine yb_iload (x := a2) rfl rfl ?_
  have r1 := h.1
  replace h := h.2
  refine yb_iald (j := a2) rfl xd_A137 (by decide) r1 (v := (d 137 a2)) rfl ?_
  have r2 := h.1
  replace h := h.2
  refine yb_iald (j := (d 137 a2)) rfl xd_A12 (by decide) r2 (v := (d 12 (d 137 a2))) rfl ?_
  refine yb_aload rfl rfl ?_
  refine yb_aload rfl rfl ?_
  refine yb_get (v := .ref 138) rfl (by decide) (by decide) (rfl) rfl ?_
  refine yb_iload (x := a2) rfl rfl ?_
  refine yb_iald (j := a2) rfl xd_A138 (by decide) r1 (v := (d 138 a2)) rfl ?_
  have r3 := h.1
  replace h := h.2
  refine yb_iald (j := (d 138 a2)) rfl xd_A12 (by decide) r3 (v := (d 12 (d 138 a2))) rfl ?_
  have r4 := h.1
  replace h := h.2
  have r5 := h.1
  replace h := h.2
  refine yb_icmp_ne (x := (d 12 (d 137 a2))) (y := (d 12 (d 138 a2))) rfl rfl r4 r5 (fun c => ?_) (fun c => ?_)
  · replace h := h.1 c
    refine yb_push (v := 0) rfl ?_
    refine yb_aload rfl rfl ?_
    refine yb_get (v := .ref 139) rfl (by decide) (by decide) (rfl) rfl ?_
    refine yb_iload (x := a2) rfl rfl ?_
    refine yb_iald (j := a2) rfl xd_A139 (by decide) r1 (v := (d 139 a2)) rfl ?_
    refine yb_push (v := 1) rfl ?_
    have r6 := h.1
    replace h := h.2
    refine yb_icmp_ne (x := (d 139 a2)) (y := (1 : Int)) rfl rfl r6 (by decide) (fun c => ?_) (fun c => ?_)
    · replace h := h.1 c
      refine yb_push (v := 0) rfl ?_
      refine yb_icmp_ne (x := (0 : Int)) (y := (0 : Int)) rfl rfl (by decide) (by decide) (fun c => absurd (by decide) c) (fun _ => ?_)
      refine yb_push (v := 1) rfl ?_
      refine yb_goto rfl rfl ?_
      exact yb_ret1 rfl h
    · replace h := h.2 c
      refine yb_push (v := 1) rfl ?_
      refine yb_goto rfl rfl ?_
      refine yb_icmp_ne (x := (0 : Int)) (y := (1 : Int)) rfl rfl (by decide) (by decide) (fun _ => ?_) (fun c => absurd c (by decide))
      refine yb_push (v := 0) rfl ?_
      exact yb_ret0 rfl h
  · replace h := h.2 c
    refine yb_push (v := 1) rfl ?_
    refine yb_goto rfl rfl ?_
    refine yb_aload rfl rfl ?_
    refine yb_get (v := .ref 139) rfl (by decide) (by decide) (rfl) rfl ?_
    refine yb_iload (x := a2) rfl rfl ?_
    refine yb_iald (j := a2) rfl xd_A139 (by decide) r1 (v := (d 139 a2)) rfl ?_
    refine yb_push (v := 1) rfl ?_
    have r7 := h.1
    replace h := h.2
    refine yb_icmp_ne (x := (d 139 a2)) (y := (1 : Int)) rfl rfl r7 (by decide) (fun c => ?_) (fun c => ?_)
    · replace h := h.1 c
      refine yb_push (v := 0) rfl ?_
      refine yb_icmp_ne (x := (1 : Int)) (y := (0 : Int)) rfl rfl (by decide) (by decide) (fun _ => ?_) (fun c => absurd c (by decide))
      refine yb_push (v := 0) rfl ?_
      exact yb_ret0 rfl h
    · replace h := h.2 c
      refine yb_push (v := 1) rfl ?_
      refine yb_goto rfl rfl ?_
      refine yb_icmp_ne (x := (1 : Int)) (y := (1 : Int)) rfl rfl (by decide) (by decide) (fun c => absurd (by decide) c) (fun _ => ?_)
      refine yb_push (v := 1) rfl ?_
      refine yb_goto rfl rfl ?_
      exact yb_ret1 rfl h
theorem sp_91_12 {D L : Nat} {P1 P0 : xh_D → xd_E → Prop} {d : xh_D} {e : xd_E} {a1 : Int} (hD : 1 ≤ D) (o : (0 ≤ a1 ∧ a1 < 12) ∧ (0 ≤ (d 137 a1) ∧ (d 137 a1) < 9) ∧ (0 ≤ (d 138 a1) ∧ (d 138 a1) < 9) ∧ (-2147483648 ≤ (d 12 (d 137 a1)) ∧ (d 12 (d 137 a1)) < 2147483648) ∧ (-2147483648 ≤ (d 12 (d 138 a1)) ∧ (d 12 (d 138 a1)) < 2147483648) ∧ (-2147483648 ≤ (d 139 a1) ∧ (d 139 a1) < 2147483648)) (h1 : (((d 12 (d 137 a1)) = (d 12 (d 138 a1)) ↔ (d 139 a1) = 1)) → P1 d e) (h0 : ¬ (((d 12 (d 137 a1)) = (d 12 (d 138 a1)) ↔ (d 139 a1) = 1)) → P0 d e) : yZ D 91 L [.ref 136, .ref 12, .int (xJ a1)] d e P1 P0 := by
  refine yZ_of rfl rfl rfl (by omega) (yk_91_12_0 ?_)
  repeat' (first | apply And.intro | intro _)
  all_goals first
    | omega
    | exact h1 (by omega)
    | exact h0 (by omega)
theorem yk_91_18_0 {D L : Nat} {P1 P0 : xh_D → xd_E → Prop} {d : xh_D} {e : xd_E} {a2 : Int}   (h : ((0 ≤ a2 ∧ a2 < 12) ∧ ((0 ≤ (d 137 a2) ∧ (d 137 a2) < 9) ∧ ((0 ≤ (d 138 a2) ∧ (d 138 a2) < 9) ∧ ((-2147483648 ≤ (d 18 (d 137 a2)) ∧ (d 18 (d 137 a2)) < 2147483648) ∧ ((-2147483648 ≤ (d 18 (d 138 a2)) ∧ (d 18 (d 138 a2)) < 2147483648) ∧ (((¬ (d 18 (d 137 a2)) = (d 18 (d 138 a2))) → ((-2147483648 ≤ (d 139 a2) ∧ (d 139 a2) < 2147483648) ∧ (((¬ (d 139 a2) = (1 : Int)) → P1 d e) ∧ (((d 139 a2) = (1 : Int)) → P0 d e)))) ∧ (((d 18 (d 137 a2)) = (d 18 (d 138 a2))) → ((-2147483648 ≤ (d 139 a2) ∧ (d 139 a2) < 2147483648) ∧ (((¬ (d 139 a2) = (1 : Int)) → P0 d e) ∧ (((d 139 a2) = (1 : Int)) → P1 d e))))))))))) : yB D xm_c91 (yQz L P1 P0) L 0 [.ref 136, .ref 18, .int (xJ a2)] [] d e := by
  refine yb_aload rfl rfl ?_
  refine yb_aload rfl rfl ?_
  refine yb_get (v := .ref 137) rfl (by decide) (by decide) (rfl) rfl ?_
  refine yb_iload (x := a2) rfl rfl ?_
  have r1 := h.1
  replace h := h.2
  refine yb_iald (j := a2) rfl xd_A137 (by decide) r1 (v := (d 137 a2)) rfl ?_
  have r2 := h.1
  replace h := h.2
  refine yb_iald (j := (d 137 a2)) rfl xd_A18 (by decide) r2 (v := (d 18 (d 137 a2))) rfl ?_
  refine yb_aload rfl rfl ?_
  refine yb_aload rfl rfl ?_
  refine yb_get (v := .ref 138) rfl (by decide) (by decide) (rfl) rfl ?_
  refine yb_iload (x := a2) rfl rfl ?_
  refine yb_iald (j := a2) rfl xd_A138 (by decide) r1 (v := (d 138 a2)) rfl ?_
  have r3 := h.1
  replace h := h.2
  refine yb_iald (j := (d 138 a2)) rfl xd_A18 (by decide) r3 (v := (d 18 (d 138 a2))) rfl ?_
  have r4 := h.1
  replace h := h.2
  have r5 := h.1
  replace h := h.2
  refine yb_icmp_ne (x := (d 18 (d 137 a2))) (y := (d 18 (d 138 a2))) rfl rfl r4 r5 (fun c => ?_) (fun c => ?_)
  · replace h := h.1 c
    refine yb_push (v := 0) rfl ?_
    refine yb_aload rfl rfl ?_
    refine yb_get (v := .ref 139) rfl (by decide) (by decide) (rfl) rfl ?_
    refine yb_iload (x := a2) rfl rfl ?_
    refine yb_iald (j := a2) rfl xd_A139 (by decide) r1 (v := (d 139 a2)) rfl ?_
    refine yb_push (v := 1) rfl ?_
    have r6 := h.1
    replace h := h.2
    refine yb_icmp_ne (x := (d 139 a2)) (y := (1 : Int)) rfl rfl r6 (by decide) (fun c => ?_) (fun c => ?_)
    · replace h := h.1 c
      refine yb_push (v := 0) rfl ?_
      refine yb_icmp_ne (x := (0 : Int)) (y := (0 : Int)) rfl rfl (by decide) (by decide) (fun c => absurd (by decide) c) (fun _ => ?_)
      refine yb_push (v := 1) rfl ?_
      refine yb_goto rfl rfl ?_
      exact yb_ret1 rfl h
    · replace h := h.2 c
      refine yb_push (v := 1) rfl ?_
      refine yb_goto rfl rfl ?_
      refine yb_icmp_ne (x := (0 : Int)) (y := (1 : Int)) rfl rfl (by decide) (by decide) (fun _ => ?_) (fun c => absurd c (by decide))
      refine yb_push (v := 0) rfl ?_
      exact yb_ret0 rfl h
  · replace h := h.2 c
    refine yb_push (v := 1) rfl ?_
    refine yb_goto rfl rfl ?_
    refine yb_aload rfl rfl ?_
    refine yb_get (v := .ref 139) rfl (by decide) (by decide) (rfl) rfl ?_
    refine yb_iload (x := a2) rfl rfl ?_
    refine yb_iald (j := a2) rfl xd_A139 (by decide) r1 (v := (d 139 a2)) rfl ?_
    refine yb_push (v := 1) rfl ?_
    have r7 := h.1
    replace h := h.2
    refine yb_icmp_ne (x := (d 139 a2)) (y := (1 : Int)) rfl rfl r7 (by decide) (fun c => ?_) (fun c => ?_)
    · replace h := h.1 c
      refine yb_push (v := 0) rfl ?_
      refine yb_icmp_ne (x := (1 : Int)) (y := (0 : Int)) rfl rfl (by decide) (by decide) (fun _ => ?_) (fun c => absurd c (by decide))
      refine yb_push (v := 0) rfl ?_
      exact yb_ret0 rfl h
    · replace h := h.2 c
      refine yb_push (v := 1) rfl ?_
      refine yb_goto rfl rfl ?_
      refine yb_icmp_ne (x := (1 : Int)) (y := (1 : Int)) rfl rfl (by decide) (by decide) (fun c => absurd (by decide) c) (fun _ => ?_)
      refine yb_push (v := 1) rfl ?_
      refine yb_goto rfl rfl ?_
      exact yb_ret1 rfl h
theorem sp_91_18 {D L : Nat} {P1 P0 : xh_D → xd_E → Prop} {d : xh_D} {e : xd_E} {a1 : Int} (hD : 1 ≤ D) (o : (0 ≤ a1 ∧ a1 < 12) ∧ (0 ≤ (d 137 a1) ∧ (d 137 a1) < 9) ∧ (0 ≤ (d 138 a1) ∧ (d 138 a1) < 9) ∧ (-2147483648 ≤ (d 18 (d 137 a1)) ∧ (d 18 (d 137 a1)) < 2147483648) ∧ (-2147483648 ≤ (d 18 (d 138 a1)) ∧ (d 18 (d 138 a1)) < 2147483648) ∧ (-2147483648 ≤ (d 139 a1) ∧ (d 139 a1) < 2147483648)) (h1 : (((d 18 (d 137 a1)) = (d 18 (d 138 a1)) ↔ (d 139 a1) = 1)) → P1 d e) (h0 : ¬ (((d 18 (d 137 a1)) = (d 18 (d 138 a1)) ↔ (d 139 a1) = 1)) → P0 d e) : yZ D 91 L [.ref 136, .ref 18, .int (xJ a1)] d e P1 P0 := by
  refine yZ_of rfl rfl rfl (by omega) (yk_91_18_0 ?_)
  repeat' (first | apply And.intro | intro _)
  all_goals first
    | omega
    | exact h1 (by omega)
    | exact h0 (by omega)
theorem yk_91_140_0 {D L : Nat} {P1 P0 : xh_D → xd_E → Prop} {d : xh_D} {e : xd_E} {a2 : Int}   (h : ((0 ≤ a2 ∧ a2 < 12) ∧ ((0 ≤ (d 137 a2) ∧ (d 137 a2) < 9) ∧ ((0 ≤ (d 138 a2) ∧ (d 138 a2) < 9) ∧ ((-2147483648 ≤ (d 140 (d 137 a2)) ∧ (d 140 (d 137 a2)) < 2147483648) ∧ ((-2147483648 ≤ (d 140 (d 138 a2)) ∧ (d 140 (d 138 a2)) < 2147483648) ∧ (((¬ (d 140 (d 137 a2)) = (d 140 (d 138 a2))) → ((-2147483648 ≤ (d 139 a2) ∧ (d 139 a2) < 2147483648) ∧ (((¬ (d 139 a2) = (1 : Int)) → P1 d e) ∧ (((d 139 a2) = (1 : Int)) → P0 d e)))) ∧ (((d 140 (d 137 a2)) = (d 140 (d 138 a2))) → ((-2147483648 ≤ (d 139 a2) ∧ (d 139 a2) < 2147483648) ∧ (((¬ (d 139 a2) = (1 : Int)) → P0 d e) ∧ (((d 139 a2) = (1 : Int)) → P1 d e))))))))))) : yB D xm_c91 (yQz L P1 P0) L 0 [.ref 136, .ref 140, .int (xJ a2)] [] d e := by
  refine yb_aload rfl rfl ?_
  refine yb_aload rfl rfl ?_
  refine yb_get (v := .ref 137) rfl (by decide) (by decide) (rfl) rfl ?_
  refine yb_iload (x := a2) rfl rfl ?_
  have r1 := h.1
  replace h := h.2
  refine yb_iald (j := a2) rfl xd_A137 (by decide) r1 (v := (d 137 a2)) rfl ?_
  have r2 := h.1
  replace h := h.2
  refine yb_iald (j := (d 137 a2)) rfl xd_A140 (by decide) r2 (v := (d 140 (d 137 a2))) rfl ?_
  refine yb_aload rfl rfl ?_
  refine yb_aload rfl rfl ?_
  refine yb_get (v := .ref 138) rfl (by decide) (by decide) (rfl) rfl ?_
  refine yb_iload (x := a2) rfl rfl ?_
  refine yb_iald (j := a2) rfl xd_A138 (by decide) r1 (v := (d 138 a2)) rfl ?_
  have r3 := h.1
  replace h := h.2
  refine yb_iald (j := (d 138 a2)) rfl xd_A140 (by decide) r3 (v := (d 140 (d 138 a2))) rfl ?_
  have r4 := h.1
  replace h := h.2
  have r5 := h.1
  replace h := h.2
  refine yb_icmp_ne (x := (d 140 (d 137 a2))) (y := (d 140 (d 138 a2))) rfl rfl r4 r5 (fun c => ?_) (fun c => ?_)
  · replace h := h.1 c
    refine yb_push (v := 0) rfl ?_
    refine yb_aload rfl rfl ?_
    refine yb_get (v := .ref 139) rfl (by decide) (by decide) (rfl) rfl ?_
    refine yb_iload (x := a2) rfl rfl ?_
    refine yb_iald (j := a2) rfl xd_A139 (by decide) r1 (v := (d 139 a2)) rfl ?_
    refine yb_push (v := 1) rfl ?_
    have r6 := h.1
    replace h := h.2
    refine yb_icmp_ne (x := (d 139 a2)) (y := (1 : Int)) rfl rfl r6 (by decide) (fun c => ?_) (fun c => ?_)
    · replace h := h.1 c
      refine yb_push (v := 0) rfl ?_
      refine yb_icmp_ne (x := (0 : Int)) (y := (0 : Int)) rfl rfl (by decide) (by decide) (fun c => absurd (by decide) c) (fun _ => ?_)
      refine yb_push (v := 1) rfl ?_
      refine yb_goto rfl rfl ?_
      exact yb_ret1 rfl h
    · replace h := h.2 c
      refine yb_push (v := 1) rfl ?_
      refine yb_goto rfl rfl ?_
      refine yb_icmp_ne (x := (0 : Int)) (y := (1 : Int)) rfl rfl (by decide) (by decide) (fun _ => ?_) (fun c => absurd c (by decide))
      refine yb_push (v := 0) rfl ?_
      exact yb_ret0 rfl h
  · replace h := h.2 c
    refine yb_push (v := 1) rfl ?_
    refine yb_goto rfl rfl ?_
    refine yb_aload rfl rfl ?_
    refine yb_get (v := .ref 139) rfl (by decide) (by decide) (rfl) rfl ?_
    refine yb_iload (x := a2) rfl rfl ?_
    refine yb_iald (j := a2) rfl xd_A139 (by decide) r1 (v := (d 139 a2)) rfl ?_
    refine yb_push (v := 1) rfl ?_
    have r7 := h.1
    replace h := h.2
    refine yb_icmp_ne (x := (d 139 a2)) (y := (1 : Int)) rfl rfl r7 (by decide) (fun c => ?_) (fun c => ?_)
    · replace h := h.1 c
      refine yb_push (v := 0) rfl ?_
      refine yb_icmp_ne (x := (1 : Int)) (y := (0 : Int)) rfl rfl (by decide) (by decide) (fun _ => ?_) (fun c => absurd c (by decide))
      refine yb_push (v := 0) rfl ?_
      exact yb_ret0 rfl h
    · replace h := h.2 c
      refine yb_push (v := 1) rfl ?_
      refine yb_goto rfl rfl ?_
      refine yb_icmp_ne (x := (1 : Int)) (y := (1 : Int)) rfl rfl (by decide) (by decide) (fun c => absurd (by decide) c) (fun _ => ?_)
      refine yb_push (v := 1) rfl ?_
      refine yb_goto rfl rfl ?_
      exact yb_ret1 rfl h
theorem sp_91_140 {D L : Nat} {P1 P0 : xh_D → xd_E → Prop} {d : xh_D} {e : xd_E} {a1 : Int} (hD : 1 ≤ D) (o : (0 ≤ a1 ∧ a1 < 12) ∧ (0 ≤ (d 137 a1) ∧ (d 137 a1) < 9) ∧ (0 ≤ (d 138 a1) ∧ (d 138 a1) < 9) ∧ (-2147483648 ≤ (d 140 (d 137 a1)) ∧ (d 140 (d 137 a1)) < 2147483648) ∧ (-2147483648 ≤ (d 140 (d 138 a1)) ∧ (d 140 (d 138 a1)) < 2147483648) ∧ (-2147483648 ≤ (d 139 a1) ∧ (d 139 a1) < 2147483648)) (h1 : (((d 140 (d 137 a1)) = (d 140 (d 138 a1)) ↔ (d 139 a1) = 1)) → P1 d e) (h0 : ¬ (((d 140 (d 137 a1)) = (d 140 (d 138 a1)) ↔ (d 139 a1) = 1)) → P0 d e) : yZ D 91 L [.ref 136, .ref 140, .int (xJ a1)] d e P1 P0 := by
  refine yZ_of rfl rfl rfl (by omega) (yk_91_140_0 ?_)
  repeat' (first | apply And.intro | intro _)
  all_goals first
    | omega
    | exact h1 (by omega)
    | exact h0 (by omega)
theorem yk_91_141_0 {D L : Nat} {P1 P0 : xh_D → xd_E → Prop} {d : xh_D} {e : xd_E} {a2 : Int}   (h : ((0 ≤ a2 ∧ a2 < 12) ∧ ((0 ≤ (d 137 a2) ∧ (d 137 a2) < 9) ∧ ((0 ≤ (d 138 a2) ∧ (d 138 a2) < 9) ∧ ((-2147483648 ≤ (d 141 (d 137 a2)) ∧ (d 141 (d 137 a2)) < 2147483648) ∧ ((-2147483648 ≤ (d 141 (d 138 a2)) ∧ (d 141 (d 138 a2)) < 2147483648) ∧ (((¬ (d 141 (d 137 a2)) = (d 141 (d 138 a2))) → ((-2147483648 ≤ (d 139 a2) ∧ (d 139 a2) < 2147483648) ∧ (((¬ (d 139 a2) = (1 : Int)) → P1 d e) ∧ (((d 139 a2) = (1 : Int)) → P0 d e)))) ∧ (((d 141 (d 137 a2)) = (d 141 (d 138 a2))) → ((-2147483648 ≤ (d 139 a2) ∧ (d 139 a2) < 2147483648) ∧ (((¬ (d 139 a2) = (1 : Int)) → P0 d e) ∧ (((d 139 a2) = (1 : Int)) → P1 d e))))))))))) : yB D xm_c91 (yQz L P1 P0) L 0 [.ref 136, .ref 141, .int (xJ a2)] [] d e := by
  refine yb_aload rfl rfl ?_
  refine yb_aload rfl rfl ?_
  refine yb_get (v := .ref 137) rfl (by decide) (by decide) (rfl) rfl ?_
  refine yb_iload (x := a2) rfl rfl ?_
  have r1 := h.1
  replace h := h.2
  refine yb_iald (j := a2) rfl xd_A137 (by decide) r1 (v := (d 137 a2)) rfl ?_
  have r2 := h.1
  replace h := h.2
  refine yb_iald (j := (d 137 a2)) rfl xd_A141 (by decide) r2 (v := (d 141 (d 137 a2))) rfl ?_
  refine yb_aload rfl rfl ?_
  refine yb_aload rfl rfl ?_
  refine yb_get (v := .ref 138) rfl (by decide) (by decide) (rfl) rfl ?_
  refine yb_iload (x := a2) rfl rfl ?_
  refine yb_iald (j := a2) rfl xd_A138 (by decide) r1 (v := (d 138 a2)) rfl ?_
  have r3 := h.1
  replace h := h.2
  refine yb_iald (j := (d 138 a2)) rfl xd_A141 (by decide) r3 (v := (d 141 (d 138 a2))) rfl ?_
  have r4 := h.1
  replace h := h.2
  have r5 := h.1
  replace h := h.2
  refine yb_icmp_ne (x := (d 141 (d 137 a2))) (y := (d 141 (d 138 a2))) rfl rfl r4 r5 (fun c => ?_) (fun c => ?_)
  · replace h := h.1 c
    refine yb_push (v := 0) rfl ?_
    refine yb_aload rfl rfl ?_
    refine yb_get (v := .ref 139) rfl (by decide) (by decide) (rfl) rfl ?_
    refine yb_iload (x := a2) rfl rfl ?_
    refine yb_iald (j := a2) rfl xd_A139 (by decide) r1 (v := (d 139 a2)) rfl ?_
    refine yb_push (v := 1) rfl ?_
    have r6 := h.1
    replace h := h.2
    refine yb_icmp_ne (x := (d 139 a2)) (y := (1 : Int)) rfl rfl r6 (by decide) (fun c => ?_) (fun c => ?_)
    · replace h := h.1 c
      refine yb_push (v := 0) rfl ?_
      refine yb_icmp_ne (x := (0 : Int)) (y := (0 : Int)) rfl rfl (by decide) (by decide) (fun c => absurd (by decide) c) (fun _ => ?_)
      refine yb_push (v := 1) rfl ?_
      refine yb_goto rfl rfl ?_
      exact yb_ret1 rfl h
    · replace h := h.2 c
      refine yb_push (v := 1) rfl ?_
      refine yb_goto rfl rfl ?_
      refine yb_icmp_ne (x := (0 : Int)) (y := (1 : Int)) rfl rfl (by decide) (by decide) (fun _ => ?_) (fun c => absurd c (by decide))
      refine yb_push (v := 0) rfl ?_
      exact yb_ret0 rfl h
  · replace h := h.2 c
    refine yb_push (v := 1) rfl ?_
    refine yb_goto rfl rfl ?_
    refine yb_aload rfl rfl ?_
    refine yb_get (v := .ref 139) rfl (by decide) (by decide) (rfl) rfl ?_
    refine yb_iload (x := a2) rfl rfl ?_
    refine yb_iald (j := a2) rfl xd_A139 (by decide) r1 (v := (d 139 a2)) rfl ?_
    refine yb_push (v := 1) rfl ?_
    have r7 := h.1
    replace h := h.2
    refine yb_icmp_ne (x := (d 139 a2)) (y := (1 : Int)) rfl rfl r7 (by decide) (fun c => ?_) (fun c => ?_)
    · replace h := h.1 c
      refine yb_push (v := 0) rfl ?_
      refine yb_icmp_ne (x := (1 : Int)) (y := (0 : Int)) rfl rfl (by decide) (by decide) (fun _ => ?_) (fun c => absurd c (by decide))
      refine yb_push (v := 0) rfl ?_
      exact yb_ret0 rfl h
    · replace h := h.2 c
      refine yb_push (v := 1) rfl ?_
      refine yb_goto rfl rfl ?_
      refine yb_icmp_ne (x := (1 : Int)) (y := (1 : Int)) rfl rfl (by decide) (by decide) (fun c => absurd (by decide) c) (fun _ => ?_)
      refine yb_push (v := 1) rfl ?_
      refine yb_goto rfl rfl ?_
      exact yb_ret1 rfl h
theorem sp_91_141 {D L : Nat} {P1 P0 : xh_D → xd_E → Prop} {d : xh_D} {e : xd_E} {a1 : Int} (hD : 1 ≤ D) (o : (0 ≤ a1 ∧ a1 < 12) ∧ (0 ≤ (d 137 a1) ∧ (d 137 a1) < 9) ∧ (0 ≤ (d 138 a1) ∧ (d 138 a1) < 9) ∧ (-2147483648 ≤ (d 141 (d 137 a1)) ∧ (d 141 (d 137 a1)) < 2147483648) ∧ (-2147483648 ≤ (d 141 (d 138 a1)) ∧ (d 141 (d 138 a1)) < 2147483648) ∧ (-2147483648 ≤ (d 139 a1) ∧ (d 139 a1) < 2147483648)) (h1 : (((d 141 (d 137 a1)) = (d 141 (d 138 a1)) ↔ (d 139 a1) = 1)) → P1 d e) (h0 : ¬ (((d 141 (d 137 a1)) = (d 141 (d 138 a1)) ↔ (d 139 a1) = 1)) → P0 d e) : yZ D 91 L [.ref 136, .ref 141, .int (xJ a1)] d e P1 P0 := by
  refine yZ_of rfl rfl rfl (by omega) (yk_91_141_0 ?_)
  repeat' (first | apply And.intro | intro _)
  all_goals first
    | omega
    | exact h1 (by omega)
    | exact h0 (by omega)
