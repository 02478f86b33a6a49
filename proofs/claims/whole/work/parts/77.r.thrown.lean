/-! THE CALLS THAT THROW: of, cost, gain, row. -/
/-- a caught call, the reference behind it -/
def Ow (R : xR) (b b' : Int) (L gx gm : Nat) (ax am : List Value) (d : xh_D) (e : xd_E) : Prop := yC 150 gx L (.ref 1 :: ax) d e (fun k d1 e1 => yC 150 gm L (.ref 146 :: am) d1 e1 (fun r d2 e2 => Inv R b' d2 e2 ∧ (k = 0 ∨ k = 1) ∧ d2 146 8 = k ∧ (k = 0 → e2 177 0 = (xJ r).toInt64)))
section THR
variable {R : xR} {b : Int} {L D : Nat} {d : xh_D} {e : xd_E}
theorem th_108 {a1 a2 : Int} (hD : 2 ≤ D) (r1 : yR a1) (r2 : yR a2) (hn : yR (d 6 4)) (h : ¬ ((0 ≤ a1 ∧ a1 < d 6 4) ∧ (0 ≤ a2 ∧ a2 ≤ 5))) : tThr D 108 L [.ref 1, .int (xJ a1), .int (xJ a2)] d e := by
  refine tThr_of rfl (by omega) ?_
  refine zb_aload rfl rfl ?_
  refine zb_get (v := .ref 6) rfl (by decide) (by decide) rfl rfl ?_
  refine zb_iload (x := a1) rfl rfl ?_
  refine zb_callVz (As := [.int (xJ a1)]) (a := 6) rfl rfl rfl rfl rfl rfl rfl rfl (by decide) (by decide) rfl (by decide) (sp_21 (by omega) ⟨r1, hn⟩ (fun c => ?_) (fun c => ?_))
  · refine zb_if_eq (x := (1 : Int)) rfl rfl (by decide) (fun c => absurd c (by decide)) (fun _ => ?_)
    refine zb_iload (x := a2) rfl rfl ?_
    refine zb_if_lt (x := a2) rfl rfl r2 (fun c2 => ?_) (fun c2 => ?_)
    · exact zb_throw rfl (by decide) (by decide) (by decide) ⟨rfl, rfl, rfl⟩
    · refine zb_iload (x := a2) rfl rfl ?_
      refine zb_push rfl ?_
      refine zb_icmp_le (x := a2) (y := (5 : Int)) rfl rfl r2 (by decide) (fun c3 => absurd ⟨c, by omega, c3⟩ h) (fun c3 => ?_)
      exact zb_throw rfl (by decide) (by decide) (by decide) ⟨rfl, rfl, rfl⟩
  · refine zb_if_eq (x := (0 : Int)) rfl rfl (by decide) (fun _ => ?_) (fun c => absurd rfl c)
    exact zb_throw rfl (by decide) (by decide) (by decide) ⟨rfl, rfl, rfl⟩
theorem th_114 {a1 a2 : Int} (hD : 3 ≤ D) (r1 : yR a1) (r2 : yR a2) (hn : yR (d 6 4)) (h : ¬ ((0 ≤ a1 ∧ a1 < d 6 4) ∧ (0 ≤ a2 ∧ a2 < d 6 4) ∧ ¬ a1 = a2)) : tThr D 114 L [.ref 1, .int (xJ a1), .int (xJ a2)] d e := by
  refine tThr_of rfl (by omega) ?_
  refine zb_aload rfl rfl ?_
  refine zb_get (v := .ref 6) rfl (by decide) (by decide) rfl rfl ?_
  refine zb_iload (x := a1) rfl rfl ?_
  refine zb_iload (x := a2) rfl rfl ?_
  refine zb_callVz (As := [.int (xJ a1), .int (xJ a2)]) (a := 6) rfl rfl rfl rfl rfl rfl rfl rfl (by decide) (by decide) rfl (by decide) (sp_22 (by omega) ⟨r1, r2, hn⟩ (fun c => absurd c h) (fun c => ?_))
  refine zb_if_ne (x := (0 : Int)) rfl rfl (by decide) (fun c => absurd rfl c) (fun _ => ?_)
  exact zb_throw rfl (by decide) (by decide) (by decide) ⟨rfl, rfl, rfl⟩
theorem th_142 {a1 a2 : Int} (hD : 3 ≤ D) (r1 : yR a1) (r2 : yR a2) (hn : yR (d 6 4)) (h : ¬ ((0 ≤ a1 ∧ a1 < d 6 4) ∧ (0 ≤ a2 ∧ a2 < d 6 4) ∧ ¬ a1 = a2)) : tThr D 142 L [.ref 1, .int (xJ a1), .int (xJ a2)] d e := by
  refine tThr_of rfl (by omega) ?_
  refine zb_aload rfl rfl ?_
  refine zb_get (v := .ref 6) rfl (by decide) (by decide) rfl rfl ?_
  refine zb_iload (x := a1) rfl rfl ?_
  refine zb_iload (x := a2) rfl rfl ?_
  refine zb_callVz (As := [.int (xJ a1), .int (xJ a2)]) (a := 6) rfl rfl rfl rfl rfl rfl rfl rfl (by decide) (by decide) rfl (by decide) (sp_22 (by omega) ⟨r1, r2, hn⟩ (fun c => absurd c h) (fun c => ?_))
  refine zb_if_ne (x := (0 : Int)) rfl rfl (by decide) (fun c => absurd rfl c) (fun _ => ?_)
  exact zb_throw rfl (by decide) (by decide) (by decide) ⟨rfl, rfl, rfl⟩
theorem th_169 {a1 : Int} (hD : 1 ≤ D) (r1 : yR a1) (hn : yR (d 4 1)) (h : ¬ (0 ≤ a1 ∧ a1 < d 4 1)) : tThr D 169 L [.ref 1, .int (xJ a1)] d e := by
  refine tThr_of rfl (by omega) ?_
  refine zb_iload (x := a1) rfl rfl ?_
  refine zb_if_lt (x := a1) rfl rfl r1 (fun c => ?_) (fun c => ?_)
  · exact zb_throw rfl (by decide) (by decide) (by decide) ⟨rfl, rfl, rfl⟩
  · refine zb_iload (x := a1) rfl rfl ?_
    refine zb_aload rfl rfl ?_
    refine zb_get (v := .ref 4) rfl (by decide) (by decide) rfl rfl ?_
    refine zb_get (v := .int (xJ (d 4 1))) rfl (by decide) (by decide) rfl rfl ?_
    refine zb_icmp_lt (x := a1) (y := d 4 1) rfl rfl r1 hn (fun c2 => absurd ⟨by omega, c2⟩ h) (fun c2 => ?_)
    exact zb_throw rfl (by decide) (by decide) (by decide) ⟨rfl, rfl, rfl⟩
def oU (e : xd_E) (x : Int) : xd_E := va_up e 177 (vp_updL (e 177) 0 (xJ x).toInt64)
theorem oU_e {x : Int} : Ek e (oU e x) := fun p _ h2 => by simp [oU, va_up, h2]
theorem oU_0 {x : Int} : oU e x 177 0 = (xJ x).toInt64 := by simp [oU, va_up, vp_updL]
theorem Al177 : xd_Al 177 1 := ⟨by decide, by decide, by decide, fun _ _ _ => rfl⟩
theorem wr_288 {a1 a2 : Int} {P : Int → xh_D → xd_E → Prop} (hD : 3 ≤ D) (h : yC (D - 1) 108 L [.ref 1, .int (xJ a1), .int (xJ a2)] d e (fun x d e => P 0 d (oU e x))) : yC D 288 L [.ref 1, .int (xJ a1), .int (xJ a2), .ref 177] d e P := by
  refine zC_of rfl (by omega) ?_
  refine zb_aload rfl rfl (zb_push rfl (zb_aload rfl rfl (zb_iload (x := a1) rfl rfl (zb_iload (x := a2) rfl rfl ?_))))
  refine zb_dyn (As := [.int (xJ a1), .int (xJ a2)]) (a := 1) rfl rfl rfl rfl rfl rfl rfl rfl (by decide) (by decide) rfl (by decide) (by decide) (by decide) (yC_mono h (fun x d e h => ?_))
  refine zb_i2l rfl (zb_last (n := 1) rfl Al177 (by decide) ?_)
  exact zb_goto (j := 12) rfl rfl (zb_push rfl (zb_ret rfl h))
theorem wt_288 {a1 a2 : Int} {P : Int → xh_D → xd_E → Prop} (hD : 3 ≤ D) (h : tThr (D - 1) 108 L [.ref 1, .int (xJ a1), .int (xJ a2)] d e) (hP : P 1 d e) : yC D 288 L [.ref 1, .int (xJ a1), .int (xJ a2), .ref 177] d e P := by
  refine zC_of rfl (by omega) ?_
  refine zb_aload rfl rfl (zb_push rfl (zb_aload rfl rfl (zb_iload (x := a1) rfl rfl (zb_iload (x := a2) rfl rfl ?_))))
  refine zb_dynt (As := [.int (xJ a1), .int (xJ a2)]) (a := 1) rfl rfl rfl rfl rfl rfl rfl rfl (by decide) (by decide) rfl (by decide) (by decide) (by decide) h ?_
  exact zb_push rfl (zb_ret rfl hP)
theorem wr_289 {a1 a2 : Int} {P : Int → xh_D → xd_E → Prop} (hD : 3 ≤ D) (h : yC (D - 1) 114 L [.ref 1, .int (xJ a1), .int (xJ a2)] d e (fun x d e => P 0 d (oU e x))) : yC D 289 L [.ref 1, .int (xJ a1), .int (xJ a2), .ref 177] d e P := by
  refine zC_of rfl (by omega) ?_
  refine zb_aload rfl rfl (zb_push rfl (zb_aload rfl rfl (zb_iload (x := a1) rfl rfl (zb_iload (x := a2) rfl rfl ?_))))
  refine zb_dyn (As := [.int (xJ a1), .int (xJ a2)]) (a := 1) rfl rfl rfl rfl rfl rfl rfl rfl (by decide) (by decide) rfl (by decide) (by decide) (by decide) (yC_mono h (fun x d e h => ?_))
  refine zb_i2l rfl (zb_last (n := 1) rfl Al177 (by decide) ?_)
  exact zb_goto (j := 12) rfl rfl (zb_push rfl (zb_ret rfl h))
theorem wt_289 {a1 a2 : Int} {P : Int → xh_D → xd_E → Prop} (hD : 3 ≤ D) (h : tThr (D - 1) 114 L [.ref 1, .int (xJ a1), .int (xJ a2)] d e) (hP : P 1 d e) : yC D 289 L [.ref 1, .int (xJ a1), .int (xJ a2), .ref 177] d e P := by
  refine zC_of rfl (by omega) ?_
  refine zb_aload rfl rfl (zb_push rfl (zb_aload rfl rfl (zb_iload (x := a1) rfl rfl (zb_iload (x := a2) rfl rfl ?_))))
  refine zb_dynt (As := [.int (xJ a1), .int (xJ a2)]) (a := 1) rfl rfl rfl rfl rfl rfl rfl rfl (by decide) (by decide) rfl (by decide) (by decide) (by decide) h ?_
  exact zb_push rfl (zb_ret rfl hP)
theorem wr_290 {a1 a2 : Int} {P : Int → xh_D → xd_E → Prop} (hD : 3 ≤ D) (h : yC (D - 1) 142 L [.ref 1, .int (xJ a1), .int (xJ a2)] d e (fun x d e => P 0 d (oU e x))) : yC D 290 L [.ref 1, .int (xJ a1), .int (xJ a2), .ref 177] d e P := by
  refine zC_of rfl (by omega) ?_
  refine zb_aload rfl rfl (zb_push rfl (zb_aload rfl rfl (zb_iload (x := a1) rfl rfl (zb_iload (x := a2) rfl rfl ?_))))
  refine zb_dyn (As := [.int (xJ a1), .int (xJ a2)]) (a := 1) rfl rfl rfl rfl rfl rfl rfl rfl (by decide) (by decide) rfl (by decide) (by decide) (by decide) (yC_mono h (fun x d e h => ?_))
  refine zb_i2l rfl (zb_last (n := 1) rfl Al177 (by decide) ?_)
  exact zb_goto (j := 12) rfl rfl (zb_push rfl (zb_ret rfl h))
theorem wt_290 {a1 a2 : Int} {P : Int → xh_D → xd_E → Prop} (hD : 3 ≤ D) (h : tThr (D - 1) 142 L [.ref 1, .int (xJ a1), .int (xJ a2)] d e) (hP : P 1 d e) : yC D 290 L [.ref 1, .int (xJ a1), .int (xJ a2), .ref 177] d e P := by
  refine zC_of rfl (by omega) ?_
  refine zb_aload rfl rfl (zb_push rfl (zb_aload rfl rfl (zb_iload (x := a1) rfl rfl (zb_iload (x := a2) rfl rfl ?_))))
  refine zb_dynt (As := [.int (xJ a1), .int (xJ a2)]) (a := 1) rfl rfl rfl rfl rfl rfl rfl rfl (by decide) (by decide) rfl (by decide) (by decide) (by decide) h ?_
  exact zb_push rfl (zb_ret rfl hP)
theorem wr_291 {a1 : Int} {P : Int → xh_D → xd_E → Prop} (hD : 3 ≤ D) (h : yC (D - 1) 169 L [.ref 1, .int (xJ a1)] d e (fun x d e => P 0 d (oU e x))) : yC D 291 L [.ref 1, .int (xJ a1), .ref 177] d e P := by
  refine zC_of rfl (by omega) ?_
  refine zb_aload rfl rfl (zb_push rfl (zb_aload rfl rfl (zb_iload (x := a1) rfl rfl ?_)))
  refine zb_dyn (As := [.int (xJ a1)]) (a := 1) rfl rfl rfl rfl rfl rfl rfl rfl (by decide) (by decide) rfl (by decide) (by decide) (by decide) (yC_mono h (fun x d e h => ?_))
  refine zb_i2l rfl (zb_last (n := 1) rfl Al177 (by decide) ?_)
  exact zb_goto (j := 11) rfl rfl (zb_push rfl (zb_ret rfl h))
theorem wt_291 {a1 : Int} {P : Int → xh_D → xd_E → Prop} (hD : 3 ≤ D) (h : tThr (D - 1) 169 L [.ref 1, .int (xJ a1)] d e) (hP : P 1 d e) : yC D 291 L [.ref 1, .int (xJ a1), .ref 177] d e P := by
  refine zC_of rfl (by omega) ?_
  refine zb_aload rfl rfl (zb_push rfl (zb_aload rfl rfl (zb_iload (x := a1) rfl rfl ?_)))
  refine zb_dynt (As := [.int (xJ a1)]) (a := 1) rfl rfl rfl rfl rfl rfl rfl rfl (by decide) (by decide) rfl (by decide) (by decide) (by decide) h ?_
  exact zb_push rfl (zb_ret rfl hP)
/-- the reference says that it was thrown, or that it was not -/
theorem Inv_8 {v : Int} {e' : xd_E} (hI : Inv R b d e) (he : Ek e e') : Inv R b (xs d 146 8 v) e' := by
  have hI0 := hI
  obtain ⟨hP, hT, hW, hL, hS, hU, hK, hR, hQ, hV, hH, hG⟩ := hI
  refine Inv_fk hI0 (Fk_xs Fk_refl rfl) he (iW_fk hW ?_ ?_ ?_ ?_)
  · rw [xs_np (by decide)]
  · rw [xs_ni (by decide)]
  · rw [xs_fn, if_neg (by decide)]
  · rw [xs_fn, if_neg (by decide)]
theorem op_row {a1 : Int} (r1 : yR a1) (hI : Inv R b d e) : Ow R b b L 291 287 [.int (xJ a1), .ref 177] [.int (xJ a1)] d e := by
  have hI0 := hI
  obtain ⟨hP, hT, hW, hL, hS, hU, hK, hR, hQ, hV, hH, hG⟩ := hI
  obtain ⟨w1, w2, w3⟩ := hW
  by_cases c : 0 ≤ a1 ∧ a1 < d 4 1
  · refine wr_291 (by omega) (zC_of rfl (by omega) (zB_of (yk_169_0 ⟨r1, fun z => by omega, fun z => ⟨by omega, fun z2 => ⟨by omega, ?_⟩, fun z2 => by omega⟩⟩)))
    refine yC_of rfl rfl rfl (by omega) (yk_287_0 (by omega) ⟨r1, by omega, fun z => ⟨by omega, ?_⟩, fun z => by omega⟩)
    exact ⟨Inv_8 hI0 oU_e, Or.inl rfl, xs_eq, fun _ => by rw [oU_0, w3 a1 c.1 c.2]⟩
  · refine wt_291 (by omega) (th_169 (by omega) r1 (by omega) c) ?_
    refine yC_of rfl rfl rfl (by omega) (yk_287_0 (by omega) ⟨r1, by omega, fun z => by omega, fun z => ?_⟩)
    exact ⟨Inv_8 (Inv_8 hI0 Ek_refl) Ek_refl, Or.inr rfl, xs_eq, fun z => by omega⟩
theorem op_of {a1 a2 : Int} (r1 : yR a1) (r2 : yR a2) (hb : b < 1000000000) (hI : Inv R b d e) : Ow R b b L 288 211 [.int (xJ a1), .int (xJ a2), .ref 177] [.int (xJ a1), .int (xJ a2)] d e := by
  have hI0 := hI
  obtain ⟨hP, hT, hW, hL, hS, hU, hK, hR, hQ, hV, hH, hG⟩ := hI
  have p1 := hP.1
  have p2 := hP.2.1
  obtain ⟨s1, s2, s3, s4, s5, s6, s7, s8⟩ := id hS
  by_cases c : (0 ≤ a1 ∧ a1 < d 6 4) ∧ (0 ≤ a2 ∧ a2 ≤ 5)
  · have q := s1 a1 c.1.1 c.1.2
    have li : d 149 (9 * a1 + d 147 a1) = d 8 (a1 * 9 + d 12 a1) := by
      rw [q.2.2.2.1, show 9 * a1 + d 12 a1 = a1 * 9 + d 12 a1 by omega]
      exact (hL (a1 * 9 + d 12 a1) (by omega) (by omega)).2.2.2.2.1 (by omega)
    have fin : ∀ (x r : Int), x = r → Inv R b (xs d 146 8 0) (oU e x) ∧ ((0 : Int) = 0 ∨ (0 : Int) = 1) ∧ xs d 146 8 0 146 8 = 0 ∧ ((0 : Int) = 0 → oU e x 177 0 = (xJ r).toInt64) := fun x r h => ⟨Inv_8 hI0 oU_e, Or.inl rfl, xs_eq, fun _ => by rw [oU_0, h]⟩
    refine wr_288 (by omega) (zC_of rfl (by omega) (zB_of (yk_108_0 (by omega) ⟨r1, by omega, fun _ => ⟨r2, fun z => by omega, fun _ => ⟨fun _ => ⟨by omega, fun z => ?_, fun z => ?_, fun z => ?_, fun z => ?_, fun z => ⟨by omega, ?_⟩, fun z => ⟨by omega, by omega, ?_⟩⟩, fun z => by omega⟩⟩, fun z => by omega⟩)))
    · have z5 : a2 = 5 := by omega
      obtain ⟨f, ef⟩ : ∃ f : Int → Int, f = fun k => if xi_and (xi_shr (d 14 a1) k) 1 = 1 then 0 else d 15 (a1 * 6 + k) := ⟨_, rfl⟩
      have bit : ∀ k, 0 ≤ k → k < 6 → (¬ xi_and (xi_shr (d 14 a1) k) 1 = 0 ↔ xi_and (xi_shr (d 14 a1) k) 1 = 1) := fun k a b => by
        have h1 := tb_t q.2.2.1 ⟨a, b⟩
        have h2 := tb_z q.2.2.1 ⟨a, b⟩
        rw [h1, h2]
        cases tb (d 14 a1) k <;> simp
      have ref : yC 150 211 L [.ref 146, .int (xJ a1), .int (xJ a2)] d (oU e (sI f 6)) (fun r d2 e2 => Inv R b d2 e2 ∧ ((0 : Int) = 0 ∨ (0 : Int) = 1) ∧ d2 146 8 = 0 ∧ ((0 : Int) = 0 → e2 177 0 = (xJ r).toInt64)) := by
        refine yC_of rfl rfl rfl (by omega) (yk_211_0 (by omega) ⟨r1, by omega, fun _ => ⟨r2, fun _ => ⟨fun _ => ?_, fun z => by omega, fun z => by omega, fun z => by omega, fun z => by omega, fun z => by omega⟩, fun z => by omega⟩, fun z => by omega⟩)
        refine lp_up (n := 6) (X := fun k => yB (150 - 1) xm_c211 (yQi L _) L 68 [.ref 146, .int (xJ a1), .double 0, .int (xJ (sI f k)), .int (xJ k)] [] (xs d 146 8 0) (oU e (sI f 6))) (by omega) ?_ ?_
        · intro k x y ih
          refine yk_211_68 (by omega) ?_
          rw [show xs d 146 8 0 147 (18 + a1) = d 14 a1 by rw [xs_np (by decide), q.2.2.2.2.2], show xs d 146 8 0 147 (27 + 6 * a1 + k) = d 15 (a1 * 6 + k) by rw [xs_np (by decide), s2 a1 k c.1.1 c.1.2 x y]]
          rw [sI_s _ x] at ih
          refine ⟨by omega, fun z => by omega, fun _ => ⟨by omega, fun z => ?_, fun z => ⟨by omega, fun v ev => ?_⟩⟩⟩
          · rw [show f k = 0 by rw [ef]; exact if_pos z] at ih
            exact ih
          · rw [ev]
            rw [show f k = d 15 (a1 * 6 + k) by rw [ef]; exact if_neg z] at ih
            exact ih
        · exact yk_211_68 (by omega) ⟨by omega, fun _ => fin _ _ rfl, fun z => by omega⟩
      refine yC_of rfl rfl rfl (by omega) (yk_55_11_0 ?_)
      refine lp_up (n := 6) (X := fun k => yB (150 - 1 - 1 - 1) xm_c55 (yQi L _) L 4 [.ref 11, .int (xJ a1), .int (xJ (sI f k)), .int (xJ k)] [] d e) (by omega) ?_ ?_
      · intro k x y ih
        refine yk_55_11_4 (by omega) ⟨by omega, fun z => by omega, fun _ => ⟨by omega, fun z => ?_, fun z => ⟨by omega, ?_⟩⟩⟩
        · rw [sI_s _ x, show f k = 0 by rw [ef]; exact if_pos ((bit k x y).mp z)] at ih
          exact ih
        · rw [sI_s _ x, show f k = d 15 (a1 * 6 + k) by rw [ef]; exact if_neg (fun w => z ((bit k x y).mpr w))] at ih
          exact ih
      · exact yk_55_11_4 (by omega) ⟨by omega, fun _ => ref, fun z => by omega⟩
    · exact yC_of rfl rfl rfl (by omega) (yk_211_0 (by omega) ⟨r1, by omega, fun _ => ⟨r2, fun _ => ⟨fun z => by omega, fun _ => ⟨by omega, fin _ _ q.2.2.2.1.symm⟩, fun z => by omega, fun z => by omega, fun z => by omega, fun z => by omega⟩, fun z => by omega⟩, fun z => by omega⟩)
    · exact yC_of rfl rfl rfl (by omega) (yk_211_0 (by omega) ⟨r1, by omega, fun _ => ⟨r2, fun _ => ⟨fun z => by omega, fun z => by omega, fun _ => ⟨by omega, fin _ _ q.2.2.2.2.1.symm⟩, fun z => by omega, fun z => by omega, fun z => by omega⟩, fun z => by omega⟩, fun z => by omega⟩)
    · exact yC_of rfl rfl rfl (by omega) (yk_211_0 (by omega) ⟨r1, by omega, fun _ => ⟨r2, fun _ => ⟨fun z => by omega, fun z => by omega, fun z => by omega, fun _ => ⟨by omega, fin _ _ q.2.2.2.2.2.symm⟩, fun z => by omega, fun z => by omega⟩, fun z => by omega⟩, fun z => by omega⟩)
    · exact yC_of rfl rfl rfl (by omega) (yk_211_0 (by omega) ⟨r1, by omega, fun _ => ⟨r2, fun _ => ⟨fun z => by omega, fun z => by omega, fun z => by omega, fun z => by omega, fun _ => ⟨by omega, by omega, fin _ _ li.symm⟩, fun z => by omega⟩, fun z => by omega⟩, fun z => by omega⟩)
    · exact yC_of rfl rfl rfl (by omega) (yk_211_0 (by omega) ⟨r1, by omega, fun _ => ⟨r2, fun _ => ⟨fun z => by omega, fun z => by omega, fun z => by omega, fun z => by omega, fun z => by omega, fun _ => ⟨by omega, by omega, by omega, fin _ _ (by rw [q.2.2.2.1, s6])⟩⟩, fun z => by omega⟩, fun z => by omega⟩)
  · refine wt_288 (by omega) (th_108 (by omega) r1 r2 (by omega) c) ?_
    have fin : Inv R b (xs (xs d 146 8 0) 146 8 1) e ∧ ((1 : Int) = 0 ∨ (1 : Int) = 1) ∧ xs (xs d 146 8 0) 146 8 1 146 8 = 1 ∧ ((1 : Int) = 0 → e 177 0 = (xJ 0).toInt64) := ⟨Inv_8 (Inv_8 hI0 Ek_refl) Ek_refl, Or.inr rfl, xs_eq, fun z => by omega⟩
    refine yC_of rfl rfl rfl (by omega) (yk_211_0 (by omega) ⟨r1, by omega, fun z => ⟨r2, fun z2 => absurd ⟨by omega, z2⟩ c, fun z2 => fin⟩, fun z => fin⟩)
theorem op_cost {a1 a2 : Int} (r1 : yR a1) (r2 : yR a2) (hb : b < 1000000000) (hI : Inv iR b d e) : Ow iR b b L 289 216 [.int (xJ a1), .int (xJ a2), .ref 177] [.int (xJ a1), .int (xJ a2)] d e := by
  have hI0 := hI
  obtain ⟨hP, hT, hW, hL, hS, hU, hK, hR, hQ, hV, hH, hG⟩ := hI
  have p1 := hP.1
  have p2 := hP.2.1
  obtain ⟨s1, s2, s3, s4, s5, s6, s7, s8⟩ := id hS
  obtain ⟨F, hX, hM⟩ := hR
  by_cases c : (0 ≤ a1 ∧ a1 < d 6 4) ∧ (0 ≤ a2 ∧ a2 < d 6 4) ∧ ¬ a1 = a2
  · have q1 := s1 a1 c.1.1 c.1.2
    have q2 := s1 a2 c.2.1.1 c.2.1.2
    have ok : okX (d 6 4) 12 13 14 d := ⟨rfl, p1, fun p a c => ⟨(s1 p a c).1, (s1 p a c).2.1, (s1 p a c).2.2.1⟩, fun i a c => (hL i a c).1⟩
    have t1 := hL (a1 * 9 + a2) (by omega) (by omega)
    have t2 := hL (a2 * 9 + a1) (by omega) (by omega)
    have u1 : d 148 (a1 * 9 + a2) = d 7 (a1 * 9 + a2) := t1.2.2.1 (by omega)
    have u2 : d 148 (a2 * 9 + a1) = d 7 (a2 * 9 + a1) := t2.2.2.1 (by omega)
    refine wr_289 (by omega) (zC_of rfl (by omega) (zB_of (yk_114_0 (by omega) ⟨r1, r2, by omega, fun _ => ?_, fun z => absurd c z⟩)))
    refine cx_11 (by omega) hX ok c.1 c.2.1 (by omega) (fun d1 f1 => ?_)
    have g1 : Fk sr d d1 := Fk_x (sF_sx (sP_sF f1))
    have c146 : ∀ i, d1 146 i = d 146 i := fun i => f1 146 i rfl
    have c147 : d1 147 = d 147 := Fk_p f1 (fun _ => rfl)
    have c148 : d1 148 = d 148 := Fk_p f1 (fun _ => rfl)
    have c153 : d1 153 = d 153 := Fk_p f1 (fun _ => rfl)
    refine yC_of rfl rfl rfl (by omega) (yk_216_0 (by omega) ?_)
    rw [c146 1, p2, c147, s6]
    refine ⟨r1, r2, by omega, fun _ => ?_, fun z => absurd c z⟩
    refine hM 147 (Or.inl rfl) _ L _ _ _ a1 a2 (d 11 5) (by omega) (by rw [xs_ni (by decide), c146]) (fun i _ _ => by rw [xs_np (by decide), c153]) (by omega) (by omega) (by omega) ?_ ?_ ?_ ?_ ?_ ?_ (fun d2 f2 => ?_)
    · rw [xs_np (by decide), c148, u1]; exact t1.1
    · rw [xs_np (by decide), c148, u2]; exact t2.1
    · rw [xs_np (by decide), c147, q1.2.2.2.2.1]; exact q1.2.1
    · rw [xs_np (by decide), c147, q2.2.2.2.2.1]; exact q2.2.1
    · rw [xs_np (by decide), c147, q1.2.2.2.2.2]; exact q1.2.2.1
    · rw [xs_np (by decide), c147, q2.2.2.2.2.2]; exact q2.2.2.1
    · rw [xs_np (by decide), xs_np (by decide), xs_np (by decide), xs_np (by decide), xs_np (by decide), xs_np (by decide), c147, c148, u1, u2, q1.2.2.2.2.1, q2.2.2.2.2.1, q1.2.2.2.2.2, q2.2.2.2.2.2]
      have g2 : Fk sr d d2 := Fk_trans (Fk_xs g1 rfl) (Fk_m (Fk_mono f2 (fun p i s => by
        cases z : sC p i
        · rfl
        · exfalso
          simp only [sC, Bool.and_eq_true, Bool.or_eq_true, decide_eq_true_eq, beq_iff_eq] at z
          obtain ⟨z1, z2⟩ := z
          rw [z1] at s
          have : i = 9 ∨ i = 10 ∨ i = 11 ∨ i = 12 ∨ i = 13 ∨ i = 17 ∨ i = 18 ∨ i = 19 ∨ i = 20 := by omega
          rcases this with rfl | rfl | rfl | rfl | rfl | rfl | rfl | rfl | rfl <;> exact absurd s (by decide))))
      refine ⟨Inv_fk hI0 g2 oU_e (iW_fk hW ?_ ?_ ?_ ?_), Or.inl rfl, ?_, fun _ => by rw [oU_0]; rfl⟩
      · rw [f2 4 1 rfl, xs_np (by decide), f1 4 1 rfl]
      · rw [f2 146 7 rfl, xs_ni (by decide), f1 146 7 rfl]
      · rw [Fk_p f2 (p := 5) (fun _ => rfl), xs_fn, if_neg (by decide), Fk_p f1 (p := 5) (fun _ => rfl)]
      · rw [Fk_p f2 (p := 151) (fun _ => rfl), xs_fn, if_neg (by decide), Fk_p f1 (p := 151) (fun _ => rfl)]
      · rw [f2 146 8 rfl, xs_eq]
  · refine wt_289 (by omega) (th_114 (by omega) r1 r2 (by omega) c) ?_
    refine yC_of rfl rfl rfl (by omega) (yk_216_0 (by omega) ?_)
    rw [p2]
    exact ⟨r1, r2, by omega, fun z => absurd z c, fun z => ⟨Inv_8 (Inv_8 hI0 Ek_refl) Ek_refl, Or.inr rfl, xs_eq, fun z => by omega⟩⟩
theorem op_gain {a1 a2 : Int} (r1 : yR a1) (r2 : yR a2) (hI : Inv R b d e) : Ow R b b L 290 255 [.int (xJ a1), .int (xJ a2), .ref 177] [.int (xJ a1), .int (xJ a2)] d e := by
  have tp := tkP_I hI
  have hI0 := hI
  obtain ⟨hP, hT, hW, hL, hS, hU, hK, hR, hQ, hV, hH, hG⟩ := hI
  have p1 := hP.1
  have p2 := hP.2.1
  have hH := iS_h hS
  by_cases c : (0 ≤ a1 ∧ a1 < d 6 4) ∧ (0 ≤ a2 ∧ a2 < d 6 4) ∧ ¬ a1 = a2
  · have q1 := hH a1 c.1.1 c.1.2
    have q2 := hH a2 c.2.1.1 c.2.1.2
    obtain ⟨W, eW⟩ : ∃ W : (Int → Int) → Int, W = fun hd => wA (d 127 8) (d 6 4) (d 128) (d 129) (d 14) (fun _ => true) hd := ⟨_, rfl⟩
    have eW' : ∀ hd, wA (d 127 8) (d 6 4) (d 128) (d 129) (d 14) (fun _ => true) hd = W hd := fun hd => by rw [eW]
    obtain ⟨h2, eh⟩ : ∃ h2, h2 = upI (upI (d 12) a1 (d 12 a2)) a2 (d 12 a1) := ⟨_, rfl⟩
    refine wr_290 (by omega) (zC_of rfl (by omega) (zB_of (yk_142_0 (by omega) ⟨r1, r2, by omega, fun _ => ?_, fun z => absurd c z⟩)))
    refine sq_look (by omega) hI0 Fk_refl fun d1 f1 tk1 hc1 => sq_67 (by omega) tp tk1 hc1 fun d3 tk3 f3 => ⟨by omega, by omega, ?_⟩
    have g3 : Fk sr d d3 := Fk_trans (Fk_x f1) (Fk_132 f3)
    have c12 : d3 12 = d 12 := Fk_p g3 (fun _ => rfl)
    have hc3 : hdC (d 6 4) (fun _ => true) (d 12) d3 := hdC_c hc1 (by rw [f3 127 (by decide)]) (f3 133 (by decide)) (fun _ _ _ => rfl)
    rw [c12]
    refine yV_of rfl rfl rfl (by omega) (yk_69_0 ⟨by omega, by omega, ?_⟩)
    obtain ⟨d4, e4⟩ : ∃ d4, d4 = xs (xs d3 133 (d 12 a1) (xi_xor (d3 133 (d 12 a1)) (xi_shl 1 a1))) 133 (d 12 a2) (xi_xor (xs d3 133 (d 12 a1) (xi_xor (d3 133 (d 12 a1)) (xi_shl 1 a1)) 133 (d 12 a2)) (xi_shl 1 a1)) := ⟨_, rfl⟩
    rw [← e4]
    have hc4 : hdC (d 6 4) (fun _ => true) (upI (d 12) a1 (d 12 a2)) d4 := by rw [e4]; exact hdC_mv p1.2 c.1 q1 q2 hc3 rfl rfl rfl
    have g4 : ∀ q, ¬ q = 133 → d4 q = d3 q := fun q hq => by rw [e4, xs_fn, if_neg hq, xs_fn, if_neg hq]
    rw [g4 12 (by decide), c12]
    refine yV_of rfl rfl rfl (by omega) (yk_69_0 ⟨by omega, by omega, ?_⟩)
    obtain ⟨d5, e5⟩ : ∃ d5, d5 = xs (xs d4 133 (d 12 a2) (xi_xor (d4 133 (d 12 a2)) (xi_shl 1 a2))) 133 (d 12 a1) (xi_xor (xs d4 133 (d 12 a2) (xi_xor (d4 133 (d 12 a2)) (xi_shl 1 a2)) 133 (d 12 a1)) (xi_shl 1 a2)) := ⟨_, rfl⟩
    rw [← e5]
    have hc5 : hdC (d 6 4) (fun _ => true) h2 d5 := by rw [e5, eh]; exact hdC_mv p1.2 c.2.1 q2 q1 hc4 (by rw [upI_app, if_neg (fun w => c.2.2 w.symm)]) rfl rfl
    have g5 : ∀ q, ¬ q = 133 → d5 q = d3 q := fun q hq => by rw [e5, xs_fn, if_neg hq, xs_fn, if_neg hq, g4 q hq]
    have k5 : Fk sr d d5 := Fk_trans g3 (fun p i s => by
      by_cases h1 : p = 133
      · rw [h1] at s; exact absurd (show true = false from s) (by decide)
      · rw [g5 p h1])
    refine sq_67 (by omega) tp (tkC_c tk3 (by rw [g5 127 (by decide)]) (g5 130 (by decide)) (g5 131 (by decide)) (g5 132 (by decide))) hc5 fun d6 tk6 f6 => ?_
    have k6 : Fk sr d d6 := Fk_trans k5 (Fk_132 f6)
    rw [eW', eW']
    refine yC_of rfl rfl rfl (by omega) (yk_255_0 (by omega) ?_)
    rw [show d6 146 1 = d 6 4 by rw [k6 146 1 rfl, p2]]
    refine ⟨r1, r2, by omega, fun _ => ?_, fun z => absurd c z⟩
    refine sq_ask (by omega) hI0 (dx := xs d6 146 8 0) (fxM_k (Fk_xs k6 rfl)) fun d7 m1 m2 m3 m4 m5 => sq_244 (by omega) m4 (by omega) fun d8 f8 => ⟨by omega, by omega, ?_⟩
    have ev : ∀ hd, wA (d 127 8) (d 6 4) (d 128) (d 129) (d7 165) (fun _ => true) hd = W hd := fun hd => by rw [wA_tr m5, eW']
    have h164 : ∀ q, 0 ≤ q → q < d 6 4 → d8 164 q = d 12 q := fun q x y => by rw [f8.1 164 (by decide) (by decide)]; exact (m4.2.2 q x y).1
    have mg : mdG d7 (xs (xs d8 164 a1 (d8 164 a2)) 164 a2 (d8 164 a1)) := mdG_x (mdG_x (mdG_p f8))
    rw [ev]
    refine sq_244 (by omega) (askM_h (hd' := h2) m4 mg (fun q x y => ?_)) (by omega) fun d9 f9 => ?_
    · rw [eh, upI_app]
      by_cases z : q = a2
      · rw [z, xs_eq, if_pos rfl, h164 a1 c.1.1 c.1.2]; exact ⟨rfl, by omega⟩
      · rw [xs_ni z, if_neg z, upI_app]
        by_cases y' : q = a1
        · rw [y', xs_eq, if_pos rfl, h164 a2 c.2.1.1 c.2.1.2]; exact ⟨rfl, by omega⟩
        · have := hH q x y
          rw [xs_ni y', if_neg y', h164 q x y]; exact ⟨rfl, by omega⟩
    · rw [ev]
      have k7 : Fk sr d d7 := Fk_trans (Fk_xs k6 rfl) (Fk_m m1)
      have mg9 : mdG d7 d9 := mdG_t mg (mdG_p f9)
      have k9 : Fk sr d d9 := Fk_trans k7 (Fk_m (fun p i s => by
        by_cases h1 : p = 146
        · rw [h1] at s ⊢
          exact mg9.2 i (fun w => by rw [w] at s; exact absurd s (by decide))
        · by_cases w : p = 164 ∨ p = 166 ∨ p = 167
          · rcases w with rfl | rfl | rfl <;> exact absurd (show true = false from s) (by decide)
          · rw [mg9.1 p h1 (by omega) (by omega) (by omega)]))
      have kx : ∀ q, ¬ q = 132 → ¬ q = 133 → (∀ i, sx q i = false) → d6 q = d q := fun q h1 h2 h3 => by rw [f6 q h1, g5 q h2, f3 q h1, Fk_p f1 h3]
      refine ⟨Inv_fk hI0 k9 oU_e (iW_fk hW ?_ ?_ ?_ ?_), Or.inl rfl, ?_, fun _ => oU_0⟩
      · rw [mg9.1 4 (by decide) (by decide) (by decide) (by decide), m3 4 (by decide) (by decide) (by decide), xs_np (by decide), kx 4 (by decide) (by decide) (fun _ => rfl)]
      · rw [mg9.2 7 (by decide), m2 7 (by decide), xs_ni (by decide), f6 146 (by decide), g5 146 (by decide), f3 146 (by decide), f1 146 7 rfl]
      · rw [mg9.1 5 (by decide) (by decide) (by decide) (by decide), m3 5 (by decide) (by decide) (by decide), xs_fn, if_neg (by decide), kx 5 (by decide) (by decide) (fun _ => rfl)]
      · rw [mg9.1 151 (by decide) (by decide) (by decide) (by decide), m3 151 (by decide) (by decide) (by decide), xs_fn, if_neg (by decide), kx 151 (by decide) (by decide) (fun _ => rfl)]
      · rw [mg9.2 8 (by decide), m2 8 (by decide), xs_eq]
  · refine wt_290 (by omega) (th_142 (by omega) r1 r2 (by omega) c) ?_
    refine yC_of rfl rfl rfl (by omega) (yk_255_0 (by omega) ?_)
    rw [p2]
    exact ⟨r1, r2, by omega, fun z => absurd z c, fun z => ⟨Inv_8 (Inv_8 hI0 Ek_refl) Ek_refl, Or.inr rfl, xs_eq, fun z => by omega⟩⟩
end THR
