/-! CALLS: signs, people set, trust and likes told. -/
section OP5
variable {R : xR} {b : Int} {L D : Nat} {d : xh_D} {e : xd_E} {P : Int → xh_D → xd_E → Prop}
theorem op_set {a1 a2 a3 : Int} (r1 : yR a1) (r2 : yR a2) (r3 : yR a3) (hI : Inv R b d e) : Op R b b L 111 214 [.int (xJ a1), .int (xJ a2), .int (xJ a3)] d e := by
  obtain ⟨hP, hT, hW, hL, hS, hU, hK, hR, hQ, hV, hH, hG⟩ := hI
  have p1 := hP.1
  have p2 := hP.2.1
  have f0 : ¬ ((0 ≤ a1 ∧ a1 < d 6 4) ∧ (0 ≤ a2 ∧ a2 ≤ 2) ∧ 0 ≤ a3 ∧ (a2 ≤ 1 → a3 ≤ 8) ∧ a3 ≤ 63) → yC 150 214 L [.ref 146, .int (xJ a1), .int (xJ a2), .int (xJ a3)] d e (fun r2 d2 e2 => -1 = r2 ∧ Inv R b d2 e2) := fun c => by
    refine yC_of rfl rfl rfl (by omega) (yk_214_0 (by omega) ?_)
    repeat' (first | (with_reducible apply And.intro) | (with_reducible intro _))
    all_goals try omega
    all_goals exact ⟨hP, hT, hW, hL, hS, (iU_c hU (by repeat' (first | exact Fz_refl | refine Fz_xs ?_ (by decide))) rfl rfl rfl rfl rfl), (iK_c hK (by repeat' (first | exact Fz_refl | refine Fz_xs ?_ (by decide))) rfl rfl rfl rfl), hR, hQ, hV, hH, hG⟩
  refine yC_of rfl rfl rfl (by omega) (yk_111_0 (by omega) ⟨r1, by omega, fun c => ⟨r3, fun c3 => ⟨r2, fun c2 => ?_, fun c2 => ⟨fun c4 => ?_, fun c4 => ⟨by omega, ?_⟩⟩⟩, fun c3 => f0 (by omega)⟩, fun c => f0 (by omega)⟩)
  · refine yk_111_29 ⟨r2, fun d2 => ?_, fun d2 => ⟨r3, fun d3 => ?_, fun d3 => ⟨by omega, ?_⟩⟩⟩
    · refine yk_111_48 ⟨r2, fun e2 => f0 (by omega), fun e2 => ⟨r3, fun e3 => f0 (by omega), fun e3 => ⟨by omega, ?_⟩⟩⟩
      refine yC_of rfl rfl rfl (by omega) (yk_214_0 (by omega) ⟨r1, ?_, fun g1 => ⟨r2, fun g2 => ⟨fun g3 => by omega, fun g3 => ⟨r3, fun g4 => ⟨by omega, ?_⟩, fun g4 => by omega⟩⟩, fun g2 => by omega⟩, fun g1 => by revert g1; (try simp only [xs_fn, upI_app, Nat.reduceEqDiff, Int.reduceEq, eq_self, false_and, true_and, and_false, and_true, if_false, if_true, ↓reduceIte]); omega⟩)
      · (try simp only [xs_fn, upI_app, Nat.reduceEqDiff, Int.reduceEq, eq_self, false_and, true_and, and_false, and_true, if_false, if_true, ↓reduceIte]); omega
      · (try simp only [xs_fn, upI_app, Nat.reduceEqDiff, Int.reduceEq, eq_self, false_and, true_and, and_false, and_true, if_false, if_true, ↓reduceIte])
        have := hS.1 a1 (by omega) (by omega)
        refine ⟨by rw [show 9 * a2 + a1 = 18 + a1 by omega]; exact this.2.2.2.2.2.symm, hP, hT, hW, hL, ?_, (iU_c hU (by repeat' (first | exact Fz_refl | refine Fz_xs ?_ (by decide))) rfl rfl rfl rfl rfl), (iK_c hK (by repeat' (first | exact Fz_refl | refine Fz_xs ?_ (by decide))) rfl rfl rfl rfl), hR, hQ, hV, hH, hG⟩
        rw [show 9 * a2 + a1 = 18 + a1 by omega]
        unfold iS
        (try simp only [xs_fn, upI_app, Nat.reduceEqDiff, Int.reduceEq, eq_self, false_and, true_and, and_false, and_true, if_false, if_true, ↓reduceIte])
        exact iSt_t p1.2 hS (by omega) (by omega)
    · refine yk_111_48 ⟨r2, fun e2 => f0 (by omega), fun e2 => by omega⟩
    · refine yC_of rfl rfl rfl (by omega) (yk_214_0 (by omega) ⟨r1, ?_, fun g1 => ⟨r2, fun g2 => ⟨fun g3 => ⟨r3, fun g4 => ⟨by omega, ?_⟩, fun g4 => by omega⟩, fun g3 => by omega⟩, fun g2 => by omega⟩, fun g1 => by revert g1; (try simp only [xs_fn, upI_app, Nat.reduceEqDiff, Int.reduceEq, eq_self, false_and, true_and, and_false, and_true, if_false, if_true, ↓reduceIte]); omega⟩)
      · (try simp only [xs_fn, upI_app, Nat.reduceEqDiff, Int.reduceEq, eq_self, false_and, true_and, and_false, and_true, if_false, if_true, ↓reduceIte]); omega
      · (try simp only [xs_fn, upI_app, Nat.reduceEqDiff, Int.reduceEq, eq_self, false_and, true_and, and_false, and_true, if_false, if_true, ↓reduceIte])
        have := hS.1 a1 (by omega) (by omega)
        refine ⟨by rw [show 9 * a2 + a1 = 9 + a1 by omega]; exact this.2.2.2.2.1.symm, hP, hT, hW, hL, ?_, (iU_c hU (by repeat' (first | exact Fz_refl | refine Fz_xs ?_ (by decide))) rfl rfl rfl rfl rfl), (iK_c hK (by repeat' (first | exact Fz_refl | refine Fz_xs ?_ (by decide))) rfl rfl rfl rfl), hR, hQ, hV, hH, hG⟩
        rw [show 9 * a2 + a1 = 9 + a1 by omega]
        unfold iS
        (try simp only [xs_fn, upI_app, Nat.reduceEqDiff, Int.reduceEq, eq_self, false_and, true_and, and_false, and_true, if_false, if_true, ↓reduceIte])
        exact iSt_s p1.2 hS (by omega) (by omega)
  · refine yk_111_29 ⟨r2, fun d2 => ?_, fun d2 => by omega⟩
    exact yk_111_48 ⟨r2, fun e2 => f0 (by omega), fun e2 => by omega⟩
  · refine yC_of rfl rfl rfl (by omega) (yk_214_0 (by omega) ⟨r1, ?_, fun g1 => ⟨r2, fun g2 => ⟨fun g3 => ⟨r3, fun g4 => ⟨by omega, ?_⟩, fun g4 => by omega⟩, fun g3 => by omega⟩, fun g2 => by omega⟩, fun g1 => by revert g1; (try simp only [xs_fn, upI_app, Nat.reduceEqDiff, Int.reduceEq, eq_self, false_and, true_and, and_false, and_true, if_false, if_true, ↓reduceIte]); omega⟩)
    · (try simp only [xs_fn, upI_app, Nat.reduceEqDiff, Int.reduceEq, eq_self, false_and, true_and, and_false, and_true, if_false, if_true, ↓reduceIte]); omega
    · (try simp only [xs_fn, upI_app, Nat.reduceEqDiff, Int.reduceEq, eq_self, false_and, true_and, and_false, and_true, if_false, if_true, ↓reduceIte])
      have := hS.1 a1 (by omega) (by omega)
      refine ⟨by rw [show 9 * a2 + a1 = a1 by omega]; exact this.2.2.2.1.symm, hP, hT, hW, hL, ?_, (iU_c hU (by repeat' (first | exact Fz_refl | refine Fz_xs ?_ (by decide))) rfl rfl rfl rfl rfl), (iK_c hK (by repeat' (first | exact Fz_refl | refine Fz_xs ?_ (by decide))) rfl rfl rfl rfl), hR, hQ, hV, hH, hG⟩
      rw [show 9 * a2 + a1 = a1 by omega]
      unfold iS
      (try simp only [xs_fn, upI_app, Nat.reduceEqDiff, Int.reduceEq, eq_self, false_and, true_and, and_false, and_true, if_false, if_true, ↓reduceIte])
      exact iSt_h p1.2 hS (by omega) (by omega)
/-- hoods that a sheet tells -/
def shf (k n f st : Int) : Int → Int := fun p => if k = 3 ∨ n ≤ p then 0 else max 0 (min (xp_kind k (f + p * st)) 8)
theorem shf_r (k n f st p : Int) : 0 ≤ shf k n f st p ∧ shf k n f st p < 9 := by unfold shf; split <;> omega
theorem xw_k {k x : Int} : xp_kind k (xw x) = xp_kind k x := by
  unfold xp_kind xi_i8 xi_i16
  rw [xw_J, show xw (xw x) = xw x from congrArg Int32.toInt (xw_J x)]
theorem xw_a (x y : Int) : xJ (xw x + y) = xJ (x + y) := by rw [← xJ_add, xw_J, xJ_add]
theorem xw_ww (x y : Int) : xw (xw x + y) = xw (x + y) := congrArg Int32.toInt (xw_a x y)
theorem sI_nn {f : Int → Int} {n : Int} (hn : 0 ≤ n ∧ n ≤ 9) (h : ∀ i, 0 ≤ f i ∧ f i < 9) : 0 ≤ sI f n ∧ sI f n ≤ 72 := by
  have := sI_b (f := f) (n := n) (lo := 0) (hi := 8) hn.1 (fun i _ _ => by have := h i; omega)
  omega
theorem op_sheet {a1 a2 a3 a4 : Int} (r1 : yR a1) (r2 : yR a2) (r3 : yR a3) (r4 : yR a4) (hI : Inv R b d e) : Op R b b L 112 215 [.int (xJ a1), .int (xJ a2), .int (xJ a3), .int (xJ a4)] d e := by
  obtain ⟨hP, hT, hW, hL, hS, hU, hK, hR, hQ, hV, hH, hG⟩ := hI
  have p1 := hP.1
  have p2 := hP.2.1
  have f1 : ∀ x : Int, ¬ (0 ≤ a1 ∧ a1 ≤ 3 ∧ a2 ≤ 9 ∧ (a1 = 3 ∨ 0 ≤ a2)) → x = (if 0 ≤ a1 ∧ a1 ≤ 3 ∧ a2 ≤ 9 then -2 else -1) → yC 150 215 L [.ref 146, .int (xJ a1), .int (xJ a2), .int (xJ a3), .int (xJ a4)] d e (fun r2 d2 e2 => x = r2 ∧ Inv R b d2 e2) := fun x c hx => by
    refine yC_of rfl rfl rfl (by omega) (yk_215_0 (by omega) ⟨r1, fun c1 => ⟨r2, fun c2 => ⟨fun c3 => by omega, fun c3 => ⟨fun c4 => by omega, fun c4 => ⟨?_, hP, hT, hW, hL, hS, (iU_c hU (by repeat' (first | exact Fz_refl | refine Fz_xs ?_ (by decide))) rfl rfl rfl rfl rfl), (iK_c hK (by repeat' (first | exact Fz_refl | refine Fz_xs ?_ (by decide))) rfl rfl rfl rfl), hR, hQ, hV, hH, hG⟩⟩⟩, fun c2 => ⟨?_, hP, hT, hW, hL, hS, (iU_c hU (by repeat' (first | exact Fz_refl | refine Fz_xs ?_ (by decide))) rfl rfl rfl rfl rfl), (iK_c hK (by repeat' (first | exact Fz_refl | refine Fz_xs ?_ (by decide))) rfl rfl rfl rfl), hR, hQ, hV, hH, hG⟩⟩, fun c1 => ⟨?_, hP, hT, hW, hL, hS, (iU_c hU (by repeat' (first | exact Fz_refl | refine Fz_xs ?_ (by decide))) rfl rfl rfl rfl rfl), (iK_c hK (by repeat' (first | exact Fz_refl | refine Fz_xs ?_ (by decide))) rfl rfl rfl rfl), hR, hQ, hV, hH, hG⟩⟩)
    · rw [hx, if_pos (by omega)]
    · rw [hx, if_neg (by omega)]
    · rw [hx, if_neg (by omega)]
  have key : (0 ≤ a1 ∧ a1 ≤ 3 ∧ a2 ≤ 9 ∧ (a1 = 3 ∨ 0 ≤ a2)) → ∀ n : Int, (if a1 = 3 then 0 else a2) = n → yB (150 - 1) xm_c112 (yQi L (fun r1 d1 e1 => yC 150 215 L [.ref 146, .int (xJ a1), .int (xJ a2), .int (xJ a3), .int (xJ a4)] d1 e1 (fun r2 d2 e2 => r1 = r2 ∧ Inv R b d2 e2))) L 28 [.ref 1, .int (xJ a1), .double 0, .int (xJ a3), .int (xJ a4), .int (xJ n), .int (xJ 0), .int (xJ 0), .double 0] [] d e := by
    intro hc n hn
    have hs0 : ∀ p, 0 ≤ p → (if n ≤ p then 0 else max 0 (min (xp_kind a1 (a3 + p * a4)) 8)) = shf a1 a2 a3 a4 p := fun p hp => by
      unfold shf
      by_cases q : a1 = 3
      · rw [if_pos (Or.inl q), if_pos (by rw [if_pos q] at hn; omega)]
      · rw [if_neg q] at hn
        subst hn
        by_cases q2 : a2 ≤ p
        · rw [if_pos q2, if_pos (Or.inr q2)]
        · rw [if_neg q2, if_neg (by omega)]
    have mm : yC 150 215 L [.ref 146, .int (xJ a1), .int (xJ a2), .int (xJ a3), .int (xJ a4)] (xwr d 12 (d 6 4) (shf a1 a2 a3 a4)) e (fun r2 d2 e2 => (if a1 = 3 then -3 else sI (shf a1 a2 a3 a4) (d 6 4)) = r2 ∧ Inv R b d2 e2) := by
      have hl := lp_up (n := d 6 4) (X := fun i => yB (150 - 1) xm_c215 (yQi L (fun r2 d2 e2 => (if a1 = 3 then -3 else sI (shf a1 a2 a3 a4) (d 6 4)) = r2 ∧ Inv R b d2 e2)) L 26 [.ref 146, .int (xJ a1), .int (xJ a2), .double 0, .int (xJ a4), .int (xJ (sI (shf a1 a2 a3 a4) i)), .int (xJ (xw (a3 + i * a4))), .int (xJ i), .double 0] [] (xwr (xs (xwr d 12 (d 6 4) (shf a1 a2 a3 a4)) 146 8 0) 147 i (shf a1 a2 a3 a4)) e) p1.1 ?_ ?_
      · rw [xwr_0] at hl
        have hl2 : yB (150 - 1) xm_c215 (yQi L (fun r2 d2 e2 => (if a1 = 3 then -3 else sI (shf a1 a2 a3 a4) (d 6 4)) = r2 ∧ Inv R b d2 e2)) L 26 [.ref 146, .int (xJ a1), .int (xJ a2), .double 0, .int (xJ a4), .int (xJ 0), .int (xJ a3), .int (xJ 0), .double 0] [] (xs (xwr d 12 (d 6 4) (shf a1 a2 a3 a4)) 146 8 0) e := by
          rw [show a3 + 0 * a4 = a3 by omega, xw_J] at hl
          exact hl
        refine yC_of rfl rfl rfl (by omega) (yk_215_0 (by omega) ⟨r1, fun c1 => ⟨r2, fun c2 => ⟨fun c3 => hl2, fun c3 => ⟨fun c4 => hl2, fun c4 => by omega⟩⟩, fun c2 => by omega⟩, fun c1 => by omega⟩)
      · intro i h1 h2 ih
        have w1 : xwr (xs (xwr d 12 (d 6 4) (shf a1 a2 a3 a4)) 146 8 0) 147 i (shf a1 a2 a3 a4) 146 1 = d 146 1 := by rw [xwr_fn (by decide), xs_ni (by decide), xwr_fn (by decide)]
        rw [← xwr_s h1, sI_s _ h1] at ih
        have hx : xJ (xw (a3 + i * a4) + a4) = xJ (xw (a3 + (i + 1) * a4)) := by
          rw [xw_a, xw_J]; congr 1; rw [Int.add_mul]; omega
        have hr := xw_r (a3 + i * a4)
        have hv : ∀ v, shf a1 a2 a3 a4 i = v → yB (150 - 1) xm_c215 (yQi L (fun r2 d2 e2 => (if a1 = 3 then -3 else sI (shf a1 a2 a3 a4) (d 6 4)) = r2 ∧ Inv R b d2 e2)) L 26 [.ref 146, .int (xJ a1), .int (xJ a2), .double 0, .int (xJ a4), .int (xJ (sI (shf a1 a2 a3 a4) i + v)), .int (xJ (xw (a3 + i * a4) + a4)), .int (xJ (i + 1)), .double 0] [] (xs (xwr (xs (xwr d 12 (d 6 4) (shf a1 a2 a3 a4)) 146 8 0) 147 i (shf a1 a2 a3 a4)) 147 i v) e := fun v hv => by
          rw [hx, ← hv]; exact ih
        have k8 : ¬ a1 = 3 → i < a2 → max 0 (min 8 (xp_kind a1 (xw (a3 + i * a4)))) = shf a1 a2 a3 a4 i := fun q1 q2 => by
          unfold shf
          rw [if_neg (by omega), xw_k, Int.min_comm]
        refine yk_215_26 (by omega) ?_
        rw [w1]
        refine ⟨by omega, by omega, fun c => by omega, fun c => ⟨r1, fun c1 => ⟨fun c2 => ⟨fun c3 => ⟨by omega, hv 0 ?_⟩, fun c3 => ⟨r2, fun c4 => ⟨hr, by omega, fun v e1 => ?_⟩, fun c4 => ⟨by omega, hv 0 ?_⟩⟩⟩, fun c2 => ⟨fun c3 => by omega, fun c3 => ⟨r2, fun c4 => ⟨by omega, fun v e1 => ?_⟩, fun c4 => ⟨by omega, hv 0 ?_⟩⟩⟩⟩, fun c1 => ⟨fun c3 => by omega, fun c3 => ⟨r2, fun c4 => ⟨by omega, fun v e1 => ?_⟩, fun c4 => ⟨by omega, hv 0 ?_⟩⟩⟩⟩⟩
        · unfold shf; rw [if_pos (Or.inl c3)]
        · subst e1
          refine hv _ ?_
          rw [← k8 c3 c4]
          unfold xp_kind
          rw [if_neg c1, if_neg c2, xw_i hr]
        · unfold shf; rw [if_pos (by omega)]
        · subst e1
          refine hv _ ?_
          rw [← k8 c3 c4]
          unfold xp_kind
          rw [if_neg c1, if_pos c2]
        · unfold shf; rw [if_pos (by omega)]
        · subst e1
          refine hv _ ?_
          rw [← k8 c3 c4]
          unfold xp_kind
          rw [if_pos c1]
        · unfold shf; rw [if_pos (by omega)]
      · have w1 : xwr (xs (xwr d 12 (d 6 4) (shf a1 a2 a3 a4)) 146 8 0) 147 (d 6 4) (shf a1 a2 a3 a4) 146 = upI (d 146) 8 0 := by rw [xwr_fn (by decide), xs_fn, if_pos rfl, xwr_fn (by decide)]
        have w : ∀ p, ¬ p = 12 → ¬ p = 146 → ¬ p = 147 → xwr (xs (xwr d 12 (d 6 4) (shf a1 a2 a3 a4)) 146 8 0) 147 (d 6 4) (shf a1 a2 a3 a4) p = d p := fun p h1 h2 h3 => by rw [xwr_fn h3, xs_fn, if_neg h2, xwr_fn h1]
        have hI2 : Inv R b (xwr (xs (xwr d 12 (d 6 4) (shf a1 a2 a3 a4)) 146 8 0) 147 (d 6 4) (shf a1 a2 a3 a4)) e := by
          refine Inv_st ⟨hP, hT, hW, hL, hS, hU, hK, hR, hQ, hV, hH, hG⟩ (Fk_wr (Fk_xs (Fk_wr Fk_refl (fun _ => rfl)) rfl) (fun _ => rfl)) ?_ ?_ ?_ ?_
          · exact iW_fk hW (by rw [w 4 (by decide) (by decide) (by decide)]) (by rw [w1]; rfl) (w 5 (by decide) (by decide) (by decide)) (w 151 (by decide) (by decide) (by decide))
          · unfold iS
            rw [w 6 (by decide) (by decide) (by decide), w 13 (by decide) (by decide) (by decide), w 14 (by decide) (by decide) (by decide), w 15 (by decide) (by decide) (by decide), w 11 (by decide) (by decide) (by decide)]
            obtain ⟨q1, q2, q3, q4, q5, q6, q7, q8⟩ := hS
            have v12 : ∀ i, 0 ≤ i → i < d 6 4 → xwr (xs (xwr d 12 (d 6 4) (shf a1 a2 a3 a4)) 146 8 0) 147 (d 6 4) (shf a1 a2 a3 a4) 12 i = shf a1 a2 a3 a4 i := fun i h1 h2 => by rw [xwr_fn (by decide), xs_np (by decide), xwr_at ⟨h1, h2⟩]
            have v147 : ∀ i, ¬ (0 ≤ i ∧ i < d 6 4) → xwr (xs (xwr d 12 (d 6 4) (shf a1 a2 a3 a4)) 146 8 0) 147 (d 6 4) (shf a1 a2 a3 a4) 147 i = d 147 i := fun i h1 => by
              rw [show xwr (xs (xwr d 12 (d 6 4) (shf a1 a2 a3 a4)) 146 8 0) 147 (d 6 4) (shf a1 a2 a3 a4) 147 i = xs (xwr d 12 (d 6 4) (shf a1 a2 a3 a4)) 146 8 0 147 i from if_neg (fun c => h1 c.2), xs_np (by decide), xwr_fn (by decide)]
            refine ⟨fun i h1 h2 => ?_, fun i k h1 h2 h3 h4 => ?_, q3, q4, q5, ?_, ?_, fun j i h1 h2 h3 h4 h5 => ?_⟩
            · have := q1 i h1 h2
              rw [v12 i h1 h2, xwr_at ⟨h1, h2⟩, v147 _ (by omega), v147 _ (by omega)]
              exact ⟨shf_r _ _ _ _ _, this.2.1, this.2.2.1, rfl, this.2.2.2.2.1, this.2.2.2.2.2⟩
            · rw [v147 _ (by omega)]; exact q2 i k h1 h2 h3 h4
            · rw [v147 _ (by omega)]; exact q6
            · rw [v147 _ (by omega)]; exact q7
            · rw [v147 _ (by omega)]; exact q8 j i h1 h2 h3 h4 h5
          · refine iU_c hU (fun p h1 h2 => w p (by omega) (by omega) (by omega)) ?_ ?_ ?_ ?_ (w 158 (by decide) (by decide) (by decide))
            · rw [w 23 (by decide) (by decide) (by decide)]
            · rw [w 23 (by decide) (by decide) (by decide)]
            · rw [w1]; rfl
            · rw [w 6 (by decide) (by decide) (by decide)]
          · exact iK_c hK (fun p h1 h2 => w p (by omega) (by omega) (by omega)) (w 26 (by decide) (by decide) (by decide)) (w 174 (by decide) (by decide) (by decide)) (w 175 (by decide) (by decide) (by decide)) (w 176 (by decide) (by decide) (by decide))
        refine yk_215_26 (by omega) ?_
        rw [w1]
        (try simp only [xs_fn, upI_app, Nat.reduceEqDiff, Int.reduceEq, eq_self, false_and, true_and, and_false, and_true, if_false, if_true, ↓reduceIte])
        refine ⟨by omega, by omega, fun c => ⟨r1, fun c1 => ⟨by rw [if_neg c1], hI2⟩, fun c1 => ⟨by rw [if_pos c1], hI2⟩⟩, fun c => by omega⟩
    have hl := lp_up (n := d 6 4) (X := fun i => yB (150 - 1) xm_c112 (yQi L (fun r1 d1 e1 => yC 150 215 L [.ref 146, .int (xJ a1), .int (xJ a2), .int (xJ a3), .int (xJ a4)] d1 e1 (fun r2 d2 e2 => r1 = r2 ∧ Inv R b d2 e2))) L 28 [.ref 1, .int (xJ a1), .double 0, .int (xJ a3), .int (xJ a4), .int (xJ n), .int (xJ (sI (shf a1 a2 a3 a4) i)), .int (xJ i), .double 0] [] (xwr d 12 i (shf a1 a2 a3 a4)) e) p1.1 ?_ ?_
    · rw [xwr_0] at hl; exact hl
    · intro i h1 h2 ih
      rw [← xwr_s h1, sI_s _ h1, ← hs0 i h1] at ih
      refine yk_112_28 (by omega) ?_
      rw [show xwr d 12 i (shf a1 a2 a3 a4) 6 = d 6 from xwr_fn (by decide)]
      refine ⟨by omega, by omega, fun c => by omega, fun c => ⟨by split at hn <;> omega, fun c1 => ⟨by omega, ?_⟩, fun c1 => ⟨r1, fun v e1 => ⟨by omega, ?_⟩⟩⟩⟩
      · rw [if_pos c1] at ih; exact ih
      · rw [if_neg c1, ← e1] at ih; exact ih
    · refine yk_112_28 (by omega) ?_
      rw [show xwr d 12 (d 6 4) (shf a1 a2 a3 a4) 6 = d 6 from xwr_fn (by decide)]
      refine ⟨by omega, by omega, fun c => ⟨r1, fun c1 => ?_, fun c1 => ?_⟩, fun c => by omega⟩
      · rw [if_neg c1] at mm; exact mm
      · rw [if_pos c1] at mm; exact mm
  refine yC_of rfl rfl rfl (by omega) (yk_112_0 ⟨r1, fun c => f1 _ (by omega) (by rw [if_neg (by omega)]), fun c => ⟨fun c1 => f1 _ (by omega) (by rw [if_neg (by omega)]), fun c1 => ⟨r2, fun c2 => ⟨fun c3 => ⟨fun c4 => absurd c3 c4, fun c4 => key (by omega) 0 (if_pos c3)⟩, fun c3 => ⟨fun c4 => ⟨fun c5 => key (by omega) a2 (if_neg c3), fun c5 => absurd c5 c3⟩, fun c4 => f1 _ (by omega) (by rw [if_pos (by omega)])⟩⟩, fun c2 => f1 _ (by omega) (by rw [if_neg (by omega)])⟩⟩⟩)
end OP5
