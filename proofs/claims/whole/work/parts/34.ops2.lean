/-! CALLS that gather. -/
section OP2
variable {R : xR} {b : Int} {L D : Nat} {d : xh_D} {e : xd_E} {P : Int → xh_D → xd_E → Prop}
theorem iS_h (hS : iS b d e) : ∀ p, 0 ≤ p → p < d 6 4 → 0 ≤ d 12 p ∧ d 12 p < 9 := fun p a c => (hS.1 p a c).1
theorem iS_s (hS : iS b d e) : ∀ p, 0 ≤ p → p < d 6 4 → 0 ≤ d 13 p ∧ d 13 p < 9 := fun p a c => (hS.1 p a c).2.1
theorem iS_t (hS : iS b d e) : ∀ p, 0 ≤ p → p < d 6 4 → 0 ≤ d 14 p ∧ d 14 p < 64 := fun p a c => (hS.1 p a c).2.2.1
theorem iP_m (hP : iP d) : 0 ≤ d 146 1 ∧ d 146 1 ≤ 9 := by have := hP.1; have := hP.2.1; omega
theorem iS_mh (hP : iP d) (hS : iS b d e) : ∀ p, 0 ≤ p → p < d 146 1 → 0 ≤ d 147 p ∧ d 147 p < 9 := fun p a c => by
  have h := hS.1 p a (by rw [hP.2.1] at c; exact c)
  rw [h.2.2.2.1]; exact h.1
theorem iS_ms (hP : iP d) (hS : iS b d e) : ∀ p, 0 ≤ p → p < d 146 1 → 0 ≤ d 147 (9 + p) ∧ d 147 (9 + p) < 9 := fun p a c => by
  have h := hS.1 p a (by rw [hP.2.1] at c; exact c)
  rw [h.2.2.2.2.1]; exact h.2.1
theorem iS_bI (hP : iP d) (hS : iS b d e) (k : Int) : bI (fun p => decide (d 147 p = k)) (d 146 1) = bI (fun p => decide (d 12 p = k)) (d 6 4) := by
  rw [hP.2.1]
  exact bI_congr (fun i h1 h2 => by have := (hS.1 i h1 h2).2.2.2.1; rw [this])
theorem iW_1 {v : Int} : iW (xs (xs (xs (xs (xs (xs d 4 1 0) 5 0 v) 4 1 1) 146 7 0) 151 0 v) 146 7 1) := by
  refine ⟨?_, ?_, ?_⟩
  · (try simp only [xs_fn, upI_app, Nat.reduceEqDiff, Int.reduceEq, eq_self, false_and, true_and, and_false, and_true, if_false, if_true, ↓reduceIte]); omega
  · (try simp only [xs_fn, upI_app, Nat.reduceEqDiff, Int.reduceEq, eq_self, false_and, true_and, and_false, and_true, if_false, if_true, ↓reduceIte])
  · intro i h1 h2
    have : i = 0 := by have : i < 1 := h2; omega
    subst this
    rfl
theorem op_count {a1 : Int} (r1 : yR a1) (hb : b < 2000000000) (hI : Inv R b d e) : Op R b b L 168 286 [.int (xJ a1)] d e := by
  obtain ⟨hP, hT, hW, hL, hS, hU, hK, hR, hQ, hV, hH, hG⟩ := hI
  have p1 := hP.1
  have p2 := hP.2.1
  have hw := hS.2.2.2.2.1
  have h81 : d 147 81 = d 11 5 := hS.2.2.2.2.2.1
  have h82 : d 147 82 = min (d 11 5) 30 := hS.2.2.2.2.2.2.1
  have u1 := hU.2.2.1
  have w1 := hW.2.1
  have t1 := hT.2.1
  have q1 := hQ.2.1
  have v1 := hV.2.1
  have k1 := hH.2.1
  refine yC_of rfl rfl rfl (by omega) (yk_168_0 (by omega) ?_)
  repeat' (first | (with_reducible apply And.intro) | (with_reducible intro _))
  all_goals try omega
  all_goals first
    | refine sq_51 (by omega) (by omega) p1 (iS_h hS) ?_
    | skip
  all_goals
    refine yC_of rfl rfl rfl (by omega) (yk_286_0 ?_)
    repeat' (first | (with_reducible apply And.intro) | (with_reducible intro _))
    all_goals try omega
    all_goals try exact ⟨hP, hT, hW, hL, hS, (iU_c hU (by repeat' (first | exact Fz_refl | refine Fz_xs ?_ (by decide))) rfl rfl rfl rfl rfl), (iK_c hK (by repeat' (first | exact Fz_refl | refine Fz_xs ?_ (by decide))) rfl rfl rfl rfl), hR, hQ, hV, hH, hG⟩
  (try simp only [xs_fn, upI_app, Nat.reduceEqDiff, Int.reduceEq, eq_self, false_and, true_and, and_false, and_true, if_false, if_true, ↓reduceIte])
  rw [h81]
  refine sq_217_147 (by omega) (by omega) (by (try simp only [xs_fn, upI_app, Nat.reduceEqDiff, Int.reduceEq, eq_self, false_and, true_and, and_false, and_true, if_false, if_true, ↓reduceIte]); omega) (iS_mh hP hS) ⟨?_, hP, hT, hW, hL, hS, (iU_c hU (by repeat' (first | exact Fz_refl | refine Fz_xs ?_ (by decide))) rfl rfl rfl rfl rfl), (iK_c hK (by repeat' (first | exact Fz_refl | refine Fz_xs ?_ (by decide))) rfl rfl rfl rfl), hR, hQ, hV, hH, hG⟩
  exact (iS_bI hP hS _).symm
/-- the hood day of the most, and how many -/
def blf (h : Int → Int) (n : Int) : Int → Int × Int → Int × Int := fun i x => if x.2 < cI (fun p => decide (h p = i % 9)) n then (i, cI (fun p => decide (h p = i % 9)) n) else x
theorem blf_r {h : Int → Int} {n i : Int} (hn : 0 ≤ n ∧ n ≤ 9) (h0 : 0 ≤ i) : -1 ≤ (fI (blf h n) (0, -1) i).2 ∧ (fI (blf h n) (0, -1) i).2 ≤ 9 := by
  refine fI_inv (g := blf h n) (a := (0, -1)) (I := fun _ x => -1 ≤ x.2 ∧ x.2 ≤ 9) (by decide) ?_ h0
  intro j x _ _ hx
  have := cI_r (fun p => decide (h p = j % 9)) hn.1
  unfold blf
  split
  · simp only []; omega
  · exact hx
theorem sx_136 (hD : 3 ≤ D) (p1 : 0 ≤ d 6 4 ∧ d 6 4 ≤ 9) (hh : ∀ p, 0 ≤ p → p < d 6 4 → 0 ≤ d 12 p ∧ d 12 p < 9) (h : P (fI (blf (d 12) (d 6 4)) (0, -1) 9).1 (xs (xs (xs d 4 1 0) 5 0 (fI (blf (d 12) (d 6 4)) (0, -1) 9).2) 4 1 1) e) : yC D 136 L [.ref 1] d e P := by
  refine yC_of rfl rfl rfl (by omega) (yk_136_0 ?_)
  refine lp_up (n := 9) (X := fun i => yB (D - 1) xm_c136 (yQi L P) L 6 [.ref 1, .int (xJ (fI (blf (d 12) (d 6 4)) (0, -1) i).1), .int (xJ (fI (blf (d 12) (d 6 4)) (0, -1) i).2), .int (xJ i), .double 0] [] d e) (by omega) ?_ ?_
  · intro i h1 h2 ih
    have := blf_r (h := d 12) p1 h1
    refine yk_136_6 (by omega) ⟨by omega, fun c => by omega, fun c => sq_51 (by omega) (by omega) p1 hh ⟨by omega, ?_⟩⟩
    rw [bI_bc (by omega)]
    rw [fI_s _ _ h1] at ih
    refine ⟨fun c2 => ?_, fun c2 => ?_⟩
    · rw [show blf (d 12) (d 6 4) i (fI (blf (d 12) (d 6 4)) (0, -1) i) = _ from if_neg (by omega)] at ih; exact ih
    · rw [show blf (d 12) (d 6 4) i (fI (blf (d 12) (d 6 4)) (0, -1) i) = _ from if_pos (by omega)] at ih; exact ih
  · exact yk_136_6 (by omega) ⟨by omega, fun c => h, fun c => by omega⟩
theorem sx_247 (hD : 3 ≤ D) (p1 : 0 ≤ d 146 1 ∧ d 146 1 ≤ 9) (hh : ∀ p, 0 ≤ p → p < d 146 1 → 0 ≤ d 147 p ∧ d 147 p < 9) (h : P (fI (blf (d 147) (d 146 1)) (0, -1) 9).1 (xs (xs (xs (xs d 146 8 0) 146 7 0) 151 0 (fI (blf (d 147) (d 146 1)) (0, -1) 9).2) 146 7 1) e) : yC D 247 L [.ref 146] d e P := by
  refine yC_of rfl rfl rfl (by omega) (yk_247_0 ?_)
  refine lp_up (n := 9) (X := fun i => yB (D - 1) xm_c247 (yQi L P) L 9 [.ref 146, .int (xJ (fI (blf (d 147) (d 146 1)) (0, -1) i).1), .int (xJ (fI (blf (d 147) (d 146 1)) (0, -1) i).2), .int (xJ i), .double 0] [] (xs d 146 8 0) e) (by omega) ?_ ?_
  · intro i h1 h2 ih
    have := blf_r (h := d 147) p1 h1
    refine yk_247_9 (by omega) ⟨by omega, fun c => by omega, fun c => sq_217_147 (by omega) (by omega) p1 hh ⟨by omega, ?_⟩⟩
    (try simp only [xs_fn, upI_app, Nat.reduceEqDiff, Int.reduceEq, eq_self, false_and, true_and, and_false, and_true, if_false, if_true, ↓reduceIte])
    rw [bI_bc (by omega)]
    rw [fI_s _ _ h1] at ih
    refine ⟨fun c2 => ?_, fun c2 => ?_⟩
    · rw [show blf (d 147) (d 146 1) i (fI (blf (d 147) (d 146 1)) (0, -1) i) = _ from if_pos (by omega)] at ih; exact ih
    · rw [show blf (d 147) (d 146 1) i (fI (blf (d 147) (d 146 1)) (0, -1) i) = _ from if_neg (by omega)] at ih; exact ih
  · exact yk_247_9 (by omega) ⟨by omega, fun c => h, fun c => by omega⟩
theorem op_blindest (hI : Inv R b d e) : Op R b b L 136 247 [] d e := by
  obtain ⟨hP, hT, hW, hL, hS, hU, hK, hR, hQ, hV, hH, hG⟩ := hI
  refine sx_136 (by omega) hP.1 (iS_h hS) ?_
  refine sx_247 (by omega) (iP_m hP) (iS_mh hP hS) ?_
  have he : fI (blf (d 147) (d 146 1)) (0, -1) 9 = fI (blf (d 12) (d 6 4)) (0, -1) 9 := fI_congr (fun i x h1 h2 => by
    have : cI (fun p => decide (d 147 p = i % 9)) (d 146 1) = cI (fun p => decide (d 12 p = i % 9)) (d 6 4) := by
      rw [hP.2.1]
      exact cI_congr (fun i h1 h2 => by have := (hS.1 i h1 h2).2.2.2.1; rw [this])
    unfold blf
    rw [this])
  (try simp only [xs_fn, upI_app, Nat.reduceEqDiff, Int.reduceEq, eq_self, false_and, true_and, and_false, and_true, if_false, if_true, ↓reduceIte])
  rw [he]
  exact ⟨rfl, hP, hT, iW_1, hL, hS, (iU_c hU (by repeat' (first | exact Fz_refl | refine Fz_xs ?_ (by decide))) rfl rfl rfl rfl rfl), (iK_c hK (by repeat' (first | exact Fz_refl | refine Fz_xs ?_ (by decide))) rfl rfl rfl rfl), hR, hQ, hV, hH, hG⟩
/-- days on which n see of those of two streets -/
def fef (h s : Int → Int) (n o t k : Int) : Int → Bool := fun i => decide (k ≤ cI (fun p => (decide (xp_apart (s p) o ≤ 0) || decide (xp_apart (s p) t ≤ 0)) && !decide (h p = i % 9)) n)
theorem sx_143 {a1 a2 a3 : Int} (r1 : yR a1) (r2 : yR a2) (r3 : yR a3) (hD : 4 ≤ D) (p1 : 0 ≤ d 6 4 ∧ d 6 4 ≤ 9) (hh : ∀ p, 0 ≤ p → p < d 6 4 → 0 ≤ d 12 p ∧ d 12 p < 9) (hs : ∀ p, 0 ≤ p → p < d 6 4 → 0 ≤ d 13 p ∧ d 13 p < 9) (h0 : ¬ ((0 ≤ a1 ∧ a1 ≤ 8) ∧ (0 ≤ a2 ∧ a2 ≤ 8) ∧ 1 ≤ a3 ∧ a3 ≤ 3) → P (-1) d e) (h : (0 ≤ a1 ∧ a1 ≤ 8) ∧ (0 ≤ a2 ∧ a2 ≤ 8) ∧ 1 ≤ a3 ∧ a3 ≤ 3 → P (bI (fef (d 12) (d 13) (d 6 4) a1 a2 a3) 9) d e) : yC D 143 L [.ref 1, .int (xJ a1), .int (xJ a2), .int (xJ a3)] d e P := by
  refine yC_of rfl rfl rfl (by omega) (yk_143_0 (by omega) ?_)
  repeat' (first | (with_reducible apply And.intro) | (with_reducible intro _))
  all_goals try omega
  all_goals try exact h0 (by omega)
  refine sq_52 (by omega) (by omega) (by omega) p1 hs ?_
  refine sq_52 (by omega) (by omega) (by omega) p1 hs ?_
  rw [bI_or (by omega)]
  refine lp_up (n := 9) (X := fun i => yB (D - 1) xm_c143 (yQi L P) L 36 [.ref 1, .double 0, .double 0, .int (xJ a3), .int (xJ (bI (fun i => decide (xp_apart (d 13 i) a1 ≤ 0) || decide (xp_apart (d 13 i) a2 ≤ 0)) (d 6 4))), .int (xJ (bI (fef (d 12) (d 13) (d 6 4) a1 a2 a3) i)), .int (xJ i), .double 0] [] d e) (by omega) ?_ ?_
  · intro i h1 h2 ih
    refine yk_143_36 (by omega) ⟨by omega, fun c => by omega, fun c => sq_51 (by omega) (by omega) p1 hh ⟨by omega, ?_⟩⟩
    rw [bI_andn (by omega), bI_bc (by omega)]
    refine ⟨fun c2 => ?_, fun c2 => ?_⟩
    · rw [bI_f (by omega) (by simp only [fef, decide_eq_false_iff_not]; omega)]; exact ih
    · rw [bI_t (by omega) (by simp only [fef, decide_eq_true_eq]; omega)]; exact ih
  · exact yk_143_36 (by omega) ⟨by omega, fun c => h (by omega), fun c => by omega⟩
theorem xp_apart0 {x y : Int} (hx : 0 ≤ x ∧ x < 9) (hy : 0 ≤ y ∧ y < 9) : xp_apart x y ≤ 0 ↔ x = y := by unfold xp_apart; omega
theorem sx_256 {a1 a2 a3 : Int} (r1 : yR a1) (r2 : yR a2) (r3 : yR a3) (hD : 3 ≤ D) (p1 : 0 ≤ d 146 1 ∧ d 146 1 ≤ 9) (hh : ∀ p, 0 ≤ p → p < d 146 1 → (0 ≤ d 147 p ∧ d 147 p < 9) ∧ (0 ≤ d 147 (9 + p) ∧ d 147 (9 + p) < 9)) (h0 : ¬ ((0 ≤ a1 ∧ a1 ≤ 8) ∧ (0 ≤ a2 ∧ a2 ≤ 8) ∧ 1 ≤ a3 ∧ a3 ≤ 3) → P (-1) (xs d 146 8 0) e) (h : (0 ≤ a1 ∧ a1 ≤ 8) ∧ (0 ≤ a2 ∧ a2 ≤ 8) ∧ 1 ≤ a3 ∧ a3 ≤ 3 → P (bI (fef (d 147) (fun p => d 147 (9 + p)) (d 146 1) a1 a2 a3) 9) (xs d 146 8 0) e) : yC D 256 L [.ref 146, .int (xJ a1), .int (xJ a2), .int (xJ a3)] d e P := by
  refine yC_of rfl rfl rfl (by omega) (yk_256_0 (by omega) ?_)
  repeat' (first | (with_reducible apply And.intro) | (with_reducible intro _))
  all_goals try omega
  all_goals try exact h0 (by omega)
  refine lp_up (n := 9) (X := fun i => yB (D - 1) xm_c256 (yQi L P) L 24 [.ref 146, .int (xJ a1), .int (xJ a2), .int (xJ a3), .int (xJ (bI (fef (d 147) (fun p => d 147 (9 + p)) (d 146 1) a1 a2 a3) i)), .int (xJ i), .double 0, .double 0] [] (xs d 146 8 0) e) (by omega) ?_ ?_
  · intro i h1 h2 ih
    refine yk_256_24 ⟨by omega, fun c => by omega, fun c => ?_⟩
    refine lp_up (n := d 146 1) (X := fun j => yB (D - 1) xm_c256 (yQi L P) L 31 [.ref 146, .int (xJ a1), .int (xJ a2), .int (xJ a3), .int (xJ (bI (fef (d 147) (fun p => d 147 (9 + p)) (d 146 1) a1 a2 a3) i)), .int (xJ i), .int (xJ (cI (fun p => (decide (xp_apart (d 147 (9 + p)) a1 ≤ 0) || decide (xp_apart (d 147 (9 + p)) a2 ≤ 0)) && !decide (d 147 p = i % 9)) j)), .int (xJ j)] [] (xs d 146 8 0) e) (by omega) ?_ ?_
    · intro j j1 j2 jh
      have := hh j j1 j2
      have e1 := xp_apart0 this.2 (show 0 ≤ a1 ∧ a1 < 9 by omega)
      have e2 := xp_apart0 this.2 (show 0 ≤ a2 ∧ a2 < 9 by omega)
      have i9 : i % 9 = i := by omega
      refine yk_256_31 ?_
      (try simp only [xs_fn, upI_app, Nat.reduceEqDiff, Int.reduceEq, eq_self, false_and, true_and, and_false, and_true, if_false, if_true, ↓reduceIte])
      refine ⟨by omega, by omega, fun c => by omega, fun c => ⟨by omega, by omega, by omega, fun c2 => ?_, fun c2 => ⟨by omega, by omega, by omega, fun c3 => ?_, fun c3 => ⟨by omega, fun c4 => ?_, fun c4 => ?_⟩⟩⟩⟩
      · rw [cI_f j1 (by simp [i9, c2])] at jh; exact jh
      · rw [cI_t j1 (by simp [i9, c2, e1.mpr c3])] at jh; exact jh
      · rw [cI_f j1 (by simp [i9, c2, Int.not_le.mp (fun q => c3 (e1.mp q)), Int.not_le.mp (fun q => c4 (e2.mp q))])] at jh; exact jh
      · rw [cI_t j1 (by simp [i9, c2, e2.mpr c4])] at jh; exact jh
    · have hc := cI_r (fun p => (decide (xp_apart (d 147 (9 + p)) a1 ≤ 0) || decide (xp_apart (d 147 (9 + p)) a2 ≤ 0)) && !decide (d 147 p = i % 9)) p1.1
      refine yk_256_31 ?_
      (try simp only [xs_fn, upI_app, Nat.reduceEqDiff, Int.reduceEq, eq_self, false_and, true_and, and_false, and_true, if_false, if_true, ↓reduceIte])
      refine ⟨by omega, by omega, fun c => ⟨by omega, by omega, fun c2 => ?_, fun c2 => ?_⟩, fun c => by omega⟩
      · rw [bI_f (by omega) (by simp only [fef, decide_eq_false_iff_not]; omega)]; exact ih
      · rw [bI_t (by omega) (by simp only [fef, decide_eq_true_eq]; omega)]; exact ih
  · exact yk_256_24 ⟨by omega, fun c => h (by omega), fun c => by omega⟩
theorem op_ferry {a1 a2 a3 : Int} (r1 : yR a1) (r2 : yR a2) (r3 : yR a3) (hI : Inv R b d e) : Op R b b L 143 256 [.int (xJ a1), .int (xJ a2), .int (xJ a3)] d e := by
  obtain ⟨hP, hT, hW, hL, hS, hU, hK, hR, hQ, hV, hH, hG⟩ := hI
  have p1 := hP.1
  have p2 := hP.2.1
  refine sx_143 r1 r2 r3 (by omega) p1 (iS_h hS) (iS_s hS) (fun c => ?_) (fun c => ?_)
  · exact sx_256 r1 r2 r3 (by omega) (by omega) (fun p a c => ⟨iS_mh hP hS p a c, iS_ms hP hS p a c⟩) (fun _ => ⟨rfl, hP, hT, hW, hL, hS, (iU_c hU (by repeat' (first | exact Fz_refl | refine Fz_xs ?_ (by decide))) rfl rfl rfl rfl rfl), (iK_c hK (by repeat' (first | exact Fz_refl | refine Fz_xs ?_ (by decide))) rfl rfl rfl rfl), hR, hQ, hV, hH, hG⟩) (fun c2 => absurd c2 c)
  · refine sx_256 r1 r2 r3 (by omega) (by omega) (fun p a c => ⟨iS_mh hP hS p a c, iS_ms hP hS p a c⟩) (fun c2 => absurd c c2) (fun _ => ⟨?_, hP, hT, hW, hL, hS, (iU_c hU (by repeat' (first | exact Fz_refl | refine Fz_xs ?_ (by decide))) rfl rfl rfl rfl rfl), (iK_c hK (by repeat' (first | exact Fz_refl | refine Fz_xs ?_ (by decide))) rfl rfl rfl rfl), hR, hQ, hV, hH, hG⟩)
    refine bI_congr (fun i _ _ => ?_)
    unfold fef
    rw [p2]
    rw [show cI (fun p => (decide (xp_apart (d 147 (9 + p)) a1 ≤ 0) || decide (xp_apart (d 147 (9 + p)) a2 ≤ 0)) && !decide (d 147 p = i % 9)) (d 6 4) = _ from cI_congr (fun j h1 h2 => by have := (hS.1 j h1 h2).2.2.2; rw [this.1, this.2.1])]
end OP2
