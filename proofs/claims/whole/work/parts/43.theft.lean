/-! CALLS: thefts, who leads, what is liked. -/
section OP9
variable {R : xR} {b : Int} {L D : Nat} {d : xh_D} {e : xd_E} {P : Int → xh_D → xd_E → Prop}
def spF (h s tr : Int → Int) (v w : Int) : Int → Bool := fun p => ((decide (xp_apart (s p) (s v) ≤ 2) && !decide (h p = w)) && !decide (p = v)) && !(decide (h v = w) && decide (tr (v * 9 + p) = 0))
theorem sq_81 {a1 : Int} (hD : 5 ≤ D) (ha : 0 ≤ a1 ∧ a1 < 10) (hv : 0 ≤ d 143 a1 ∧ d 143 a1 < d 6 4) (hw : 0 ≤ d 144 a1 ∧ d 144 a1 ≤ 999) (p1 : 0 ≤ d 6 4 ∧ d 6 4 ≤ 9) (hh : ∀ p, 0 ≤ p → p < d 6 4 → 0 ≤ d 12 p ∧ d 12 p < 9) (hs : ∀ p, 0 ≤ p → p < d 6 4 → 0 ≤ d 13 p ∧ d 13 p < 9) (ht : ∀ i, 0 ≤ i → i < 81 → 0 ≤ d 7 i ∧ d 7 i ≤ 9) (h : P (bI (spF (d 12) (d 13) (d 7) (d 143 a1) (d 144 a1 % 9)) (d 6 4)) d e) : yC D 81 L [.ref 142, .int (xJ a1), .ref 6, .ref 11] d e P := by
  refine yC_of rfl rfl rfl (by omega) (yk_81_11_0 ⟨ha, ?_⟩)
  refine sq_51 (by omega) (by omega) p1 hh ⟨by omega, ?_⟩
  refine sq_52 (by omega) (hs _ hv.1 hv.2) (by omega) p1 hs (fun v9 e9 => ?_)
  rw [bI_andn (by omega), bI_clr (by omega) (by omega)] at e9
  rw [bI_test (by omega) hv]
  subst e9
  refine ⟨fun c => ?_, fun c => ?_⟩
  · have hz : ¬ d 12 (d 143 a1) = d 144 a1 % 9 := fun q => by rw [decide_eq_true q] at c; exact absurd c (by decide)
    refine cast ?_ h
    congr 1
    refine bI_congr (fun i _ _ => ?_)
    unfold spF
    rw [decide_eq_false hz]
    simp
  · have hz : d 12 (d 143 a1) = d 144 a1 % 9 := Decidable.byContradiction fun q => c (by rw [decide_eq_false q]; rfl)
    have hl := lp_up (n := d 6 4) (X := fun i => yB (D - 1) xm_c81 (yQi L P) L 44 [.double 0, .double 0, .ref 6, .double 0, .int (xJ (d 143 a1)), .double 0, .double 0, .int (xJ (bI (fun p => ((decide (xp_apart (d 13 p) (d 13 (d 143 a1)) ≤ 2) && !decide (d 12 p = d 144 a1 % 9)) && !decide (p = d 143 a1)) && !(decide (p < i) && decide (d 7 (d 143 a1 * 9 + p) = 0))) (d 6 4))), .int (xJ i)] [] d e) p1.1 ?_ ?_
    · rw [bI_congr (g := fun p => (decide (xp_apart (d 13 p) (d 13 (d 143 a1)) ≤ 2) && !decide (d 12 p = d 144 a1 % 9)) && !decide (p = d 143 a1)) (fun i q _ => by rw [decide_eq_false (show ¬ i < 0 by omega)]; simp)] at hl
      exact hl
    · intro i h1 h2 ih
      have := ht (d 143 a1 * 9 + i) (by omega) (by omega)
      refine yk_81_11_44 ⟨by omega, by omega, fun c => by omega, fun c => ⟨by omega, by omega, fun c2 => ?_, fun c2 v e1 => ?_⟩⟩
      · rw [bI_congr (g := fun p => ((decide (xp_apart (d 13 p) (d 13 (d 143 a1)) ≤ 2) && !decide (d 12 p = d 144 a1 % 9)) && !decide (p = d 143 a1)) && !(decide (p < i) && decide (d 7 (d 143 a1 * 9 + p) = 0))) (fun j _ _ => ?_)] at ih
        · exact ih
        · by_cases q : j = i
          · subst q; simp [c2]
          · simp [show (j < i + 1) = (j < i) from propext ⟨fun _ => by omega, fun _ => by omega⟩]
      · rw [bI_clr (by omega) (by omega)] at e1
        subst e1
        rw [bI_congr (g := fun p => (((decide (xp_apart (d 13 p) (d 13 (d 143 a1)) ≤ 2) && !decide (d 12 p = d 144 a1 % 9)) && !decide (p = d 143 a1)) && !(decide (p < i) && decide (d 7 (d 143 a1 * 9 + p) = 0))) && !decide (p = i)) (fun j _ _ => ?_)] at ih
        · exact ih
        · by_cases q : j = i
          · subst q; simp [c2, show j < j + 1 by omega]
          · simp [q, show (j < i + 1) = (j < i) from propext ⟨fun _ => by omega, fun _ => by omega⟩]
    · refine yk_81_11_44 ⟨by omega, by omega, fun c => ?_, fun c => by omega⟩
      refine cast ?_ h
      congr 1
      refine bI_congr (fun i _ q => ?_)
      unfold spF
      rw [decide_eq_true hz, decide_eq_true q]
theorem sq_277 {a1 : Int} (hD : 3 ≤ D) (ha : 0 ≤ a1 ∧ a1 < 10) (hv : 0 ≤ d 173 (2 * a1) ∧ d 173 (2 * a1) < d 146 1) (hw : 0 ≤ d 173 (2 * a1 + 1) ∧ d 173 (2 * a1 + 1) ≤ 999) (p1 : 0 ≤ d 146 1 ∧ d 146 1 ≤ 9) (hh : ∀ p, 0 ≤ p → p < d 146 1 → (0 ≤ d 147 p ∧ d 147 p < 9) ∧ (0 ≤ d 147 (9 + p) ∧ d 147 (9 + p) < 9)) (ht : ∀ p, 0 ≤ p → p < d 146 1 → 0 ≤ d 148 (d 173 (2 * a1) * 9 + p) ∧ d 148 (d 173 (2 * a1) * 9 + p) ≤ 9) (h : P (bI (spF (d 147) (fun p => d 147 (9 + p)) (d 148) (d 173 (2 * a1)) (d 173 (2 * a1 + 1) % 9)) (d 146 1)) d e) : yC D 277 L [.ref 146, .int (xJ a1)] d e P := by
  refine yC_of rfl rfl rfl (by omega) (yk_277_0 ⟨by omega, by omega, by omega, fun v4 e4 => ?_⟩)
  subst e4
  refine lp_up (n := d 146 1) (X := fun i => yB (D - 1) xm_c277 (yQi L P) L 22 [.ref 146, .double 0, .int (xJ (d 173 (2 * a1))), .int (xJ (d 173 (2 * a1 + 1) % 9)), .int (xJ (bI (spF (d 147) (fun p => d 147 (9 + p)) (d 148) (d 173 (2 * a1)) (d 173 (2 * a1 + 1) % 9)) i)), .int (xJ i)] [] d e) p1.1 ?_ ?_
  · intro i h1 h2 ih
    have t0 := ht i h1 h2
    have t1 := hh i h1 h2
    have t2 := hh _ hv.1 hv.2
    rw [show d 173 (2 * a1) * 9 + i = 9 * d 173 (2 * a1) + i by omega] at t0
    refine yk_277_22 (by omega) ⟨by omega, by omega, fun c => by omega, fun c => ⟨by omega, fun c2 => ?_, fun c2 => ⟨by omega, by omega, by omega, fun c3 => ?_, fun c3 => ⟨by omega, by omega, by omega, by omega, fun c4 => ⟨by omega, by omega, fun c5 => ?_, fun c5 => ⟨by omega, by omega, fun c6 => ?_, fun c6 => ?_⟩⟩, fun c4 => ?_⟩⟩⟩⟩
    · rw [← bI_k (by omega) (by unfold spF; simp [c2])] at ih; exact ih
    · rw [← bI_k (by omega) (by unfold spF; simp [c3])] at ih; exact ih
    · rw [bI_t (by omega) (by unfold spF; simp [c2, c3, c4, c5])]; exact ih
    · rw [bI_t (by omega) (by unfold spF; rw [show d 173 (2 * a1) * 9 + i = 9 * d 173 (2 * a1) + i by omega]; simp [c2, c3, c4, c6])]; exact ih
    · rw [← bI_k (by omega) (by unfold spF; rw [show d 173 (2 * a1) * 9 + i = 9 * d 173 (2 * a1) + i by omega]; simp [c5, c6])] at ih; exact ih
    · rw [← bI_k (by omega) (by simp only [spF]; rw [decide_eq_false c4]; rfl)] at ih; exact ih
  · exact yk_277_22 (by omega) ⟨by omega, by omega, fun c => h, fun c => by omega⟩
theorem iL_t (hL : iL d) : ∀ i, 0 ≤ i → i < 81 → 0 ≤ d 7 i ∧ d 7 i ≤ 9 := fun i a c => (hL i a c).1
theorem iL_mt (hP : iP d) (hL : iL d) {v : Int} (hv : 0 ≤ v ∧ v < d 6 4) : ∀ p, 0 ≤ p → p < d 146 1 → 0 ≤ d 148 (v * 9 + p) ∧ d 148 (v * 9 + p) ≤ 9 := fun p a c => by
  have p1 := hP.1
  have p2 := hP.2.1
  have := hL (v * 9 + p) (by omega) (by omega)
  rw [this.2.2.1 ⟨by omega, by omega⟩]
  exact this.1
/-- both sides suspect alike -/
theorem iH_eq (hP : iP d) (hL : iL d) (hS : iS b d e) (hH : iH d) {i : Int} (hi : 0 ≤ i ∧ i < d 142 3) : bI (spF (d 147) (fun p => d 147 (9 + p)) (d 148) (d 173 (2 * i)) (d 173 (2 * i + 1) % 9)) (d 146 1) = bI (spF (d 12) (d 13) (d 7) (d 143 i) (d 144 i % 9)) (d 6 4) := by
  have h := hH.2.2 i hi.1 hi.2
  have p1 := hP.1
  rw [hP.2.1, h.1, h.2.1]
  refine bI_congr (fun p a c => ?_)
  have q1 := (hS.1 p a c).2.2.2
  have q2 := (hS.1 (d 143 i) (by omega) (by omega)).2.2.2
  have q3 := (hL (d 143 i * 9 + p) (by omega) (by omega)).2.2.1 ⟨by omega, by omega⟩
  simp only [spF]
  simp only [q1.1, q1.2.1, q2.1, q2.2.1, q3]
theorem op_suspects {a1 : Int} (r1 : yR a1) (hI : Inv R b d e) : Op R b b L 159 278 [.int (xJ a1)] d e := by
  obtain ⟨hP, hT, hW, hL, hS, hU, hK, hR, hQ, hV, hH, hG⟩ := hI
  have p1 := hP.1
  have p2 := hP.2.1
  have h1 := hH.1
  have h2 := hH.2.1
  refine yC_of rfl rfl rfl (by omega) (yk_159_0 (by omega) ⟨r1, fun c => ?_, fun c => ⟨by omega, fun c2 => ?_, fun c2 => ?_⟩⟩)
  · refine yC_of rfl rfl rfl (by omega) (yk_278_0 (by omega) ⟨r1, by omega, fun c3 => by omega, fun c3 => ⟨rfl, hP, hT, hW, hL, hS, (iU_c hU (by repeat' (first | exact Fz_refl | refine Fz_xs ?_ (by decide))) rfl rfl rfl rfl rfl), (iK_c hK (by repeat' (first | exact Fz_refl | refine Fz_xs ?_ (by decide))) rfl rfl rfl rfl), hR, hQ, hV, hH, hG⟩⟩)
  · have h3 := hH.2.2 a1 (by omega) c2
    refine sq_81 (by omega) (by omega) h3.2.2.1 h3.2.2.2 p1 (iS_h hS) (iS_s hS) (iL_t hL) ?_
    refine yC_of rfl rfl rfl (by omega) (yk_278_0 (by omega) ?_)
    (try simp only [xs_fn, upI_app, Nat.reduceEqDiff, Int.reduceEq, eq_self, false_and, true_and, and_false, and_true, if_false, if_true, ↓reduceIte])
    refine ⟨r1, by omega, fun c3 => ?_, fun c3 => by omega⟩
    have hz : ∀ p, 0 ≤ p → p < d 146 1 → 0 ≤ d 148 (d 173 (2 * a1) * 9 + p) ∧ d 148 (d 173 (2 * a1) * 9 + p) ≤ 9 := by rw [h3.1]; exact iL_mt hP hL h3.2.2.1
    refine sq_277 (by omega) (by omega) (by (try simp only [xs_fn, upI_app, Nat.reduceEqDiff, Int.reduceEq, eq_self, false_and, true_and, and_false, and_true, if_false, if_true, ↓reduceIte]); omega) (by (try simp only [xs_fn, upI_app, Nat.reduceEqDiff, Int.reduceEq, eq_self, false_and, true_and, and_false, and_true, if_false, if_true, ↓reduceIte]); omega) (by (try simp only [xs_fn, upI_app, Nat.reduceEqDiff, Int.reduceEq, eq_self, false_and, true_and, and_false, and_true, if_false, if_true, ↓reduceIte]); omega) (fun p a c => ⟨iS_mh hP hS p a c, iS_ms hP hS p a c⟩) hz ?_
    (try simp only [xs_fn, upI_app, Nat.reduceEqDiff, Int.reduceEq, eq_self, false_and, true_and, and_false, and_true, if_false, if_true, ↓reduceIte])
    rw [iH_eq hP hL hS hH ⟨by omega, c2⟩]
    exact ⟨rfl, hP, hT, iW1 rfl rfl rfl, hL, hS, (iU_c hU (by repeat' (first | exact Fz_refl | refine Fz_xs ?_ (by decide))) rfl rfl rfl rfl rfl), (iK_c hK (by repeat' (first | exact Fz_refl | refine Fz_xs ?_ (by decide))) rfl rfl rfl rfl), hR, hQ, hV, hH, hG⟩
  · refine yC_of rfl rfl rfl (by omega) (yk_278_0 (by omega) ⟨r1, by omega, fun c3 => by omega, fun c3 => ⟨rfl, hP, hT, hW, hL, hS, (iU_c hU (by repeat' (first | exact Fz_refl | refine Fz_xs ?_ (by decide))) rfl rfl rfl rfl rfl), (iK_c hK (by repeat' (first | exact Fz_refl | refine Fz_xs ?_ (by decide))) rfl rfl rfl rfl), hR, hQ, hV, hH, hG⟩⟩)
/-- the least gang -/
def ggF (ex : Int → Bool) : Int → Int → Int := fun s x => if (x = -1 ∨ xp_bc s < xp_bc x) ∧ ex s = true then s else x
theorem ggF_r (ex : Int → Bool) {n : Int} (hn : 0 ≤ n ∧ n ≤ 512) : -1 ≤ fI (ggF ex) (-1) n ∧ fI (ggF ex) (-1) n < 512 := by
  refine fI_inv (g := ggF ex) (a := -1) (I := fun i x => -1 ≤ x ∧ x < 512) (by omega) ?_ hn.1
  intro i x h1 h2 h3
  unfold ggF
  split <;> omega
theorem sq_83 {S : Int → Int} {s : Int} {P1 P0 : xh_D → xd_E → Prop} (hD : 1 ≤ D) (h1 : 0 ≤ d 142 3 ∧ d 142 3 ≤ 10) (hS : ∀ i, 0 ≤ i → i < d 142 3 → d 145 i = S i) (ht : aI (fun i => !decide (xi_and (S i) s = 0)) (d 142 3) = true → P1 d e) (hf : aI (fun i => !decide (xi_and (S i) s = 0)) (d 142 3) = false → P0 d e) : yZ D 83 L [.ref 142, .int (xJ s)] d e P1 P0 := by
  refine yZ_of rfl rfl rfl (by omega) (yk_83_0 ?_)
  have key : ∀ i, 0 ≤ i → i ≤ d 142 3 → aI (fun i => !decide (xi_and (S i) s = 0)) i = true → yB (D - 1) xm_c83 (yQz L P1 P0) L 2 [.ref 142, .int (xJ s), .int (xJ i)] [] d e := by
    intro i i1 i2
    revert i1
    refine lp_from (m := i) (n := d 142 3) (X := fun i => 0 ≤ i → aI (fun i => !decide (xi_and (S i) s = 0)) i = true → yB (D - 1) xm_c83 (yQz L P1 P0) L 2 [.ref 142, .int (xJ s), .int (xJ i)] [] d e) i2 ?_ ?_
    · intro k _ k2 ihk k1 hk
      refine yk_83_2 ?_
      rw [hS k k1 k2]
      refine ⟨by omega, by omega, fun c2 => by omega, fun c2 => ⟨by omega, fun c4 => ihk (by omega) (by rw [aI_s _ k1, hk, decide_eq_false c4]; rfl), fun c4 => hf ?_⟩⟩
      cases q : aI (fun i => !decide (xi_and (S i) s = 0)) (d 142 3)
      · rfl
      · have := (aI_iff h1.1).mp q k k1 k2
        rw [decide_eq_true c4] at this
        exact absurd this (by decide)
    · intro k1 hk
      exact yk_83_2 ⟨by omega, by omega, fun _ => ht hk, fun c2 => by omega⟩
  exact key 0 (by omega) (by omega) rfl
theorem sq_82 {S : Int → Int} {ex : Int → Bool} (hD : 8 ≤ D) (h1 : 0 ≤ d 142 3 ∧ d 142 3 ≤ 10) (p1 : 0 ≤ d 6 4 ∧ d 6 4 ≤ 9) (susx : ∀ (D : Nat) (dx : xh_D) (i : Int) (P : Int → xh_D → xd_E → Prop), 5 ≤ D → Fk sx d dx → 0 ≤ i → i < d 142 3 → P (S i) dx e → yC D 81 L [.ref 142, .int (xJ i), .ref 6, .ref 11] dx e P) (hex : ∀ s, ex s = aI (fun i => !decide (xi_and (S i) s = 0)) (d 142 3)) (h : ∀ dx, Fk sx d dx → P (fI (ggF ex) (-1) (xi_shl 1 (d 6 4))) dx e) : yC D 82 L [.ref 142, .ref 6, .ref 11] d e P := by
  have hN : xi_shl 1 (d 6 4) - 1 = bI (fun _ => true) (d 6 4) := bI_all (by omega)
  have hNr := bI_r9 (fun _ => true) p1.2
  refine yC_of rfl rfl rfl (by omega) (yk_82_11_0 ?_)
  have hl := lp_up (n := d 142 3) (X := fun i => yB (D - 1) xm_c82 (yQi L P) L 2 [.ref 142, .ref 6, .ref 11, .int (xJ i), .double 0, .double 0, .double 0] [] (xwr d 145 i S) e) h1.1 ?_ ?_
  · rw [xwr_0] at hl; exact hl
  · intro i a c ih
    refine yk_82_11_2 ?_
    rw [show xwr d 145 i S 142 = d 142 from xwr_fn (by decide)]
    refine ⟨by omega, by omega, fun c2 => by omega, fun c2 => susx _ _ i _ (by omega) (Fk_wr Fk_refl (fun _ => rfl)) a c ⟨by omega, ?_⟩⟩
    rw [← xwr_s a] at ih
    exact ih
  · refine yk_82_11_2 ?_
    rw [show xwr d 145 (d 142 3) S 142 = d 142 from xwr_fn (by decide)]
    refine ⟨by omega, by omega, fun _ => ?_, fun c2 => by omega⟩
    have f0 : Fk sx d (xwr d 145 (d 142 3) S) := Fk_wr Fk_refl (fun _ => rfl)
    have w6 : xwr d 145 (d 142 3) S 6 = d 6 := xwr_fn (by decide)
    have w142 : xwr d 145 (d 142 3) S 142 = d 142 := xwr_fn (by decide)
    have hl := lp_up (n := xi_shl 1 (d 6 4)) (X := fun s => yB (D - 1) xm_c82 (yQi L P) L 23 [.ref 142, .ref 6, .double 0, .int (xJ (fI (ggF ex) (-1) s)), .int (xJ (if fI (ggF ex) (-1) s = -1 then 10 else xp_bc (fI (ggF ex) (-1) s))), .int (xJ s), .double 0] [] (xwr d 145 (d 142 3) S) e) (by omega) ?_ ?_
    · exact hl
    · intro s a c ih
      have gs := ggF_r ex (n := s) (by omega)
      have bs := xp_bc9 (i := s) (by omega)
      rw [fI_s _ _ a] at ih
      generalize hx : fI (ggF ex) (-1) s = x at ih gs ⊢
      have bx : ¬ x = -1 → 0 ≤ xp_bc x ∧ xp_bc x ≤ 9 := fun q => xp_bc9 (by omega)
      unfold ggF at ih
      refine yk_82_11_23 (by omega) ?_
      rw [w6]
      refine ⟨by omega, by omega, fun c2 => by omega, fun c2 => ⟨by split <;> omega, fun c3 => ?_, fun c3 => ?_⟩⟩
      · rw [if_neg (fun q => by rcases q.1 with q1 | q1 <;> split at c3 <;> omega)] at ih
        exact ih
      · have hc : x = -1 ∨ xp_bc s < xp_bc x := by split at c3 <;> omega
        refine sq_83 (S := S) (by omega) (by rw [w142]; exact h1) (fun i a1 c1 => by rw [w142] at c1; rw [xwr_at ⟨a1, c1⟩]) (fun q => ?_) (fun q => ?_)
        · rw [w142, ← hex] at q
          rw [if_pos ⟨hc, q⟩, if_neg (by omega)] at ih
          exact ih
        · rw [w142, ← hex] at q
          rw [if_neg (fun w => by rw [q] at w; exact absurd w.2 (by decide))] at ih
          exact ih
    · refine yk_82_11_23 (by omega) ?_
      rw [w6]
      exact ⟨by omega, by omega, fun _ => h _ f0, fun c2 => by omega⟩
theorem op_thief (hI : Inv R b d e) : Op R b b L 160 279 [] d e := by
  have hI0 := hI
  obtain ⟨hP, hT, hW, hL, hS, hU, hK, hR, hQ, hV, hH, hG⟩ := hI
  have p1 := hP.1
  have p2 := hP.2.1
  have h1 := hH.1
  have h2 := hH.2.1
  have hN : xi_shl 1 (d 6 4) - 1 = bI (fun _ => true) (d 6 4) := bI_all (by omega)
  have hNr := bI_r9 (fun _ => true) p1.2
  generalize hS0 : (fun i => bI (spF (d 12) (d 13) (d 7) (d 143 i) (d 144 i % 9)) (d 6 4)) = S
  have hSi : ∀ i, bI (spF (d 12) (d 13) (d 7) (d 143 i) (d 144 i % 9)) (d 6 4) = S i := fun i => by rw [← hS0]
  generalize hal : fI (fun i x => xi_and x (S i)) (xi_shl 1 (d 6 4) - 1) (d 142 3) = al
  generalize hex : (fun s => aI (fun i => !decide (xi_and (S i) s = 0)) (d 142 3)) = ex
  generalize hg : fI (ggF ex) (-1) (xi_shl 1 (d 6 4)) = g
  have gr : -1 ≤ g ∧ g < 512 := by rw [← hg]; exact ggF_r ex (by omega)
  -- the reference
  have mm : ∀ dx : xh_D, Fk (fun p i => sx p i || (p == 4) || (p == 5)) d dx → dx 4 1 = 2 → dx 5 0 = (if g = -1 then -1 else xp_bc g) → dx 5 1 = (if g = -1 then 0 else g) → yC 150 279 L [.ref 146] dx e (fun r2 d2 e2 => al = r2 ∧ Inv R b d2 e2) := by
    intro dx f w4 w50 w51
    have m146 : ∀ i, dx 146 i = d 146 i := fun i => f 146 i rfl
    have m147 := Fk_p f (p := 147) (fun _ => rfl)
    have m148 := Fk_p f (p := 148) (fun _ => rfl)
    have m173 := Fk_p f (p := 173) (fun _ => rfl)
    have susp : ∀ (D : Nat) (i : Int) (P : Int → xh_D → xd_E → Prop), 3 ≤ D → 0 ≤ i → i < d 142 3 → P (S i) (xs dx 146 8 0) e → yC D 277 L [.ref 146, .int (xJ i)] (xs dx 146 8 0) e P := by
      intro D i P hD a c hp
      have h3 := hH.2.2 i a c
      have hz : ∀ p, 0 ≤ p → p < d 146 1 → 0 ≤ d 148 (d 173 (2 * i) * 9 + p) ∧ d 148 (d 173 (2 * i) * 9 + p) ≤ 9 := by rw [h3.1]; exact iL_mt hP hL h3.2.2.1
      have e1 : xs dx 146 8 0 146 1 = d 146 1 := by rw [xs_ni (by decide), m146]
      have e2 : xs dx 146 8 0 147 = d 147 := by rw [xs_fn, if_neg (by decide), m147]
      have e3 : xs dx 146 8 0 148 = d 148 := by rw [xs_fn, if_neg (by decide), m148]
      have e4 : xs dx 146 8 0 173 = d 173 := by rw [xs_fn, if_neg (by decide), m173]
      refine sq_277 hD (by omega) (by rw [e1, e4]; omega) (by rw [e4]; omega) (by rw [e1]; omega) (by rw [e1, e2]; exact fun p a c => ⟨iS_mh hP hS p a c, iS_ms hP hS p a c⟩) (by rw [e1, e3, e4]; exact hz) ?_
      rw [e1, e2, e3, e4, iH_eq hP hL hS hH ⟨a, c⟩, hSi]
      exact hp
    have e1 : xs dx 146 8 0 146 1 = d 6 4 := by rw [xs_ni (by decide), m146, p2]
    have e54 : xs dx 146 8 0 146 54 = d 142 3 := by rw [xs_ni (by decide), m146, h2]
    refine yC_of rfl rfl rfl (by omega) (yk_279_0 (fun v1 e0 => ?_))
    rw [m146, p2] at e0
    have hl := lp_up (n := d 142 3) (X := fun i => yB (150 - 1) xm_c279 (yQi L (fun r2 d2 e2 => al = r2 ∧ Inv R b d2 e2)) L 12 [.ref 146, .int (xJ (fI (fun i x => xi_and x (S i)) (xi_shl 1 (d 6 4) - 1) i)), .int (xJ i), .double 0, .double 0, .double 0] [] (xs dx 146 8 0) e) h1.1 ?_ ?_
    · rw [e0]; exact hl
    · intro i a c ih
      refine yk_279_12 ?_
      rw [e54]
      refine ⟨by omega, by omega, fun c2 => by omega, fun c2 => susp _ i _ (by omega) a c ?_⟩
      rw [fI_s _ _ a] at ih
      exact ih
    · refine yk_279_12 ?_
      rw [e54, hal]
      refine ⟨by omega, by omega, fun _ => ?_, fun c2 => by omega⟩
      have hl := lp_up (n := xi_shl 1 (d 6 4)) (X := fun s => yB (150 - 1) xm_c279 (yQi L (fun r2 d2 e2 => al = r2 ∧ Inv R b d2 e2)) L 28 [.ref 146, .int (xJ al), .int (xJ (fI (ggF ex) (-1) s)), .int (xJ s), .double 0, .double 0] [] (xs dx 146 8 0) e) (by omega) ?_ ?_
      · exact hl
      · intro s a c ih
        have gs := ggF_r ex (n := s) (by omega)
        rw [fI_s _ _ a] at ih
        generalize hx : fI (ggF ex) (-1) s = x at ih gs ⊢
        have inner : (x = -1 ∨ xp_bc s < xp_bc x) → yB (150 - 1) xm_c279 (yQi L (fun r2 d2 e2 => al = r2 ∧ Inv R b d2 e2)) L 47 [.ref 146, .int (xJ al), .int (xJ x), .int (xJ s), .int (xJ 1), .int (xJ 0)] [] (xs dx 146 8 0) e := by
          intro hc
          have hl := lp_up (n := d 142 3) (X := fun i => yB (150 - 1) xm_c279 (yQi L (fun r2 d2 e2 => al = r2 ∧ Inv R b d2 e2)) L 47 [.ref 146, .int (xJ al), .int (xJ x), .int (xJ s), .int (xJ (if aI (fun i => !decide (xi_and (S i) s = 0)) i = true then 1 else 0)), .int (xJ i)] [] (xs dx 146 8 0) e) h1.1 ?_ ?_
          · exact hl
          · intro i a2 c2 ih2
            rw [aI_s _ a2] at ih2
            refine yk_279_47 ?_
            rw [e54]
            refine ⟨by omega, by omega, fun c3 => by omega, fun c3 => ⟨by split <;> omega, fun c4 => ?_, fun c4 => susp _ i _ (by omega) a2 c2 ⟨fun c5 => ?_, fun c5 => ?_⟩⟩⟩
            · have : aI (fun i => !decide (xi_and (S i) s = 0)) i = false := by
                cases q : aI (fun i => !decide (xi_and (S i) s = 0)) i
                · rfl
                · rw [q] at c4; exact absurd c4 (by decide)
              rw [this] at ih2
              exact ih2
            · rw [decide_eq_true c5] at ih2
              simpa using ih2
            · have : aI (fun i => !decide (xi_and (S i) s = 0)) i = true := by
                cases q : aI (fun i => !decide (xi_and (S i) s = 0)) i
                · rw [q] at c4; exact absurd rfl c4
                · rfl
              rw [this, decide_eq_false c5] at ih2
              exact ih2
          · refine yk_279_47 ?_
            rw [e54, show aI (fun i => !decide (xi_and (S i) s = 0)) (d 142 3) = ex s by rw [← hex]]
            unfold ggF at ih
            refine ⟨by omega, by omega, fun _ => ⟨by split <;> omega, fun c4 => ?_, fun c4 => ?_⟩, fun c3 => by omega⟩
            · rw [if_neg (fun q => by rw [q.2] at c4; exact absurd c4 (by decide))] at ih
              exact ih
            · rw [if_pos ⟨hc, by cases q : ex s; (· rw [q] at c4; exact absurd rfl c4); rfl⟩] at ih
              exact ih
        refine yk_279_28 (by omega) ?_
        rw [e1]
        refine ⟨by omega, fun c2 => by omega, fun c2 => ⟨by omega, fun c3 => inner (Or.inl c3), fun c3 => ⟨fun c4 => inner (Or.inr c4), fun c4 => ?_⟩⟩⟩
        unfold ggF at ih
        rw [if_neg (fun q => by omega)] at ih
        exact ih
      · refine yk_279_28 (by omega) ?_
        rw [e1, hg]
        have hfin : ∀ u v : Int, u = (if g = -1 then -1 else xp_bc g) → v = (if g = -1 then 0 else g) → Inv R b (xs (xs (xs (xs (xs (xs dx 146 8 0) 146 7 0) 151 0 u) 146 7 (0 + 1)) 151 (0 + 1) v) 146 7 ((0 + 1) + 1)) e := by
          intro u v hu hv
          refine Inv_fk hI0 ?_ Ek_refl ?_
          · refine Fk_xs (Fk_xs (Fk_xs (Fk_xs (Fk_xs (Fk_xs (Fk_mono f (fun p i q => ?_)) rfl) rfl) rfl) rfl) rfl) rfl
            unfold sr at q
            cases k1 : sx p i
            · by_cases k2 : p = 4
              · subst k2; rw [show sw 4 i = true from rfl] at q; simp at q
              · by_cases k3 : p = 5
                · subst k3; rw [show sw 5 i = true from rfl] at q; simp at q
                · simp [k2, k3]
            · rw [k1] at q; simp at q
          · refine iW2 ?_ ?_ ?_ ?_
            · (try simp only [xs_fn, upI_app, Nat.reduceEqDiff, Int.reduceEq, eq_self, false_and, true_and, and_false, and_true, if_false, if_true, ↓reduceIte]); exact w4
            · (try simp only [xs_fn, upI_app, Nat.reduceEqDiff, Int.reduceEq, eq_self, false_and, true_and, and_false, and_true, if_false, if_true, ↓reduceIte]); rfl
            · show u = dx 5 0; rw [w50, hu]
            · show v = dx 5 1; rw [w51, hv]
        refine ⟨by omega, fun _ => ⟨by omega, fun c3 => ⟨fun c4 => ⟨rfl, hfin _ _ (by rw [if_neg c3]) (by rw [if_neg c3])⟩, fun c4 => absurd c4 c3⟩, fun c3 => ⟨fun c4 => absurd c3 c4, fun c4 => ⟨rfl, hfin _ _ (by rw [if_pos c3]) (by rw [if_pos c3])⟩⟩⟩, fun c2 => by omega⟩
  -- the class
  have susx : ∀ (D : Nat) (dx : xh_D) (i : Int) (P : Int → xh_D → xd_E → Prop), 5 ≤ D → Fk sx d dx → 0 ≤ i → i < d 142 3 → P (S i) dx e → yC D 81 L [.ref 142, .int (xJ i), .ref 6, .ref 11] dx e P := by
    intro D dx i P hD f a c hp
    have h3 := hH.2.2 i a c
    have c6 := Fk_p f (p := 6) (fun _ => rfl)
    have c7 := Fk_p f (p := 7) (fun _ => rfl)
    have c12 := Fk_p f (p := 12) (fun _ => rfl)
    have c13 := Fk_p f (p := 13) (fun _ => rfl)
    have c143 := Fk_p f (p := 143) (fun _ => rfl)
    have c144 := Fk_p f (p := 144) (fun _ => rfl)
    refine sq_81 hD (by omega) (by rw [c6, c143]; exact h3.2.2.1) (by rw [c144]; exact h3.2.2.2) (by rw [c6]; exact p1) (by rw [c6, c12]; exact iS_h hS) (by rw [c6, c13]; exact iS_s hS) (by rw [c7]; exact iL_t hL) ?_
    rw [c6, c7, c12, c13, c143, c144, hSi]
    exact hp
  refine yC_of rfl rfl rfl (by omega) (yk_160_0 (by omega) ?_)
  have hl := lp_up (n := d 142 3) (X := fun i => yB (150 - 1) xm_c160 (yQi L (fun r1 d1 e1 => yC 150 279 L [.ref 146] d1 e1 (fun r2 d2 e2 => r1 = r2 ∧ Inv R b d2 e2))) L 6 [.ref 1, .int (xJ (fI (fun i x => xi_and x (S i)) (xi_shl 1 (d 6 4) - 1) i)), .int (xJ i)] [] d e) h1.1 ?_ ?_
  · exact hl
  · intro i a c ih
    refine yk_160_6 (by omega) ⟨by omega, by omega, fun c2 => by omega, fun c2 => susx _ d i _ (by omega) Fk_refl a c ?_⟩
    rw [fI_s _ _ a] at ih
    exact ih
  · refine yk_160_6 (by omega) ⟨by omega, by omega, fun _ => ?_, fun c2 => by omega⟩
    rw [hal]
    refine sq_82 (S := S) (ex := ex) (by omega) h1 p1 susx (fun s => by rw [← hex]) (fun dx f0 => ?_)
    rw [hg]
    refine ⟨by omega, fun c3 => ⟨fun _ => ?_, fun c4 => absurd c4 c3⟩, fun c3 => ⟨fun c4 => absurd c3 c4, fun _ => ?_⟩⟩
    · refine mm _ ?_ ?_ ?_ ?_
      · exact Fk_xs (Fk_xs (Fk_xs (Fk_xs (Fk_xs (Fk_mono f0 (fun p i q => by cases k1 : sx p i <;> simp_all)) (by simp)) (by simp)) (by simp)) (by simp)) (by simp)
      · (try simp only [xs_fn, upI_app, Nat.reduceEqDiff, Int.reduceEq, eq_self, false_and, true_and, and_false, and_true, if_false, if_true, ↓reduceIte])
      · (try simp only [xs_fn, upI_app, Nat.reduceEqDiff, Int.reduceEq, eq_self, false_and, true_and, and_false, and_true, if_false, if_true, ↓reduceIte]); rw [if_neg c3]
      · (try simp only [xs_fn, upI_app, Nat.reduceEqDiff, Int.reduceEq, eq_self, false_and, true_and, and_false, and_true, if_false, if_true, ↓reduceIte]); rw [if_neg c3]
    · refine mm _ ?_ ?_ ?_ ?_
      · exact Fk_xs (Fk_xs (Fk_xs (Fk_xs (Fk_xs (Fk_mono f0 (fun p i q => by cases k1 : sx p i <;> simp_all)) (by simp)) (by simp)) (by simp)) (by simp)) (by simp)
      · (try simp only [xs_fn, upI_app, Nat.reduceEqDiff, Int.reduceEq, eq_self, false_and, true_and, and_false, and_true, if_false, if_true, ↓reduceIte])
      · (try simp only [xs_fn, upI_app, Nat.reduceEqDiff, Int.reduceEq, eq_self, false_and, true_and, and_false, and_true, if_false, if_true, ↓reduceIte]); rw [if_pos c3]
      · (try simp only [xs_fn, upI_app, Nat.reduceEqDiff, Int.reduceEq, eq_self, false_and, true_and, and_false, and_true, if_false, if_true, ↓reduceIte]); rw [if_pos c3]
end OP9
