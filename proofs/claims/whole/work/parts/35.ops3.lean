/-! CALLS: wishes met, witnesses, thefts. -/
section OP3
variable {R : xR} {b : Int} {L D : Nat} {d : xh_D} {e : xd_E} {P : Int → xh_D → xd_E → Prop}
theorem iW1 (h1 : d 4 1 = 1) (h2 : d 146 7 = 1) (h3 : d 151 0 = d 5 0) : iW d := by
  refine ⟨by omega, by omega, fun i a c => ?_⟩
  have : i = 0 := by omega
  subst this
  exact h3
theorem iW2 (h1 : d 4 1 = 2) (h2 : d 146 7 = 2) (h3 : d 151 0 = d 5 0) (h4 : d 151 1 = d 5 1) : iW d := by
  refine ⟨by omega, by omega, fun i a c => ?_⟩
  have : i = 0 ∨ i = 1 := by omega
  rcases this with rfl | rfl
  · exact h3
  · exact h4
theorem iV_x (hP : iP d) (hV : iV d) (hS : iS b d e) : ∀ i, 0 ≤ i → i < d 136 5 → (0 ≤ d 137 i ∧ d 137 i < 9) ∧ (0 ≤ d 138 i ∧ d 138 i < 9) ∧ (d 139 i = 0 ∨ d 139 i = 1) ∧ yR (d 12 (d 137 i)) ∧ yR (d 12 (d 138 i)) := fun i h1 h2 => by
  have := hV.2.2 i h1 h2
  have p1 := hP.1
  have e1 := iS_h hS (d 137 i) (by omega) (by omega)
  have e2 := iS_h hS (d 138 i) (by omega) (by omega)
  exact ⟨by omega, by omega, by omega, by omega, by omega⟩
theorem iV_m (hP : iP d) (hV : iV d) (hS : iS b d e) : ∀ i, 0 ≤ i → i < d 146 46 → (0 ≤ d 168 (3 * i) ∧ d 168 (3 * i) < 9) ∧ (0 ≤ d 168 (3 * i + 1) ∧ d 168 (3 * i + 1) < 9) ∧ (d 168 (3 * i + 2) = 0 ∨ d 168 (3 * i + 2) = 1) ∧ yR (d 147 (d 168 (3 * i))) ∧ yR (d 147 (d 168 (3 * i + 1))) := fun i h1 h2 => by
  have v1 := hV.2.1
  have := hV.2.2 i h1 (by omega)
  have p1 := hP.1
  have p2 := hP.2.1
  have e1 := iS_mh hP hS (d 168 (3 * i)) (by omega) (by omega)
  have e2 := iS_mh hP hS (d 168 (3 * i + 1)) (by omega) (by omega)
  exact ⟨by omega, by omega, by omega, by omega, by omega⟩
theorem iV_eq (hV : iV d) {h k : Int → Int} (hh : ∀ p, 0 ≤ p → p < d 6 4 → k p = h p) : bI (wm k (fun i => d 168 (3 * i)) (fun i => d 168 (3 * i + 1)) (fun i => d 168 (3 * i + 2))) (d 146 46) = bI (wm h (d 137) (d 138) (d 139)) (d 136 5) := by
  rw [hV.2.1]
  refine bI_congr (fun i h1 h2 => ?_)
  have := hV.2.2 i h1 h2
  simp only [wm, this.1, this.2.1, this.2.2.1, hh _ this.2.2.2.1.1 this.2.2.2.1.2, hh _ this.2.2.2.2.1.1 this.2.2.2.2.1.2]
theorem op_met (hI : Inv R b d e) : Op R b b L 146 260 [] d e := by
  obtain ⟨hP, hT, hW, hL, hS, hU, hK, hR, hQ, hV, hH, hG⟩ := hI
  refine yC_of rfl rfl rfl (by omega) (yk_146_0 (by omega) ?_)
  refine sq_90_12 (by omega) hV.1 (iV_x hP hV hS) ?_
  refine yC_of rfl rfl rfl (by omega) (yk_260_0 (by omega) ?_)
  have v1 : 0 ≤ d 146 46 ∧ d 146 46 ≤ 12 := by have := hV.1; have := hV.2.1; omega
  refine sq_259_147 (by omega) v1 (iV_m hP hV hS) ?_
  have he := iV_eq hV (h := d 12) (k := d 147) (fun p a c => (hS.1 p a c).2.2.2.1)
  (try simp only [xs_fn, upI_app, Nat.reduceEqDiff, Int.reduceEq, eq_self, false_and, true_and, and_false, and_true, if_false, if_true, ↓reduceIte])
  rw [he]
  exact ⟨rfl, hP, hT, iW1 rfl rfl rfl, hL, hS, (iU_c hU (by repeat' (first | exact Fz_refl | refine Fz_xs ?_ (by decide))) rfl rfl rfl rfl rfl), (iK_c hK (by repeat' (first | exact Fz_refl | refine Fz_xs ?_ (by decide))) rfl rfl rfl rfl), hR, hQ, hV, hH, hG⟩
theorem cI_split {f g : Int → Bool} {n : Int} (h0 : 0 ≤ n) : cI f n + cI (fun i => f i && !g i) n = 2 * cI (fun i => f i && !g i) n + cI (fun i => f i && g i) n := by
  have key : ∀ k : Nat, cI f k = cI (fun i => f i && !g i) k + cI (fun i => f i && g i) k := by
    intro k
    induction k with
    | zero => rfl
    | succ k ih =>
      rw [show ((k + 1 : Nat) : Int) = (k : Int) + 1 from rfl, cI_s _ (by omega), cI_s _ (by omega), cI_s _ (by omega), ih]
      cases f k <;> cases g k <;> simp <;> omega
  have := key n.toNat
  rw [show ((n.toNat : Nat) : Int) = n by omega] at this
  omega
theorem op_witness {a1 a2 : Int} (r1 : yR a1) (r2 : yR a2) (hI : Inv R b d e) : Op R b b L 161 281 [.int (xJ a1), .int (xJ a2)] d e := by
  obtain ⟨hP, hT, hW, hL, hS, hU, hK, hR, hQ, hV, hH, hG⟩ := hI
  have p1 := hP.1
  have p2 := hP.2.1
  refine yC_of rfl rfl rfl (by omega) (yk_161_0 (by omega) ?_)
  repeat' (first | (with_reducible apply And.intro) | (with_reducible intro _))
  all_goals try omega
  · refine sq_52 (by omega) (by omega) (by omega) p1 (iS_s hS) ?_
    refine sq_51 (by omega) (by omega) p1 (iS_h hS) ?_
    refine yC_of rfl rfl rfl (by omega) (yk_281_0 (by omega) ?_)
    refine ⟨r1, fun _ => ⟨r2, fun _ => ?_, fun c => by omega⟩, fun c => by omega⟩
    refine sq_280 (by omega) (by omega) (by omega) (iP_m hP) (fun p a c => ⟨iS_mh hP hS p a c, iS_ms hP hS p a c⟩) ?_
    (try simp only [xs_fn, upI_app, Nat.reduceEqDiff, Int.reduceEq, eq_self, false_and, true_and, and_false, and_true, if_false, if_true, ↓reduceIte])
    rw [bI_andn (by omega), bI_and (by omega), bI_bc (by omega), bI_bc (by omega), cI_split p1.1, p2]
    have c1 : ∀ i, 0 ≤ i → i < d 6 4 → (decide (xp_apart (d 147 (9 + i)) a1 ≤ 1) && !decide (d 147 i = a2 % 9)) = (decide (xp_apart (d 13 i) a1 ≤ 1) && !decide (d 12 i = a2 % 9)) := fun j h1 h2 => by have := (hS.1 j h1 h2).2.2.2; rw [this.1, this.2.1]
    have c2 : ∀ i, 0 ≤ i → i < d 6 4 → (decide (xp_apart (d 147 (9 + i)) a1 ≤ 1) && decide (d 147 i = a2 % 9)) = (decide (xp_apart (d 13 i) a1 ≤ 1) && decide (d 12 i = a2 % 9)) := fun j h1 h2 => by have := (hS.1 j h1 h2).2.2.2; rw [this.1, this.2.1]
    rw [cI_congr c1, cI_congr c2, bI_congr c1, bI_congr c2]
    exact ⟨rfl, hP, hT, iW2 rfl rfl rfl rfl, hL, hS, (iU_c hU (by repeat' (first | exact Fz_refl | refine Fz_xs ?_ (by decide))) rfl rfl rfl rfl rfl), (iK_c hK (by repeat' (first | exact Fz_refl | refine Fz_xs ?_ (by decide))) rfl rfl rfl rfl), hR, hQ, hV, hH, hG⟩
  all_goals
    refine yC_of rfl rfl rfl (by omega) (yk_281_0 (by omega) ?_)
    repeat' (first | (with_reducible apply And.intro) | (with_reducible intro _))
    all_goals try omega
    all_goals exact ⟨hP, hT, hW, hL, hS, (iU_c hU (by repeat' (first | exact Fz_refl | refine Fz_xs ?_ (by decide))) rfl rfl rfl rfl rfl), (iK_c hK (by repeat' (first | exact Fz_refl | refine Fz_xs ?_ (by decide))) rfl rfl rfl rfl), hR, hQ, hV, hH, hG⟩
theorem op_dark {a1 a2 a3 : Int} (r1 : yR a1) (r2 : yR a2) (r3 : yR a3) (hb : b < 2000000000) (hI : Inv R b d e) : Op R b b L 163 282 [.int (xJ a1), .int (xJ a2), .int (xJ a3)] d e := by
  obtain ⟨hP, hT, hW, hL, hS, hU, hK, hR, hQ, hV, hH, hG⟩ := hI
  have p1 := hP.1
  have p2 := hP.2.1
  have hw := hS.2.2.2.2.1
  have h81 : d 147 81 = d 11 5 := hS.2.2.2.2.2.1
  have m0 : ∀ x : Int, ¬ ((0 ≤ a1 ∧ a1 ≤ 8) ∧ (0 ≤ a2 ∧ a2 ≤ 20) ∧ 1 ≤ a3 ∧ a3 ≤ 40) → x = -1 → yC 150 282 L [.ref 146, .int (xJ a1), .int (xJ a2), .int (xJ a3)] d e (fun r2 d2 e2 => x = r2 ∧ Inv R b d2 e2) := by
    intro x hc hx
    subst hx
    refine yC_of rfl rfl rfl (by omega) (yk_282_0 (by omega) ?_)
    repeat' (first | (with_reducible apply And.intro) | (with_reducible intro _))
    all_goals try omega
    all_goals exact ⟨hP, hT, hW, hL, hS, (iU_c hU (by repeat' (first | exact Fz_refl | refine Fz_xs ?_ (by decide))) rfl rfl rfl rfl rfl), (iK_c hK (by repeat' (first | exact Fz_refl | refine Fz_xs ?_ (by decide))) rfl rfl rfl rfl), hR, hQ, hV, hH, hG⟩
  refine yC_of rfl rfl rfl (by omega) (yk_163_0 (by omega) ?_)
  repeat' (first | (with_reducible apply And.intro) | (with_reducible intro _))
  all_goals try omega
  all_goals try exact m0 _ (by omega) rfl
  refine sq_52 (by omega) (by omega) (by omega) p1 (iS_s hS) ?_
  let v : Int → Int := fun i => cI (fun p => decide (xp_apart (d 13 p) a1 ≤ 1)) (d 6 4) + cI (fun p => decide (xp_apart (d 13 p) a1 ≤ 1) && !decide (d 12 p = (d 11 5 + i) % 9)) (d 6 4)
  have vr : ∀ i, 0 ≤ v i ∧ v i ≤ 18 := fun i => by
    have h1 := cI_r (fun p => decide (xp_apart (d 13 p) a1 ≤ 1)) p1.1
    have h2 := cI_r (fun p => decide (xp_apart (d 13 p) a1 ≤ 1) && !decide (d 12 p = (d 11 5 + i) % 9)) p1.1
    show 0 ≤ cI _ _ + cI _ _ ∧ cI _ _ + cI _ _ ≤ 18
    omega
  have mm : ∀ (x : Int) (hx : (x = -2 ∧ ∀ i, 0 ≤ i → i < a3 → a2 < v i) ∨ (0 ≤ x ∧ x < a3 ∧ v x ≤ a2 ∧ ∀ i, 0 ≤ i → i < x → a2 < v i)), yC 150 282 L [.ref 146, .int (xJ a1), .int (xJ a2), .int (xJ a3)] d e (fun r2 d2 e2 => x = r2 ∧ Inv R b d2 e2) := by
    intro x hx
    refine yC_of rfl rfl rfl (by omega) (yk_282_0 (by omega) ?_)
    refine ⟨r1, fun _ => ⟨r2, fun _ => ⟨r3, fun _ => ?_, fun c => by omega⟩, fun c => by omega⟩, fun c => by omega⟩
    have key : ∀ i, 0 ≤ i → i ≤ a3 → (∀ j, 0 ≤ j → j < i → a2 < v j) → ∀ u w : Int, yB (150 - 1) xm_c282 (yQi L (fun r2 d2 e2 => x = r2 ∧ Inv R b d2 e2)) L 22 [.ref 146, .int (xJ a1), .int (xJ a2), .int (xJ a3), .int (xJ i)] [] (xs (xs (xs d 146 8 0) 146 55 u) 146 56 w) e := by
      intro i h1 h2
      revert h1
      refine lp_from (m := i) (n := a3) (X := fun i => 0 ≤ i → (∀ j, 0 ≤ j → j < i → a2 < v j) → ∀ u w : Int, yB (150 - 1) xm_c282 (yQi L (fun r2 d2 e2 => x = r2 ∧ Inv R b d2 e2)) L 22 [.ref 146, .int (xJ a1), .int (xJ a2), .int (xJ a3), .int (xJ i)] [] (xs (xs (xs d 146 8 0) 146 55 u) 146 56 w) e) h2 ?_ ?_
      · intro k _ k2 ih k1 hk u w
        refine yk_282_22 ?_
        (try simp only [xs_fn, upI_app, Nat.reduceEqDiff, Int.reduceEq, eq_self, false_and, true_and, and_false, and_true, if_false, if_true, ↓reduceIte])
        refine ⟨by omega, by omega, fun c => by omega, fun c => ?_⟩
        rw [h81]
        refine sq_280 (by omega) (by omega) (by omega) (iP_m hP) (fun p a c => ⟨iS_mh hP hS p a c, iS_ms hP hS p a c⟩) ?_
        (try simp only [xs_fn, upI_app, Nat.reduceEqDiff, Int.reduceEq, eq_self, false_and, true_and, and_false, and_true, if_false, if_true, ↓reduceIte])
        have hv : 2 * cI (fun p => decide (xp_apart (d 147 (9 + p)) a1 ≤ 1) && !decide (d 147 p = (d 11 5 + k) % 9)) (d 146 1) + cI (fun p => decide (xp_apart (d 147 (9 + p)) a1 ≤ 1) && decide (d 147 p = (d 11 5 + k) % 9)) (d 146 1) = v k := by
          show _ = cI _ _ + cI _ _
          rw [cI_split p1.1, p2]
          rw [cI_congr (f := fun p => decide (xp_apart (d 147 (9 + p)) a1 ≤ 1) && !decide (d 147 p = (d 11 5 + k) % 9)) (g := fun p => decide (xp_apart (d 13 p) a1 ≤ 1) && !decide (d 12 p = (d 11 5 + k) % 9)) (fun j h1 h2 => by have := (hS.1 j h1 h2).2.2.2; rw [this.1, this.2.1])]
          rw [cI_congr (f := fun p => decide (xp_apart (d 147 (9 + p)) a1 ≤ 1) && decide (d 147 p = (d 11 5 + k) % 9)) (g := fun p => decide (xp_apart (d 13 p) a1 ≤ 1) && decide (d 12 p = (d 11 5 + k) % 9)) (fun j h1 h2 => by have := (hS.1 j h1 h2).2.2.2; rw [this.1, this.2.1])]
        rw [hv]
        have := vr k
        refine ⟨by omega, by omega, fun c2 => ?_, fun c2 => ⟨?_, hP, hT, hW, hL, hS, (iU_c hU (by repeat' (first | exact Fz_refl | refine Fz_xs ?_ (by decide))) rfl rfl rfl rfl rfl), (iK_c hK (by repeat' (first | exact Fz_refl | refine Fz_xs ?_ (by decide))) rfl rfl rfl rfl), hR, hQ, hV, hH, hG⟩⟩
        · rw [xs_55, xs_xs]
          exact ih (by omega) (all_s (p := fun j => a2 < v j) hk c2) _ _
        · rcases hx with hx | hx
          · have := hx.2 k k1 k2; omega
          · by_cases h3 : x < k
            · have := hk x hx.1 h3; omega
            · by_cases h4 : k < x
              · have := hx.2.2.2 k k1 h4; omega
              · omega
      · intro k1 hk u w
        refine yk_282_22 ⟨by omega, by omega, fun c => ⟨?_, hP, hT, hW, hL, hS, (iU_c hU (by repeat' (first | exact Fz_refl | refine Fz_xs ?_ (by decide))) rfl rfl rfl rfl rfl), (iK_c hK (by repeat' (first | exact Fz_refl | refine Fz_xs ?_ (by decide))) rfl rfl rfl rfl), hR, hQ, hV, hH, hG⟩, fun c => by omega⟩
        rcases hx with hx | hx
        · exact hx.1
        · have := hk x hx.1 hx.2.1; omega
    have := key 0 (by omega) (by omega) (fun j a c => by omega) (d 146 55) (d 146 56)
    rw [xs_id (d := xs d 146 8 0) (q := 146) (j := 55) (v := d 146 55) rfl, xs_id (d := xs d 146 8 0) (q := 146) (j := 56) (v := d 146 56) rfl] at this
    exact this
  have key : ∀ i, 0 ≤ i → i ≤ a3 → (∀ j, 0 ≤ j → j < i → a2 < v j) → yB (150 - 1) xm_c163 (yQi L (fun r1 d1 e1 => yC 150 282 L [.ref 146, .int (xJ a1), .int (xJ a2), .int (xJ a3)] d1 e1 (fun r2 d2 e2 => r1 = r2 ∧ Inv R b d2 e2))) L 27 [.ref 1, .double 0, .int (xJ a2), .int (xJ a3), .int (xJ (bI (fun p => decide (xp_apart (d 13 p) a1 ≤ 1)) (d 6 4))), .int (xJ i)] [] d e := by
    intro i h1 h2
    revert h1
    refine lp_from (m := i) (n := a3) (X := fun i => 0 ≤ i → (∀ j, 0 ≤ j → j < i → a2 < v j) → yB (150 - 1) xm_c163 (yQi L (fun r1 d1 e1 => yC 150 282 L [.ref 146, .int (xJ a1), .int (xJ a2), .int (xJ a3)] d1 e1 (fun r2 d2 e2 => r1 = r2 ∧ Inv R b d2 e2))) L 27 [.ref 1, .double 0, .int (xJ a2), .int (xJ a3), .int (xJ (bI (fun p => decide (xp_apart (d 13 p) a1 ≤ 1)) (d 6 4))), .int (xJ i)] [] d e) h2 ?_ ?_
    · intro k _ k2 ih k1 hk
      refine yk_163_27 (by omega) ⟨by omega, by omega, fun c => by omega, fun c => ?_⟩
      refine sq_51 (by omega) (by omega) p1 (iS_h hS) ?_
      have hv : xp_bc (bI (fun p => decide (xp_apart (d 13 p) a1 ≤ 1)) (d 6 4)) + xp_bc (xi_and (bI (fun p => decide (xp_apart (d 13 p) a1 ≤ 1)) (d 6 4)) (xi_xor (bI (fun p => decide (d 12 p = (d 11 5 + k) % 9)) (d 6 4)) (-1))) = v k := by rw [bI_andn (by omega), bI_bc (by omega), bI_bc (by omega)]
      rw [hv]
      have := vr k
      refine ⟨by omega, by omega, fun c2 => ?_, fun c2 => ?_⟩
      · exact ih (by omega) (all_s (p := fun j => a2 < v j) hk c2)
      · exact mm k (Or.inr ⟨k1, k2, by omega, hk⟩)
    · intro k1 hk
      exact yk_163_27 (by omega) ⟨by omega, by omega, fun c => mm (-2) (Or.inl ⟨rfl, hk⟩), fun c => by omega⟩
  exact key 0 (by omega) (by omega) (fun j a c => by omega)
end OP3
