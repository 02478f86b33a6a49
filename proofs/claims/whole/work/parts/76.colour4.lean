/-! CALLS: colours. -/
section CO4
variable {R : xR} {b : Int} {L D : Nat} {d : xh_D} {e : xd_E}
theorem sq_94 {n M0 : Int} {P : Int → xh_D → xd_E → Prop} (hD : 20 ≤ D) (hk : 0 ≤ d 136 5 ∧ d 136 5 ≤ 12) (hA : ∀ i, 0 ≤ i → i < d 136 5 → (0 ≤ d 137 i ∧ d 137 i < 9) ∧ (0 ≤ d 138 i ∧ d 138 i < 9) ∧ (d 139 i = 0 ∨ d 139 i = 1)) (hn : 0 ≤ n ∧ n ≤ 9) (hM : 0 ≤ M0 ∧ M0 ≤ 9) (h0 : ∀ M, 0 ≤ M → M < M0 → cfF (d 137) (d 138) (d 139) (d 136 5) n M n.toNat 0 (d 140) = none) (h1 : ¬ cfF (d 137) (d 138) (d 139) (d 136 5) n M0 n.toNat 0 (d 140) = none) (h : ∀ r d', cfF (d 137) (d 138) (d 139) (d 136 5) n M0 n.toNat 0 (d 140) = some r → (∀ q, ¬ q = 140 → d' q = d q) → (∀ q, 0 ≤ q → q < n → d' 140 q = r q) → P M0 d' e) : yC D 94 L [.ref 136, .int (xJ n)] d e P := by
  have hA0 : ∀ i, 0 ≤ i → i < d 136 5 → 0 ≤ d 137 i ∧ 0 ≤ d 138 i := fun i a c => ⟨(hA i a c).1.1, (hA i a c).2.1.1⟩
  refine yC_of rfl rfl rfl (by omega) (yk_94_0 ?_)
  refine lp_up (n := M0) (X := fun M => ∀ dc, (∀ q, ¬ q = 140 → dc q = d q) → yB (D - 1) xm_c94 (yQi L P) L 2 [.ref 136, .int (xJ n), .int (xJ M)] [] dc e) hM.1 ?_ ?_ d (fun _ _ => rfl)
  · intro M a c ih dc f
    refine yk_94_2 ⟨by omega, fun z => by omega, fun _ => ?_⟩
    have g := sq_95 (L := L) (e := e) (d := d) (n := n) (M := M) hk hA hn (by omega) n.toNat (D - 1) 0 dc (fun d2 e3 => P M d2 e3) (fun d2 e3 => yB (D - 1) xm_c94 (yQi L P) L 2 [.ref 136, .int (xJ n), .int (xJ (M + 1))] [] d2 e3) (by omega) (by omega) (by omega) f (fun q a1 a2 => by omega) (fun r d' e1 _ _ => ?_) (fun d' _ e2 _ => ih d' e2)
    · rw [show n - ((n.toNat : Nat) : Int) = 0 by omega] at g
      exact g
    · have rel := cf_c0 (A := d 137) (B := d 138) (S := d 139) (k := d 136 5) (n := n) (M := M) hA0 n.toNat 0 (dc 140) (d 140) (fun q a1 a2 => by omega)
      rw [h0 M a c, e1] at rel
      rcases rel with rel | ⟨r1, r2, _, rel, _⟩
      · exact absurd rel.1 (by simp)
      · exact absurd rel (by simp)
  · intro dc f
    refine yk_94_2 ⟨by omega, fun z => by omega, fun _ => ?_⟩
    have rel := cf_c0 (A := d 137) (B := d 138) (S := d 139) (k := d 136 5) (n := n) (M := M0) hA0 n.toNat 0 (dc 140) (d 140) (fun q a1 a2 => by omega)
    have g := sq_95 (L := L) (e := e) (d := d) (n := n) (M := M0) hk hA hn (by omega) n.toNat (D - 1) 0 dc (fun d2 e3 => P M0 d2 e3) (fun d2 e3 => yB (D - 1) xm_c94 (yQi L P) L 2 [.ref 136, .int (xJ n), .int (xJ (M0 + 1))] [] d2 e3) (by omega) (by omega) (by omega) f (fun q a1 a2 => by omega) (fun r d' e1 e2 e3 => ?_) (fun d' e1 _ _ => ?_)
    · rw [show n - ((n.toNat : Nat) : Int) = 0 by omega] at g
      exact g
    · rw [e1] at rel
      rcases rel with rel | ⟨r1, r2, q1, q2, q3⟩
      · exact absurd rel.1 (by simp)
      · cases q1
        exact h r2 d' q2 e2 (fun q a c => by rw [e3 q c, q3 q a c])
    · rw [e1] at rel
      rcases rel with rel | ⟨r1, r2, q1, _⟩
      · exact absurd rel.2 h1
      · exact absurd q1 (by simp)
theorem op_colours (hI : Inv R b d e) : Op R b b L 148 263 [] d e := by
  have hI0 := hI
  obtain ⟨hP, hT, hW, hL, hS, hU, hK, hR, hQ, hV, hH, hG⟩ := hI
  have p1 := hP.1
  have p2 := hP.2.1
  obtain ⟨v1, v2, v3⟩ := id hV
  have hA : ∀ i, 0 ≤ i → i < d 136 5 → (0 ≤ d 137 i ∧ d 137 i < d 6 4) ∧ (0 ≤ d 138 i ∧ d 138 i < d 6 4) ∧ (d 139 i = 0 ∨ d 139 i = 1) := fun i a c => ⟨(v3 i a c).2.2.2.1, (v3 i a c).2.2.2.2.1, (v3 i a c).2.2.2.2.2.2⟩
  have hA9 : ∀ i, 0 ≤ i → i < d 136 5 → (0 ≤ d 137 i ∧ d 137 i < 9) ∧ (0 ≤ d 138 i ∧ d 138 i < 9) ∧ (d 139 i = 0 ∨ d 139 i = 1) := fun i a c => by have := hA i a c; exact ⟨by omega, by omega, this.2.2⟩
  have hAn : ∀ i, 0 ≤ i → i < d 136 5 → (0 ≤ d 137 i ∧ d 137 i < d 6 4) ∧ (0 ≤ d 138 i ∧ d 138 i < d 6 4) := fun i a c => ⟨(hA i a c).1, (hA i a c).2.1⟩
  have hA0 : ∀ i, 0 ≤ i → i < d 136 5 → 0 ≤ d 137 i ∧ 0 ≤ d 138 i := fun i a c => ⟨(hA i a c).1.1, (hA i a c).2.1.1⟩
  -- the reference's search
  have gm : ∀ (dx : xh_D) (ex : xd_E) (P : xh_D → xd_E → Prop), (∀ q, 144 < q → dx q = d q) → (∀ d2, gmF (xs (xs dx 146 8 0) 146 49 1000000) d2 → gmS (d 137) (d 138) (d 139) (d 136 5) (d 6 4) (d 6 4).toNat 0 (xs (xs dx 146 8 0) 146 49 1000000) d2 → P d2 ex) → yV (150 - 1) 262 L [.ref 146, .int (xJ 0), .int (xJ 0)] (xs (xs dx 146 8 0) 146 49 1000000) ex P := by
    intro dx ex P hx hP'
    have e49 : xs (xs dx 146 8 0) 146 49 1000000 146 49 = 1000000 := xs_eq
    have g := sq_262 (L := L) (e := ex) (A := d 137) (B := d 138) (S := d 139) (k := d 136 5) (n := d 6 4) (d 6 4).toNat (150 - 1) 0 (xs (xs dx 146 8 0) 146 49 1000000) P (by omega) ⟨v1, p1, ?_, ?_, fun i a c => ?_⟩ (by omega) (by omega) (by rw [e49]; omega) (fun q a1 a2 => by omega) (fun d' f' s' _ => hP' d' f' s')
    · rw [show d 6 4 - (((d 6 4).toNat : Nat) : Int) = 0 by omega] at g
      exact g
    · rw [xs_ni (by decide), xs_ni (by decide), hx 146 (by decide)]; exact v2
    · rw [xs_ni (by decide), xs_ni (by decide), hx 146 (by decide)]; exact p2
    · rw [xs_np (by decide), xs_np (by decide), xs_np (by decide), xs_np (by decide), xs_np (by decide), xs_np (by decide), hx 168 (by decide)]
      have := v3 i a c
      have h9 := hA9 i a c
      exact ⟨this.1, this.2.1, this.2.2.1, h9.1, h9.2.1, h9.2.2⟩
  refine yC_of rfl rfl rfl (by omega) (yk_148_0 (by omega) ?_)
  refine sq_92 (by omega) p1 v1 hA (fun hκ d1 f1 => ?_) (fun hno d1 f1 => ?_)
  · obtain ⟨κ, hκ⟩ := hκ
    have ex9 := cf_ex (A := d 137) (B := d 138) (S := d 139) (k := d 136 5) (n := d 6 4) (M := 9) (κ := κ) p1.2 hAn hκ (d 6 4).toNat 0 (d 140) (by omega) (by omega) (fun q a c => by omega) (fun q q' a1 a2 => by omega)
    obtain ⟨M0, r, hm, hB, hM0⟩ := fst_b (fun M => ¬ cfF (d 137) (d 138) (d 139) (d 136 5) (d 6 4) M (d 6 4).toNat 0 (d 140) = none) 9
    have hB' : ∀ M, 0 ≤ M → M < M0 → cfF (d 137) (d 138) (d 139) (d 136 5) (d 6 4) M (d 6 4).toNat 0 (d 140) = none := fun M a c => Decidable.byContradiction (dec := Classical.propDecidable _) (hB M a c)
    have hM1 : ¬ cfF (d 137) (d 138) (d 139) (d 136 5) (d 6 4) M0 (d 6 4).toNat 0 (d 140) = none := by
      rcases hM0 with w | w
      · exact w.1
      · rw [show M0 = 9 from w.2.1]; exact ex9
    clear hM0
    rw [f1 6 (by decide)]
    refine sq_94 (M0 := M0) (by omega) (by rw [f1 136 (by decide)]; exact v1) (by rw [f1 136 (by decide), f1 137 (by decide), f1 138 (by decide), f1 139 (by decide)]; exact hA9) p1 (by omega) (by rw [f1 136 (by decide), f1 137 (by decide), f1 138 (by decide), f1 139 (by decide), f1 140 (by decide)]; exact hB') (by rw [f1 136 (by decide), f1 137 (by decide), f1 138 (by decide), f1 139 (by decide), f1 140 (by decide)]; exact hM1) (fun rw' d2 hr f2 g2 => ?_)
    rw [f1 136 (by decide), f1 137 (by decide), f1 138 (by decide), f1 139 (by decide), f1 140 (by decide)] at hr
    have y2 : ∀ q, ¬ q = 140 → ¬ q = 141 → d2 q = d q := fun q h1 h2 => by rw [f2 q h1, f1 q h2]
    have hlp := lp_up (n := d 6 4) (X := fun i => yB (150 - 1) xm_c148 (yQi L (fun r1 d1 e1 => yC 150 263 L [.ref 146] d1 e1 (fun r2 d2 e2 => r1 = r2 ∧ Inv R b d2 e2))) L 21 [.ref 1, .int (xJ M0), .int (xJ i)] [] (xs (xwr d2 5 i (d2 140)) 4 1 i) e) p1.1 ?_ ?_
    · rw [xwr_0] at hlp; exact hlp
    · intro i i1 i2 ih
      refine yk_148_21 (by omega) ?_
      rw [xs_eq, show xs (xwr d2 5 i (d2 140)) 4 1 i 6 = d2 6 by rw [xs_fn, if_neg (by decide), xwr_fn (by decide)], y2 6 (by decide) (by decide), show xs (xwr d2 5 i (d2 140)) 4 1 i 140 = d2 140 by rw [xs_fn, if_neg (by decide), xwr_fn (by decide)], xs_row (by decide) i1 rfl]
      exact ⟨by omega, by omega, fun c => by omega, fun _ => ⟨by omega, by omega, ih⟩⟩
    · refine yk_148_21 (by omega) ?_
      rw [show xs (xwr d2 5 (d 6 4) (d2 140)) 4 1 (d 6 4) 6 = d2 6 by rw [xs_fn, if_neg (by decide), xwr_fn (by decide)], y2 6 (by decide) (by decide)]
      refine ⟨by omega, by omega, fun _ => ?_, fun c => by omega⟩
      generalize hd3 : xs (xwr d2 5 (d 6 4) (d2 140)) 4 1 (d 6 4) = d3
      have y3 : ∀ q, ¬ q = 140 → ¬ q = 141 → ¬ q = 4 → ¬ q = 5 → d3 q = d q := fun q h1 h2 h3 h4 => by rw [← hd3, xs_fn, if_neg h3, xwr_fn h4, y2 q h1 h2]
      have f3 : Fk sr d d3 := fun p i q => by
        by_cases w : p = 140 ∨ p = 141 ∨ p = 4 ∨ p = 5
        · rcases w with rfl | rfl | rfl | rfl <;> exact absurd (show true = false from q) (by decide)
        · rw [y3 p (by omega) (by omega) (by omega) (by omega)]
      have r4 : d3 4 1 = d 6 4 := by rw [← hd3, xs_eq]
      have r5 : ∀ j, 0 ≤ j → j < d 6 4 → d3 5 j = rw' j := fun j a c => by rw [← hd3, xs_np (by decide), xwr_at ⟨a, c⟩, g2 j a c]
      refine yC_of rfl rfl rfl (by omega) (yk_263_0 ?_)
      rw [y3 146 (by decide) (by decide) (by decide) (by decide), p2]
      refine ⟨by omega, fun z => ?_, fun z => ⟨?_, ?_⟩⟩
      · refine gm d3 e _ (fun q hq => y3 q (by omega) (by omega) (by omega) (by omega)) (fun d4 f4 s4 => ?_)
        have m1 : d4 146 1 = d 6 4 := by rw [f4.2 1 (by decide), xs_ni (by decide), xs_ni (by decide), y3 146 (by decide) (by decide) (by decide) (by decide), p2]
        unfold gmS at s4
        have e49 : xs (xs d3 146 8 0) 146 49 1000000 146 49 = 1000000 := xs_eq
        have e169 : xs (xs d3 146 8 0) 146 49 1000000 169 = d 169 := by rw [xs_fn, if_neg (by decide), xs_fn, if_neg (by decide), y3 169 (by decide) (by decide) (by decide) (by decide)]
        rw [e49, e169] at s4
        have rel : ∀ M, oR0 (d 6 4) (cfF (d 137) (d 138) (d 139) (d 136 5) (d 6 4) M (d 6 4).toNat 0 (d 169)) (cfF (d 137) (d 138) (d 139) (d 136 5) (d 6 4) M (d 6 4).toNat 0 (d 140)) := fun M => cf_c0 hA0 (d 6 4).toNat 0 (d 169) (d 140) (fun q a1 a2 => by omega)
        rcases s4 with s4 | ⟨q1, q2, ⟨r', q3, q4⟩, q5⟩
        · exfalso
          have := rel M0
          rw [s4.2.2 M0 hm.1 (by omega)] at this
          rcases this with w | ⟨_, _, w, _⟩
          · exact hM1 w.2
          · exact absurd w (by simp)
        · have eM : d4 146 49 = M0 := by
            by_cases w1 : d4 146 49 < M0
            · have := rel (d4 146 49)
              rw [q3, hB' _ q1 w1] at this
              rcases this with w | ⟨_, _, _, w, _⟩
              · exact absurd w.1 (by simp)
              · exact absurd w (by simp)
            · by_cases w2 : M0 < d4 146 49
              · exfalso
                have := rel M0
                rw [q5 M0 hm.1 w2] at this
                rcases this with w | ⟨_, _, w, _⟩
                · exact hM1 w.2
                · exact absurd w (by simp)
              · omega
          have er : ∀ q, 0 ≤ q → q < d 6 4 → r' q = rw' q := by
            have := rel M0
            rw [← eM, q3] at this
            rw [eM, hr] at this
            rcases this with w | ⟨x1, x2, w1, w2, w3⟩
            · exact absurd w.1 (by simp)
            · cases w1; cases w2; exact w3
          refine ⟨by omega, fun _ => ?_, fun w => by omega⟩
          have hlp := lp_up (n := d 6 4) (X := fun i => yB (150 - 1) xm_c263 (yQi L (fun r2 d2 e2 => M0 = r2 ∧ Inv R b d2 e2)) L 29 [.ref 146, .int (xJ i)] [] (xs (xwr d4 151 i (d4 170)) 146 7 i) e) p1.1 ?_ ?_
          · rw [xwr_0] at hlp; exact hlp
          · intro i i1 i2 ih
            refine yk_263_29 (by omega) ?_
            rw [xs_eq, xs_ni (i := 1) (by decide), xwr_fn (p := 146) (by decide), m1, show xs (xwr d4 151 i (d4 170)) 146 7 i 170 = d4 170 by rw [xs_fn, if_neg (by decide), xwr_fn (by decide)], xs_row (by decide) i1 rfl]
            exact ⟨by omega, by omega, fun c => by omega, fun _ => ⟨by omega, by omega, ih⟩⟩
          · refine yk_263_29 (by omega) ?_
            rw [xs_ni (i := 1) (by decide), xs_ni (i := 49) (by decide), xwr_fn (p := 146) (by decide), m1, eM]
            refine ⟨by omega, by omega, fun _ => ⟨rfl, ?_⟩, fun c => by omega⟩
            have f5 : Fk sr d (xs (xwr d4 151 (d 6 4) (d4 170)) 146 7 (d 6 4)) := by
              refine Fk_xs (Fk_wr (Fk_trans (Fk_xs (Fk_xs f3 (q := 146) (j := 8) (v := 0) rfl) (q := 146) (j := 49) (v := 1000000) rfl) (fun p i q => ?_)) (fun _ => rfl)) rfl
              by_cases w : p = 146
              · subst w
                exact f4.2 i (fun w => by subst w; exact absurd q (by decide))
              · rw [f4.1 p w (fun w => by subst w; exact absurd (show true = false from q) (by decide)) (fun w => by subst w; exact absurd (show true = false from q) (by decide))]
            have g45 : ∀ p, (p = 4 ∨ p = 5) → xs (xwr d4 151 (d 6 4) (d4 170)) 146 7 (d 6 4) p = d3 p := fun p hp => by
              rw [xs_fn, if_neg (by omega), xwr_fn (by omega), f4.1 p (by omega) (by omega) (by omega), xs_fn, if_neg (by omega), xs_fn, if_neg (by omega)]
            refine Inv_fk hI0 f5 Ek_refl ⟨?_, ?_, fun j a c => ?_⟩
            · rw [g45 4 (Or.inl rfl), r4]; omega
            · rw [g45 4 (Or.inl rfl), r4, xs_eq]
            · rw [g45 4 (Or.inl rfl), r4] at c
              rw [g45 5 (Or.inr rfl), r5 j a c, xs_np (by decide), xwr_at ⟨a, c⟩, q4 j a c, er j a c]
      · by_cases w : M0 = 0
        · exact w
        · exfalso
          have := hB' 0 (by omega) (by omega)
          rw [z] at this
          exact absurd this (by simp [cfF])
      · refine Inv_fk hI0 (Fk_xs (Fk_xs f3 rfl) rfl) Ek_refl ⟨?_, ?_, fun j a c => ?_⟩
        · rw [xs_np (by decide), xs_np (by decide), r4]; omega
        · rw [xs_eq, xs_np (by decide), xs_np (by decide), r4]; exact z.symm
        · rw [xs_np (by decide), xs_np (by decide), r4] at c
          omega
  · have f1' : Fk sr d d1 := fun p i q => by
      rw [f1 p (fun w => by subst w; exact absurd (show true = false from q) (by decide))]
    have z : ¬ d 6 4 = 0 := fun z => hno (fun q => q) (fun i a c => by have := hA i a c; omega)
    refine yC_of rfl rfl rfl (by omega) (yk_263_0 ?_)
    rw [f1 146 (by decide), p2]
    refine ⟨by omega, fun _ => ?_, fun y => absurd y z⟩
    refine gm d1 e _ (fun q hq => f1 q (by omega)) (fun d4 f4 s4 => ?_)
    unfold gmS at s4
    have e49 : xs (xs d1 146 8 0) 146 49 1000000 146 49 = 1000000 := xs_eq
    rw [e49] at s4
    rcases s4 with s4 | ⟨q1, q2, ⟨r', q3, q4⟩, q5⟩
    · rw [s4.1]
      refine ⟨by omega, fun y => absurd rfl y, fun _ => ⟨rfl, ?_⟩⟩
      refine Inv_fk hI0 ?_ Ek_refl (iW_fk hW ?_ ?_ ?_ ?_)
      · refine Fk_trans (Fk_xs (Fk_xs f1' (q := 146) (j := 8) (v := 0) rfl) (q := 146) (j := 49) (v := 1000000) rfl) (fun p i q => ?_)
        by_cases w : p = 146
        · subst w
          exact f4.2 i (fun w => by subst w; exact absurd q (by decide))
        · rw [f4.1 p w (fun w => by subst w; exact absurd (show true = false from q) (by decide)) (fun w => by subst w; exact absurd (show true = false from q) (by decide))]
      · rw [f4.1 4 (by decide) (by decide) (by decide), xs_np (by decide), xs_np (by decide), f1 4 (by decide)]
      · rw [f4.2 7 (by decide), xs_ni (by decide), xs_ni (by decide), f1 146 (by decide)]
      · rw [f4.1 5 (by decide) (by decide) (by decide), xs_fn, if_neg (by decide), xs_fn, if_neg (by decide), f1 5 (by decide)]
      · rw [f4.1 151 (by decide) (by decide) (by decide), xs_fn, if_neg (by decide), xs_fn, if_neg (by decide), f1 151 (by decide)]
    · exfalso
      refine hno r' (fun i a c => ?_)
      exact (cf_sound hAn _ _ _ _ q3).2 i a c (by have := hA i a c; omega)
end CO4
