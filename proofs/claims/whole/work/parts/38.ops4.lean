/-! CALLS that change the state, or bring one back. -/
def sa (p : Nat) (i : Int) : Bool := sr p i || (decide (11 ≤ p) && decide (p ≤ 16)) || p == 23 || p == 26 || kz p || p == 147 || p == 158 || p == 174 || p == 175 || p == 176 || (p == 146 && decide (i = 31))
theorem sa_z {p : Nat} {i : Int} (h1 : 27 ≤ p) (h2 : p < 111) : sa p i = true := by simp [sa, kz_t h1 h2]
theorem Fk_sa {d d' : xh_D} (h : Fk sr d d') : Fk sa d d' := Fk_mono h (fun p i q => by unfold sa at q; cases h1 : sr p i <;> simp_all)
theorem Inv_st {R : xR} {b b' : Int} {d d' : xh_D} {e e' : xd_E} (hI : Inv R b d e) (h : Fk sa d d') (hw : iW d') (hS' : iS b' d' e') (hU' : iU b' d' e') (hK' : iK b' d' e') : Inv R b' d' e' := by
  obtain ⟨hP, hT, hW, hL, hS, hU, hK, hR, hQ, hV, hH, hG⟩ := hI
  have c2 := Fk_p h (p := 2) (fun _ => rfl)
  have c3 := Fk_p h (p := 3) (fun _ => rfl)
  have c6 := Fk_p h (p := 6) (fun _ => rfl)
  have c7 := Fk_p h (p := 7) (fun _ => rfl)
  have c8 := Fk_p h (p := 8) (fun _ => rfl)
  have c112 := Fk_p h (p := 112) (fun _ => rfl)
  have c128 := Fk_p h (p := 128) (fun _ => rfl)
  have c129 := Fk_p h (p := 129) (fun _ => rfl)
  have c136 := Fk_p h (p := 136) (fun _ => rfl)
  have c137 := Fk_p h (p := 137) (fun _ => rfl)
  have c138 := Fk_p h (p := 138) (fun _ => rfl)
  have c139 := Fk_p h (p := 139) (fun _ => rfl)
  have c142 := Fk_p h (p := 142) (fun _ => rfl)
  have c143 := Fk_p h (p := 143) (fun _ => rfl)
  have c144 := Fk_p h (p := 144) (fun _ => rfl)
  have c148 := Fk_p h (p := 148) (fun _ => rfl)
  have c149 := Fk_p h (p := 149) (fun _ => rfl)
  have c150 := Fk_p h (p := 150) (fun _ => rfl)
  have c153 := Fk_p h (p := 153) (fun _ => rfl)
  have c156 := Fk_p h (p := 156) (fun _ => rfl)
  have c163 := Fk_p h (p := 163) (fun _ => rfl)
  have c168 := Fk_p h (p := 168) (fun _ => rfl)
  have c173 := Fk_p h (p := 173) (fun _ => rfl)
  have m1 := h 146 1 rfl
  have m5 := h 146 5 rfl
  have m16 := h 146 16 rfl
  have m38 := h 146 38 rfl
  have m46 := h 146 46 rfl
  have m54 := h 146 54 rfl
  have m57 := h 146 57 rfl
  have r6 := h 111 6 rfl
  have q8 := h 127 8 rfl
  have g0 := h 172 0 rfl
  refine ⟨?_, ?_, hw, ?_, hS', hU', hK', ?_, ?_, ?_, ?_, ?_⟩
  · unfold iP at hP ⊢; rw [c6, m1, m57]; exact hP
  · unfold iT xt_ok at hT ⊢; rw [c2, c3, c150, m5]; exact hT
  · unfold iL at hL ⊢; rw [c6, c7, c8, c148, c149]; exact hL
  · rw [r6, c112, m16, c153]; exact hR
  · unfold iQ at hQ ⊢; rw [q8, m38, c163, c128, c129]; exact hQ
  · unfold iV at hV ⊢; rw [c136, m46, c168, c137, c138, c139, c6]; exact hV
  · unfold iH at hH ⊢; rw [c142, m54, c173, c143, c144, c6]; exact hH
  · unfold iG at hG ⊢; rw [g0, c156]; exact hG
theorem iK_z {b b' : Int} {d d' : xh_D} {e e' : xd_E} (hb : b ≤ b') (h : iK b d e) (z : ∀ p, 99 ≤ p → p < 111 → d' p = d p) (ze : ∀ p, 99 ≤ p → p < 111 → e' p = e p) (h1 : d' 26 = d 26) (h2 : d' 174 = d 174) (h3 : d' 175 = d 175) (h4 : d' 176 = d 176) : iK b' d' e' := by
  unfold iK at h ⊢
  rw [h1, h2, h3, h4]
  intro i a c
  rcases h i a c with q | q
  · exact Or.inl q
  · refine Or.inr ⟨q.1, q.2.1, q.2.2.1, q.2.2.2.1, iSt_mono hb ?_⟩
    have := q.2.2.2.2
    unfold iSs at this
    rw [z _ (by omega) (by omega), z _ (by omega) (by omega), z _ (by omega) (by omega), z _ (by omega) (by omega), z _ (by omega) (by omega), ze _ (by omega) (by omega)]
    exact this
theorem RmX_fk {d d' : xh_D} {e e' : xd_E} (h : RmX d e d' e') (h3 : 0 ≤ d 23 3 ∧ d 23 3 < 12) : Fk sa d d' := fun p i q => by
  have c1 : ¬ p = 23 := fun c => by subst c; exact absurd (show true = false from q) (by decide)
  have c2 : ¬ (27 ≤ p ∧ p < 111) := fun c => by rw [sa_z c.1 c.2] at q; exact absurd q (by decide)
  rw [h.1 p c1 (by omega)]
theorem RmM_fk {k : Nat} {d d' : xh_D} (h : RmM k d d') : Fk sa d d' := fun p i q => by
  by_cases c : p = 146
  · subst c
    refine h.2.1 i (fun c => ?_)
    subst c
    exact absurd q (by decide)
  · have c1 : ¬ p = 158 := fun c => by subst c; exact absurd (show true = false from q) (by decide)
    rw [h.1 p c c1]
theorem RmX_z {d d' : xh_D} {e e' : xd_E} (h : RmX d e d' e') (h3 : 0 ≤ d 23 3 ∧ d 23 3 < 12) : (∀ p, ¬ p = 23 → (p < 27 ∨ 98 < p) → d' p = d p) ∧ ∀ p, (p < 27 ∨ 98 < p) → e' p = e p := ⟨fun p a c => h.1 p a (by omega), fun p c => h.2.1 p (by omega)⟩
section OP4
variable {R : xR} {b : Int} {L D : Nat} {d : xh_D} {e : xd_E}
theorem op_swap {a1 a2 : Int} (r1 : yR a1) (r2 : yR a2) (hI : Inv R b d e) : Oz R b b L 151 265 [.int (xJ a1), .int (xJ a2)] d e := by
  have hI0 := hI
  obtain ⟨hP, hT, hW, hL, hS, hU, hK, hR, hQ, hV, hH, hG⟩ := hI
  have p1 := hP.1
  have p2 := hP.2.1
  refine yZ_of rfl rfl rfl (by omega) (yk_151_0 (by omega) ⟨r1, r2, by omega, fun c => ?_, fun c => ?_⟩)
  · refine sc_17 (by omega) hU.2.1 hU.1 (fun d1 e1 x => ⟨by omega, by omega, ?_⟩)
    obtain ⟨z, ze⟩ := RmX_z x hU.2.1
    have z146 := z 146 (by decide) (by decide)
    have z12 := z 12 (by decide) (by decide)
    have z158 := z 158 (by decide) (by decide)
    have z147 := z 147 (by decide) (by decide)
    refine yZ_of rfl rfl rfl (by omega) (yk_265_0 (by omega) ?_)
    (try simp only [xs_fn, upI_app, Nat.reduceEqDiff, Int.reduceEq, eq_self, false_and, true_and, and_false, and_true, if_false, if_true, ↓reduceIte])
    rw [z146]
    refine ⟨r1, r2, by omega, fun c2 => ?_, fun c2 => by omega⟩
    refine sc_226_147 (by omega) (by (try simp only [xs_fn, upI_app, Nat.reduceEqDiff, Int.reduceEq, eq_self, false_and, true_and, and_false, and_true, if_false, if_true, ↓reduceIte]); rw [z146, hU.2.2.1]; exact hU.1) (fun d2 m => ⟨by omega, by omega, ?_⟩)
    have y12 := m.1 12 (by decide) (by decide)
    have y147 := m.1 147 (by decide) (by decide)
    have hh := fun p (h1 : 0 ≤ p) (h2 : p < d 6 4) => (hS.1 p h1 h2)
    have w : Fk sa d d2 := Fk_trans (d' := xs (xs (xs d1 12 a1 (d1 12 a2)) 12 a2 (d1 12 a1)) 146 8 0) (Fk_xs (Fk_xs (Fk_xs (RmX_fk x hU.2.1) rfl) rfl) rfl) (RmM_fk m)
    have g : ∀ p, ¬ p = 12 → ¬ p = 23 → ¬ p = 146 → ¬ p = 147 → ¬ p = 158 → (p < 27 ∨ 98 < p) → d2 p = d p := fun p h1 h2 h3 h4 h5 h6 => by
      rw [m.1 p h3 h5, ← z p h2 h6]
      funext i
      rw [xs_np h3, xs_np h1, xs_np h1]
    refine Inv_st hI0 (Fk_xs (Fk_xs w rfl) rfl) ?_ ?_ ?_ ?_
    · refine iW_fk hW ?_ ?_ ?_ ?_
      · (try simp only [xs_fn, upI_app, Nat.reduceEqDiff, Int.reduceEq, eq_self, false_and, true_and, and_false, and_true, if_false, if_true, ↓reduceIte]); rw [g 4 (by decide) (by decide) (by decide) (by decide) (by decide) (by decide)]
      · (try simp only [xs_fn, upI_app, Nat.reduceEqDiff, Int.reduceEq, eq_self, false_and, true_and, and_false, and_true, if_false, if_true, ↓reduceIte]); rw [m.2.1 7 (by decide)]; (try simp only [xs_fn, upI_app, Nat.reduceEqDiff, Int.reduceEq, eq_self, false_and, true_and, and_false, and_true, if_false, if_true, ↓reduceIte]); rw [z146]
      · (try simp only [xs_fn, upI_app, Nat.reduceEqDiff, Int.reduceEq, eq_self, false_and, true_and, and_false, and_true, if_false, if_true, ↓reduceIte]); rw [g 5 (by decide) (by decide) (by decide) (by decide) (by decide) (by decide)]
      · (try simp only [xs_fn, upI_app, Nat.reduceEqDiff, Int.reduceEq, eq_self, false_and, true_and, and_false, and_true, if_false, if_true, ↓reduceIte]); rw [g 151 (by decide) (by decide) (by decide) (by decide) (by decide) (by decide)]
    · unfold iS
      (try simp only [xs_fn, upI_app, Nat.reduceEqDiff, Int.reduceEq, eq_self, false_and, true_and, and_false, and_true, if_false, if_true, ↓reduceIte])
      rw [y12, y147, g 6 (by decide) (by decide) (by decide) (by decide) (by decide) (by decide), g 13 (by decide) (by decide) (by decide) (by decide) (by decide) (by decide), g 14 (by decide) (by decide) (by decide) (by decide) (by decide) (by decide), g 15 (by decide) (by decide) (by decide) (by decide) (by decide) (by decide), g 11 (by decide) (by decide) (by decide) (by decide) (by decide) (by decide), ze 16 (by decide)]
      (try simp only [xs_fn, upI_app, Nat.reduceEqDiff, Int.reduceEq, eq_self, false_and, true_and, and_false, and_true, if_false, if_true, ↓reduceIte])
      rw [z12, z147, (hh a1 (by omega) (by omega)).2.2.2.1, (hh a2 (by omega) (by omega)).2.2.2.1]
      exact iSt_h p1.2 (iSt_h p1.2 hS (by omega) (hh a2 (by omega) (by omega)).1) (by omega) (hh a1 (by omega) (by omega)).1
    · refine iU_rem p1 hU hS x m (fun i _ _ => ?_) ?_ ?_ (fun p h1 h2 => ?_) (fun _ _ _ => rfl) ?_ ?_ ?_ ?_
      · (try simp only [xs_fn, upI_app, Nat.reduceEqDiff, Int.reduceEq, eq_self, false_and, true_and, and_false, and_true, if_false, if_true, ↓reduceIte]); rw [z147]
      · (try simp only [xs_fn, upI_app, Nat.reduceEqDiff, Int.reduceEq, eq_self, false_and, true_and, and_false, and_true, if_false, if_true, ↓reduceIte]); rw [z146]
      · (try simp only [xs_fn, upI_app, Nat.reduceEqDiff, Int.reduceEq, eq_self, false_and, true_and, and_false, and_true, if_false, if_true, ↓reduceIte]); rw [z158]
      · rw [xs_fn, if_neg (by omega), xs_fn, if_neg (by omega), m.1 p (by omega) (by omega), xs_fn, if_neg (by omega), xs_fn, if_neg (by omega), xs_fn, if_neg (by omega)]
      · (try simp only [xs_fn, upI_app, Nat.reduceEqDiff, Int.reduceEq, eq_self, false_and, true_and, and_false, and_true, if_false, if_true, ↓reduceIte]); rw [m.1 23 (by decide) (by decide)]; (try simp only [xs_fn, upI_app, Nat.reduceEqDiff, Int.reduceEq, eq_self, false_and, true_and, and_false, and_true, if_false, if_true, ↓reduceIte])
      · (try simp only [xs_fn, upI_app, Nat.reduceEqDiff, Int.reduceEq, eq_self, false_and, true_and, and_false, and_true, if_false, if_true, ↓reduceIte])
      · (try simp only [xs_fn, upI_app, Nat.reduceEqDiff, Int.reduceEq, eq_self, false_and, true_and, and_false, and_true, if_false, if_true, ↓reduceIte])
      · (try simp only [xs_fn, upI_app, Nat.reduceEqDiff, Int.reduceEq, eq_self, false_and, true_and, and_false, and_true, if_false, if_true, ↓reduceIte]); rw [g 6 (by decide) (by decide) (by decide) (by decide) (by decide) (by decide)]
    · refine iK_z (Int.le_refl _) hK (fun p h1 h2 => ?_) (fun p h1 h2 => ze p (by omega)) ?_ ?_ ?_ ?_
      · rw [xs_fn, if_neg (by omega), xs_fn, if_neg (by omega), g p (by omega) (by omega) (by omega) (by omega) (by omega) (by omega)]
      · (try simp only [xs_fn, upI_app, Nat.reduceEqDiff, Int.reduceEq, eq_self, false_and, true_and, and_false, and_true, if_false, if_true, ↓reduceIte]); rw [g 26 (by decide) (by decide) (by decide) (by decide) (by decide) (by decide)]
      · (try simp only [xs_fn, upI_app, Nat.reduceEqDiff, Int.reduceEq, eq_self, false_and, true_and, and_false, and_true, if_false, if_true, ↓reduceIte]); rw [g 174 (by decide) (by decide) (by decide) (by decide) (by decide) (by decide)]
      · (try simp only [xs_fn, upI_app, Nat.reduceEqDiff, Int.reduceEq, eq_self, false_and, true_and, and_false, and_true, if_false, if_true, ↓reduceIte]); rw [g 175 (by decide) (by decide) (by decide) (by decide) (by decide) (by decide)]
      · (try simp only [xs_fn, upI_app, Nat.reduceEqDiff, Int.reduceEq, eq_self, false_and, true_and, and_false, and_true, if_false, if_true, ↓reduceIte]); rw [g 176 (by decide) (by decide) (by decide) (by decide) (by decide) (by decide)]
  · refine yZ_of rfl rfl rfl (by omega) (yk_265_0 (by omega) ⟨r1, r2, by omega, fun c2 => by omega, fun c2 => ?_⟩)
    exact ⟨hP, hT, hW, hL, hS, (iU_c hU (by repeat' (first | exact Fz_refl | refine Fz_xs ?_ (by decide))) rfl rfl rfl rfl rfl), (iK_c hK (by repeat' (first | exact Fz_refl | refine Fz_xs ?_ (by decide))) rfl rfl rfl rfl), hR, hQ, hV, hH, hG⟩
theorem op_undo (hI : Inv R b d e) : Op R b b L 127 233 [] d e := by
  have hI0 := hI
  obtain ⟨hP, hT, hW, hL, hS, hU, hK, hR, hQ, hV, hH, hG⟩ := hI
  have p1 := hP.1
  obtain ⟨u1, u2, u3, u4⟩ := hU
  refine yC_of rfl rfl rfl (by omega) (yk_127_0 ?_)
  refine yZ_of rfl rfl rfl (by omega) (yk_18_11_0 ⟨by omega, fun c => ⟨by omega, by omega, ?_⟩, fun c => ?_⟩)
  · refine sc_50 rfl (xp_S27 (by omega)) (by omega) (by omega) (fun d1 e1 x => ?_)
    have z : ∀ p, ¬ p = 23 → (p < 11 ∨ 15 < p) → d1 p = d p := fun p h1 h2 => by
      rw [x.1 p (by omega)]
      funext i
      rw [xs_np h1, xs_np h1]
    have z146 := z 146 (by decide) (by decide)
    have z23 : d1 23 4 = d 23 4 - 1 := by rw [x.1 23 (by decide)]; (try simp only [xs_fn, upI_app, Nat.reduceEqDiff, Int.reduceEq, eq_self, false_and, true_and, and_false, and_true, if_false, if_true, ↓reduceIte])
    have z23b : d1 23 3 = (d 23 3 + 12 - 1) % 12 := by rw [x.1 23 (by decide)]; (try simp only [xs_fn, upI_app, Nat.reduceEqDiff, Int.reduceEq, eq_self, false_and, true_and, and_false, and_true, if_false, if_true, ↓reduceIte])
    have o := u4 0 (by omega) (by omega)
    rw [show (d 23 3 + 11 - 0) % 12 = (d 23 3 + 12 - 1) % 12 by omega] at o
    have o2 := x.2.2.2 b _ _ p1 (iSs_c (by omega) (Fz_xs (Fz_xs Fz_refl (by decide)) (by decide)) rfl o)
    refine yC_of rfl rfl rfl (by omega) (yk_233_0 ?_)
    rw [z146]
    refine ⟨by omega, fun c2 => ?_, fun c2 => by omega⟩
    have hl := lp_up (n := 353) (X := fun i => yB (150 - 1) xm_c233 (yQi L (fun r2 d2 e2 => d1 23 4 = r2 ∧ Inv R b d2 e2)) L 16 [.ref 146, .int (xJ i)] [] (xwr (xs (xs d1 146 8 0) 146 31 (d 146 31 - 1)) 147 i (fun j => d 158 (353 * (d 146 31 - 1) + j))) e1) (by omega) ?_ ?_
    · rw [xwr_0] at hl; exact hl
    · intro i h1 h2 ih
      have w1 : xwr (xs (xs d1 146 8 0) 146 31 (d 146 31 - 1)) 147 i (fun j => d 158 (353 * (d 146 31 - 1) + j)) 146 31 = d 146 31 - 1 := by rw [xwr_fn (by decide), xs_eq]
      have w2 : xwr (xs (xs d1 146 8 0) 146 31 (d 146 31 - 1)) 147 i (fun j => d 158 (353 * (d 146 31 - 1) + j)) 158 = d 158 := by rw [xwr_fn (by decide)]; (try simp only [xs_fn, upI_app, Nat.reduceEqDiff, Int.reduceEq, eq_self, false_and, true_and, and_false, and_true, if_false, if_true, ↓reduceIte]); exact z 158 (by decide) (by decide)
      refine yk_233_16 ⟨by omega, fun c => by omega, fun c => ?_⟩
      rw [w1, w2]
      rw [← xwr_s h1] at ih
      exact ⟨by omega, by omega, ih⟩
    · refine yk_233_16 ⟨by omega, fun c => ⟨?_, ?_⟩, fun c => by omega⟩
      · rw [xwr_fn (by decide), xs_eq]; omega
      · have w : ∀ p, ¬ p = 146 → ¬ p = 147 → xwr (xs (xs d1 146 8 0) 146 31 (d 146 31 - 1)) 147 353 (fun j => d 158 (353 * (d 146 31 - 1) + j)) p = d1 p := fun p h1 h2 => by
          rw [xwr_fn h2, xs_fn, if_neg h1, xs_fn, if_neg h1]
        have f1 : Fk sa d d1 := fun p i q => by
          have c1 : ¬ p = 23 := fun c => by subst c; exact absurd (show true = false from q) (by decide)
          have c2 : ¬ (11 ≤ p ∧ p ≤ 15) := fun c => by
            have : sa p i = true := by simp [sa, c.1, show p ≤ 16 by omega]
            rw [this] at q
            exact absurd q (by decide)
          rw [z p c1 (by omega)]
        refine Inv_st hI0 (Fk_wr (Fk_xs (Fk_xs f1 rfl) rfl) (fun _ => rfl)) ?_ ?_ ?_ ?_
        · refine iW_fk hW ?_ ?_ ?_ ?_
          · rw [w 4 (by decide) (by decide), z 4 (by decide) (by decide)]
          · rw [xwr_fn (by decide)]; (try simp only [xs_fn, upI_app, Nat.reduceEqDiff, Int.reduceEq, eq_self, false_and, true_and, and_false, and_true, if_false, if_true, ↓reduceIte]); rw [z146]
          · rw [w 5 (by decide) (by decide), z 5 (by decide) (by decide)]
          · rw [w 151 (by decide) (by decide), z 151 (by decide) (by decide)]
        · unfold iS
          rw [w 6 (by decide) (by decide), w 12 (by decide) (by decide), w 13 (by decide) (by decide), w 14 (by decide) (by decide), w 15 (by decide) (by decide), w 11 (by decide) (by decide), z 6 (by decide) (by decide)]
          refine iSt_congr p1 o2 (fun _ _ _ => rfl) (fun _ _ _ => rfl) (fun _ _ _ => rfl) (fun _ _ _ => rfl) rfl (fun _ _ => rfl) (fun i a c => ?_)
          rw [xwr_at ⟨a, c⟩]
          show _ = d 158 _
          congr 1; omega
        · unfold iU
          rw [w 23 (by decide) (by decide), w 6 (by decide) (by decide), w 158 (by decide) (by decide), z 6 (by decide) (by decide), z 158 (by decide) (by decide), z23, z23b]
          refine ⟨by omega, by omega, ?_, fun k h1 h2 => ?_⟩
          · rw [xwr_fn (by decide), xs_eq]; omega
          · have o := u4 (k + 1) (by omega) (by omega)
            rw [show ((d 23 3 + 12 - 1) % 12 + 11 - k) % 12 = (d 23 3 + 11 - (k + 1)) % 12 by omega, show d 23 4 - 1 - 1 - k = d 23 4 - 1 - (k + 1) by omega]
            refine iSs_e (iSs_c (by omega) (fun p a c => ?_) rfl o) (x.2.1 _ (by omega))
            rw [w p (by omega) (by omega), z p (by omega) (by omega)]
        · refine iK_z (Int.le_refl _) hK (fun p h1 h2 => ?_) (fun p h1 h2 => x.2.1 p (by omega)) ?_ ?_ ?_ ?_
          · rw [w p (by omega) (by omega), z p (by omega) (by omega)]
          · rw [w 26 (by decide) (by decide), z 26 (by decide) (by decide)]
          · rw [w 174 (by decide) (by decide), z 174 (by decide) (by decide)]
          · rw [w 175 (by decide) (by decide), z 175 (by decide) (by decide)]
          · rw [w 176 (by decide) (by decide), z 176 (by decide) (by decide)]
  · refine yC_of rfl rfl rfl (by omega) (yk_233_0 ⟨by omega, fun c2 => by omega, fun c2 => ⟨rfl, ?_⟩⟩)
    have hU : iU b d e := ⟨u1, u2, u3, u4⟩
    exact ⟨hP, hT, hW, hL, hS, (iU_c hU (by repeat' (first | exact Fz_refl | refine Fz_xs ?_ (by decide))) rfl rfl rfl rfl rfl), (iK_c hK (by repeat' (first | exact Fz_refl | refine Fz_xs ?_ (by decide))) rfl rfl rfl rfl), hR, hQ, hV, hH, hG⟩
theorem op_keep {a1 : Int} (r1 : yR a1) (hI : Inv R b d e) : Oz R b b L 166 284 [.int (xJ a1)] d e := by
  have hI0 := hI
  obtain ⟨hP, hT, hW, hL, hS, hU, hK, hR, hQ, hV, hH, hG⟩ := hI
  have p1 := hP.1
  have p2 := hP.2.1
  have f0 : ¬ (0 ≤ a1 ∧ a1 < 2) → yZ 150 284 L [.ref 146, .int (xJ a1)] d e (fun _ _ => False) (fun d2 e2 => Inv R b d2 e2) := fun c => by
    refine yZ_of rfl rfl rfl (by omega) (yk_284_0 (by omega) ⟨r1, fun c2 => by omega, fun c2 => ?_⟩)
    exact ⟨hP, hT, hW, hL, hS, (iU_c hU (by repeat' (first | exact Fz_refl | refine Fz_xs ?_ (by decide))) rfl rfl rfl rfl rfl), (iK_c hK (by repeat' (first | exact Fz_refl | refine Fz_xs ?_ (by decide))) rfl rfl rfl rfl), hR, hQ, hV, hH, hG⟩
  refine yZ_of rfl rfl rfl (by omega) (yk_166_0 ⟨r1, fun c => f0 (by omega), fun c => ⟨fun c2 => ⟨by omega, ?_⟩, fun c2 => f0 (by omega)⟩⟩)
  refine sc_50 (xp_S99 (by omega)) rfl (by omega) (by omega) (fun d1 e1 x => ?_)
  have z : ∀ p, (p < 99 + 6 * a1.toNat ∨ 103 + 6 * a1.toNat < p) → d1 p = d p := fun p h => x.1 p (by omega)
  have z146 := z 146 (by omega)
  rw [z 6 (by omega)]
  refine yZ_of rfl rfl rfl (by omega) (yk_284_0 (by omega) ⟨r1, fun c2 => ⟨by omega, ?_⟩, fun c2 => by omega⟩)
  refine sc_225_147_174 (by omega) (by omega) ?_
  (try simp only [xs_fn, upI_app, Nat.reduceEqDiff, Int.reduceEq, eq_self, false_and, true_and, and_false, and_true, if_false, if_true, ↓reduceIte])
  rw [z146]
  have w : ∀ p, ¬ p = 26 → ¬ p = 146 → ¬ p = 174 → ¬ p = 175 → ¬ p = 176 → xwo (xs (xs (xs (xs d1 26 a1 (d 6 4)) 146 8 0) 175 a1 1) 176 a1 (d 146 57)) 174 (353 * a1) 353 (d1 147) p = d1 p := fun p h1 h2 h3 h4 h5 => by
    funext i
    rw [xwo_np h3, xs_np h5, xs_np h4, xs_np h2, xs_np h1]
  have k26 : ∀ i, xwo (xs (xs (xs (xs d1 26 a1 (d 6 4)) 146 8 0) 175 a1 1) 176 a1 (d 146 57)) 174 (353 * a1) 353 (d1 147) 26 i = if i = a1 then d 6 4 else d 26 i := fun i => by
    rw [xwo_np (by decide), xs_np (by decide), xs_np (by decide), xs_np (by decide), xs_app, z 26 (by omega)]; simp
  have k175 : ∀ i, xwo (xs (xs (xs (xs d1 26 a1 (d 6 4)) 146 8 0) 175 a1 1) 176 a1 (d 146 57)) 174 (353 * a1) 353 (d1 147) 175 i = if i = a1 then 1 else d 175 i := fun i => by
    rw [xwo_np (by decide), xs_np (by decide), xs_app, xs_np (by decide), xs_np (by decide), z 175 (by omega)]; simp
  have k176 : ∀ i, xwo (xs (xs (xs (xs d1 26 a1 (d 6 4)) 146 8 0) 175 a1 1) 176 a1 (d 146 57)) 174 (353 * a1) 353 (d1 147) 176 i = if i = a1 then d 146 57 else d 176 i := fun i => by
    rw [xwo_np (by decide), xs_app, xs_np (by decide), xs_np (by decide), xs_np (by decide), z 176 (by omega)]; simp
  have k174 : ∀ i, xwo (xs (xs (xs (xs d1 26 a1 (d 6 4)) 146 8 0) 175 a1 1) 176 a1 (d 146 57)) 174 (353 * a1) 353 (d1 147) 174 i = if 353 * a1 ≤ i ∧ i < 353 * a1 + 353 then d 147 (i - 353 * a1) else d 174 i := fun i => by
    unfold xwo
    rw [xs_np (by decide), xs_np (by decide), xs_np (by decide), xs_np (by decide), z 174 (by omega), z 147 (by omega)]; simp
  have m7 : xwo (xs (xs (xs (xs d1 26 a1 (d 6 4)) 146 8 0) 175 a1 1) 176 a1 (d 146 57)) 174 (353 * a1) 353 (d1 147) 146 = upI (d 146) 8 0 := by
    funext i
    rw [xwo_np (by decide), xs_np (by decide), xs_np (by decide), xs_app, xs_np (by decide), z146]; simp [upI]
  generalize hd3 : xwo (xs (xs (xs (xs d1 26 a1 (d 6 4)) 146 8 0) 175 a1 1) 176 a1 (d 146 57)) 174 (353 * a1) 353 (d1 147) = d3 at w k26 k175 k176 k174 m7 ⊢
  have f3 : Fk sa d d3 := fun p i q => by
    by_cases c : (99 ≤ p ∧ p < 111) ∨ p = 26 ∨ p = 174 ∨ p = 175 ∨ p = 176
    · exfalso
      have : sa p i = true := by
        rcases c with c | rfl | rfl | rfl | rfl
        · exact sa_z (by omega) c.2
        all_goals rfl
      rw [this] at q
      exact absurd q (by decide)
    · by_cases c2 : p = 146
      · subst c2
        rw [m7, upI_app, if_neg (fun c3 => by subst c3; exact absurd q (by decide))]
      · rw [w p (by omega) c2 (by omega) (by omega) (by omega), z p (by omega)]
  have c0 : ∀ p, p < 99 → ¬ p = 26 → d3 p = d p := fun p h1 h2 => by rw [w p h2 (by omega) (by omega) (by omega) (by omega), z p (by omega)]
  refine Inv_st hI0 f3 ?_ ?_ ?_ ?_
  · refine iW_fk hW ?_ ?_ ?_ ?_
    · rw [c0 4 (by decide) (by decide)]
    · rw [m7]; rfl
    · rw [c0 5 (by decide) (by decide)]
    · rw [w 151 (by decide) (by decide) (by decide) (by decide) (by decide), z 151 (by omega)]
  · unfold iS
    rw [c0 6 (by decide) (by decide), c0 12 (by decide) (by decide), c0 13 (by decide) (by decide), c0 14 (by decide) (by decide), c0 15 (by decide) (by decide), c0 11 (by decide) (by decide), w 147 (by decide) (by decide) (by decide) (by decide) (by decide), z 147 (by omega), x.2.1 16 (by omega)]
    exact hS
  · unfold iU
    rw [c0 23 (by decide) (by decide), c0 6 (by decide) (by decide), m7, w 158 (by decide) (by decide) (by decide) (by decide) (by decide), z 158 (by omega)]
    refine ⟨hU.1, hU.2.1, hU.2.2.1, fun k h1 h2 => ?_⟩
    have := hU.2.1
    have o := hU.2.2.2 k h1 h2
    unfold iSs at o ⊢
    rw [c0 _ (by omega) (by omega), c0 _ (by omega) (by omega), c0 _ (by omega) (by omega), c0 _ (by omega) (by omega), c0 _ (by omega) (by omega), x.2.1 _ (by omega)]
    exact o
  · intro i h1 h2
    by_cases hi : i = a1
    · subst hi
      refine Or.inr ⟨by rw [k175, if_pos rfl], by rw [k176, k26, if_pos rfl, if_pos rfl]; exact hP.2.2, by rw [k26, if_pos rfl]; exact p1.1, by rw [k26, if_pos rfl]; exact p1.2, ?_⟩
      rw [k26, if_pos rfl]
      have o := x.2.2.2 b _ _ p1 (show iSs b (d 6 4) d e 11 (d 147) from hS)
      unfold iSs at o ⊢
      rw [w _ (by omega) (by omega) (by omega) (by omega) (by omega), w _ (by omega) (by omega) (by omega) (by omega) (by omega), w _ (by omega) (by omega) (by omega) (by omega) (by omega), w _ (by omega) (by omega) (by omega) (by omega) (by omega), w _ (by omega) (by omega) (by omega) (by omega) (by omega)]
      refine iSt_congr p1 o (fun _ _ _ => rfl) (fun _ _ _ => rfl) (fun _ _ _ => rfl) (fun _ _ _ => rfl) rfl (fun _ _ => rfl) (fun j a c => ?_)
      show d3 174 (353 * i + j) = _
      rw [k174, if_pos (by omega)]
      congr 1; omega
    · rcases hK i h1 h2 with q | q
      · refine Or.inl ⟨by rw [k175, if_neg hi]; exact q.1, by rw [k26, if_neg hi]; exact q.2⟩
      · refine Or.inr ⟨by rw [k175, if_neg hi]; exact q.1, by rw [k176, k26, if_neg hi, if_neg hi]; exact q.2.1, by rw [k26, if_neg hi]; exact q.2.2.1, by rw [k26, if_neg hi]; exact q.2.2.2.1, ?_⟩
        rw [k26, if_neg hi]
        have o := q.2.2.2.2
        unfold iSs at o ⊢
        rw [w _ (by omega) (by omega) (by omega) (by omega) (by omega), w _ (by omega) (by omega) (by omega) (by omega) (by omega), w _ (by omega) (by omega) (by omega) (by omega) (by omega), w _ (by omega) (by omega) (by omega) (by omega) (by omega), w _ (by omega) (by omega) (by omega) (by omega) (by omega)]
        rw [z _ (by omega), z _ (by omega), z _ (by omega), z _ (by omega), z _ (by omega), x.2.1 _ (by omega)]
        refine iSt_congr ⟨q.2.2.1, q.2.2.2.1⟩ o (fun _ _ _ => rfl) (fun _ _ _ => rfl) (fun _ _ _ => rfl) (fun _ _ _ => rfl) rfl (fun _ _ => rfl) (fun j a c => ?_)
        show d3 174 (353 * i + j) = _
        rw [k174, if_neg (by omega)]
theorem op_again {a1 : Int} (r1 : yR a1) (hI : Inv R b d e) : Oz R b b L 167 285 [.int (xJ a1)] d e := by
  have hI0 := hI
  obtain ⟨hP, hT, hW, hL, hS, hU, hK, hR, hQ, hV, hH, hG⟩ := hI
  have p1 := hP.1
  have p3 := hP.2.2
  have f0 : ¬ (0 ≤ a1 ∧ a1 < 2 ∧ d 26 a1 = d 6 4) → yZ 150 285 L [.ref 146, .int (xJ a1)] d e (fun _ _ => False) (fun d2 e2 => Inv R b d2 e2) := fun c => by
    refine yZ_of rfl rfl rfl (by omega) (yk_285_0 (by omega) ⟨r1, fun c2 => ⟨by omega, ?_⟩, fun c2 => ?_⟩)
    · rcases hK a1 (by omega) (by omega) with q | q
      · rw [q.1]
        exact ⟨by omega, fun _ => ⟨hP, hT, hW, hL, hS, (iU_c hU (by repeat' (first | exact Fz_refl | refine Fz_xs ?_ (by decide))) rfl rfl rfl rfl rfl), (iK_c hK (by repeat' (first | exact Fz_refl | refine Fz_xs ?_ (by decide))) rfl rfl rfl rfl), hR, hQ, hV, hH, hG⟩, fun c3 => absurd rfl c3⟩
      · refine ⟨by omega, fun c3 => by omega, fun _ => ⟨by omega, by omega, fun c3 => by omega, fun c3 => ⟨hP, hT, hW, hL, hS, (iU_c hU (by repeat' (first | exact Fz_refl | refine Fz_xs ?_ (by decide))) rfl rfl rfl rfl rfl), (iK_c hK (by repeat' (first | exact Fz_refl | refine Fz_xs ?_ (by decide))) rfl rfl rfl rfl), hR, hQ, hV, hH, hG⟩⟩⟩
    · exact ⟨hP, hT, hW, hL, hS, (iU_c hU (by repeat' (first | exact Fz_refl | refine Fz_xs ?_ (by decide))) rfl rfl rfl rfl rfl), (iK_c hK (by repeat' (first | exact Fz_refl | refine Fz_xs ?_ (by decide))) rfl rfl rfl rfl), hR, hQ, hV, hH, hG⟩
  refine yZ_of rfl rfl rfl (by omega) (yk_167_0 (by omega) ⟨r1, fun c => f0 (by omega), fun c => ⟨fun c2 => f0 (by omega), fun c2 => ⟨by omega, ?_⟩⟩⟩)
  have hr : yR (d 26 a1) := by rcases hK a1 (by omega) (by omega) with q | q <;> omega
  refine ⟨hr, by omega, fun c3 => ?_, fun c3 => f0 (by omega)⟩
  rcases hK a1 (by omega) (by omega) with q | q
  · exact absurd q.2 (by omega)
  refine sc_50 rfl (xp_S99 (by omega)) (by omega) (by omega) (fun d1 e1 x => ?_)
  have z : ∀ p, (p < 11 ∨ 15 < p) → d1 p = d p := fun p h => x.1 p (by omega)
  have z146 := z 146 (by decide)
  have z174 := z 174 (by decide)
  have o2 := x.2.2.2 b _ _ p1 (by rw [← c3]; exact q.2.2.2.2)
  refine yZ_of rfl rfl rfl (by omega) (yk_285_0 (by omega) ?_)
  (try simp only [xs_fn, upI_app, Nat.reduceEqDiff, Int.reduceEq, eq_self, false_and, true_and, and_false, and_true, if_false, if_true, ↓reduceIte])
  rw [z146, z 175 (by decide), z 176 (by decide)]
  refine ⟨r1, fun c4 => ⟨by omega, by omega, fun c5 => by omega, fun c5 => ⟨by omega, by omega, fun c6 => ?_, fun c6 => by omega⟩⟩, fun c4 => by omega⟩
  have hl := lp_up (n := 353) (X := fun i => yB (150 - 1) xm_c285 (yQz L (fun d2 e2 => Inv R b d2 e2) (fun _ _ => False)) L 24 [.ref 146, .int (xJ a1), .int (xJ i)] [] (xwr (xs (xs d1 23 4 0) 146 8 0) 147 i (fun j => d 174 (353 * a1 + j))) e1) (by omega) ?_ ?_
  · rw [xwr_0] at hl; exact hl
  · intro i h1 h2 ih
    have w2 : xwr (xs (xs d1 23 4 0) 146 8 0) 147 i (fun j => d 174 (353 * a1 + j)) 174 = d 174 := by rw [xwr_fn (by decide)]; (try simp only [xs_fn, upI_app, Nat.reduceEqDiff, Int.reduceEq, eq_self, false_and, true_and, and_false, and_true, if_false, if_true, ↓reduceIte]); exact z174
    refine yk_285_24 ⟨by omega, fun c => by omega, fun c => ?_⟩
    rw [w2]
    rw [← xwr_s h1] at ih
    exact ⟨by omega, by omega, ih⟩
  · refine yk_285_24 ⟨by omega, fun c => ?_, fun c => by omega⟩
    have w : ∀ p, ¬ p = 23 → ¬ p = 146 → ¬ p = 147 → xs (xwr (xs (xs d1 23 4 0) 146 8 0) 147 353 (fun j => d 174 (353 * a1 + j))) 146 31 0 p = d1 p := fun p h1 h2 h3 => by
      rw [xs_fn, if_neg h2, xwr_fn h3, xs_fn, if_neg h2, xs_fn, if_neg h1]
    have f1 : Fk sa d d1 := fun p i q => by
      have c2 : ¬ (11 ≤ p ∧ p ≤ 15) := fun c => by
        have : sa p i = true := by simp [sa, c.1, show p ≤ 16 by omega]
        rw [this] at q
        exact absurd q (by decide)
      rw [z p (by omega)]
    refine Inv_st hI0 (Fk_xs (Fk_wr (Fk_xs (Fk_xs f1 rfl) rfl) (fun _ => rfl)) rfl) ?_ ?_ ?_ ?_
    · refine iW_fk hW ?_ ?_ ?_ ?_
      · rw [w 4 (by decide) (by decide) (by decide), z 4 (by decide)]
      · (try simp only [xs_fn, upI_app, Nat.reduceEqDiff, Int.reduceEq, eq_self, false_and, true_and, and_false, and_true, if_false, if_true, ↓reduceIte]); rw [xwr_fn (by decide)]; (try simp only [xs_fn, upI_app, Nat.reduceEqDiff, Int.reduceEq, eq_self, false_and, true_and, and_false, and_true, if_false, if_true, ↓reduceIte]); rw [z146]
      · rw [w 5 (by decide) (by decide) (by decide), z 5 (by decide)]
      · rw [w 151 (by decide) (by decide) (by decide), z 151 (by decide)]
    · unfold iS
      rw [w 6 (by decide) (by decide) (by decide), w 12 (by decide) (by decide) (by decide), w 13 (by decide) (by decide) (by decide), w 14 (by decide) (by decide) (by decide), w 15 (by decide) (by decide) (by decide), w 11 (by decide) (by decide) (by decide), z 6 (by decide)]
      refine iSt_congr p1 o2 (fun _ _ _ => rfl) (fun _ _ _ => rfl) (fun _ _ _ => rfl) (fun _ _ _ => rfl) rfl (fun _ _ => rfl) (fun i a c => ?_)
      (try simp only [xs_fn, upI_app, Nat.reduceEqDiff, Int.reduceEq, eq_self, false_and, true_and, and_false, and_true, if_false, if_true, ↓reduceIte])
      rw [xwr_at ⟨a, c⟩]
    · refine ⟨?_, ?_, ?_, fun k h1 h2 => ?_⟩
      · (try simp only [xs_fn, upI_app, Nat.reduceEqDiff, Int.reduceEq, eq_self, false_and, true_and, and_false, and_true, if_false, if_true, ↓reduceIte]); rw [xwr_fn (by decide)]; (try simp only [xs_fn, upI_app, Nat.reduceEqDiff, Int.reduceEq, eq_self, false_and, true_and, and_false, and_true, if_false, if_true, ↓reduceIte]); omega
      · (try simp only [xs_fn, upI_app, Nat.reduceEqDiff, Int.reduceEq, eq_self, false_and, true_and, and_false, and_true, if_false, if_true, ↓reduceIte]); rw [xwr_fn (by decide)]; (try simp only [xs_fn, upI_app, Nat.reduceEqDiff, Int.reduceEq, eq_self, false_and, true_and, and_false, and_true, if_false, if_true, ↓reduceIte]); rw [z 23 (by decide)]; exact hU.2.1
      · (try simp only [xs_fn, upI_app, Nat.reduceEqDiff, Int.reduceEq, eq_self, false_and, true_and, and_false, and_true, if_false, if_true, ↓reduceIte]); rw [xwr_fn (by decide)]; (try simp only [xs_fn, upI_app, Nat.reduceEqDiff, Int.reduceEq, eq_self, false_and, true_and, and_false, and_true, if_false, if_true, ↓reduceIte])
      · exfalso
        revert h2
        (try simp only [xs_fn, upI_app, Nat.reduceEqDiff, Int.reduceEq, eq_self, false_and, true_and, and_false, and_true, if_false, if_true, ↓reduceIte]); rw [xwr_fn (by decide)]; (try simp only [xs_fn, upI_app, Nat.reduceEqDiff, Int.reduceEq, eq_self, false_and, true_and, and_false, and_true, if_false, if_true, ↓reduceIte]); omega
    · refine iK_z (Int.le_refl _) hK (fun p h1 h2 => ?_) (fun p h1 h2 => x.2.1 p (by omega)) ?_ ?_ ?_ ?_
      · rw [w p (by omega) (by omega) (by omega), z p (by omega)]
      · rw [w 26 (by decide) (by decide) (by decide), z 26 (by decide)]
      · rw [w 174 (by decide) (by decide) (by decide), z 174 (by decide)]
      · rw [w 175 (by decide) (by decide) (by decide), z 175 (by decide)]
      · rw [w 176 (by decide) (by decide) (by decide), z 176 (by decide)]
end OP4
