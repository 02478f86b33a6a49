/-! CALLS, the first ones. -/
section OP1
variable {R : xR} {b : Int} {L : Nat} {d : xh_D} {e : xd_E}
theorem op_done (hI : Inv R b d e) : Op R b b L 133 240 [] d e := by
  obtain ⟨hP, hT, hW, hL, hS, hU, hK, hR, hQ, hV, hH, hG⟩ := hI
  obtain ⟨q1, q2, q3⟩ := hQ
  refine yC_of rfl rfl rfl (by omega) (yk_133_0 ⟨by omega, fun c => ?_, fun c => ?_⟩)
  · refine yC_of rfl rfl rfl (by omega) (yk_240_0 ?_)
    (try simp only [xs_fn, upI_app, Nat.reduceEqDiff, Int.reduceEq, eq_self, false_and, true_and, and_false, and_true, if_false, if_true, ↓reduceIte])
    refine ⟨by omega, fun c2 => ⟨by omega, hP, hT, hW, hL, hS, (iU_c hU (by repeat' (first | exact Fz_refl | refine Fz_xs ?_ (by decide))) rfl rfl rfl rfl rfl), (iK_c hK (by repeat' (first | exact Fz_refl | refine Fz_xs ?_ (by decide))) rfl rfl rfl rfl), hR, ?_, hV, hH, hG⟩, fun c2 => by omega⟩
    refine ⟨?_, ?_, ?_⟩
    · (try simp only [xs_fn, upI_app, Nat.reduceEqDiff, Int.reduceEq, eq_self, false_and, true_and, and_false, and_true, if_false, if_true, ↓reduceIte]); omega
    · (try simp only [xs_fn, upI_app, Nat.reduceEqDiff, Int.reduceEq, eq_self, false_and, true_and, and_false, and_true, if_false, if_true, ↓reduceIte]); omega
    · intro i h1 h2
      exact q3 i h1 (by have : i < d 127 8 - 1 := h2; omega)
  · refine yC_of rfl rfl rfl (by omega) (yk_240_0 ⟨by omega, fun c2 => by omega, fun c2 => ?_⟩)
    exact ⟨rfl, hP, hT, hW, hL, hS, (iU_c hU (by repeat' (first | exact Fz_refl | refine Fz_xs ?_ (by decide))) rfl rfl rfl rfl rfl), (iK_c hK (by repeat' (first | exact Fz_refl | refine Fz_xs ?_ (by decide))) rfl rfl rfl rfl), hR, ⟨q1, q2, q3⟩, hV, hH, hG⟩
theorem op_task {a1 a2 : Int} (r1 : yR a1) (r2 : yR a2) (hI : Inv R b d e) : Op R b b L 132 239 [.int (xJ a1), .int (xJ a2)] d e := by
  obtain ⟨hP, hT, hW, hL, hS, hU, hK, hR, hQ, hV, hH, hG⟩ := hI
  obtain ⟨q1, q2, q3⟩ := hQ
  refine yC_of rfl rfl rfl (by omega) (yk_132_0 (by omega) ?_)
  repeat' (first | (with_reducible apply And.intro) | (with_reducible intro _))
  all_goals try omega
  all_goals refine yC_of rfl rfl rfl (by omega) (yk_239_0 (by omega) ?_)
  all_goals (try simp only [xs_fn, upI_app, Nat.reduceEqDiff, Int.reduceEq, eq_self, false_and, true_and, and_false, and_true, if_false, if_true, ↓reduceIte])
  all_goals repeat' (first | (with_reducible apply And.intro) | (with_reducible intro _))
  all_goals try omega
  all_goals try exact ⟨hP, hT, hW, hL, hS, (iU_c hU (by repeat' (first | exact Fz_refl | refine Fz_xs ?_ (by decide))) rfl rfl rfl rfl rfl), (iK_c hK (by repeat' (first | exact Fz_refl | refine Fz_xs ?_ (by decide))) rfl rfl rfl rfl), hR, ⟨q1, q2, q3⟩, hV, hH, hG⟩
  refine ⟨hP, hT, hW, hL, hS, (iU_c hU (by repeat' (first | exact Fz_refl | refine Fz_xs ?_ (by decide))) rfl rfl rfl rfl rfl), (iK_c hK (by repeat' (first | exact Fz_refl | refine Fz_xs ?_ (by decide))) rfl rfl rfl rfl), hR, ⟨?_, ?_, ?_⟩, hV, hH, hG⟩
  · (try simp only [xs_fn, upI_app, Nat.reduceEqDiff, Int.reduceEq, eq_self, false_and, true_and, and_false, and_true, if_false, if_true, ↓reduceIte]); omega
  · (try simp only [xs_fn, upI_app, Nat.reduceEqDiff, Int.reduceEq, eq_self, false_and, true_and, and_false, and_true, if_false, if_true, ↓reduceIte]); omega
  · intro i h1 h2
    replace h2 : i < d 127 8 + 1 := h2
    (try simp only [xs_fn, upI_app, Nat.reduceEqDiff, Int.reduceEq, eq_self, false_and, true_and, and_false, and_true, if_false, if_true, ↓reduceIte])
    by_cases hi : i = d 127 8
    · subst hi
      simp [q2, show ¬ 2 * d 127 8 = 2 * d 127 8 + 1 by omega]
      omega
    · have := q3 i h1 (by omega)
      simp [hi, show ¬ 2 * i = 2 * d 146 38 + 1 by omega, show ¬ 2 * i = 2 * d 146 38 by omega, show ¬ 2 * i + 1 = 2 * d 146 38 + 1 by omega, show ¬ 2 * i + 1 = 2 * d 146 38 by omega]
      exact this
theorem op_wish {a1 a2 a3 : Int} (r1 : yR a1) (r2 : yR a2) (r3 : yR a3) (hI : Inv R b d e) : Op R b b L 144 257 [.int (xJ a1), .int (xJ a2), .int (xJ a3)] d e := by
  obtain ⟨hP, hT, hW, hL, hS, hU, hK, hR, hQ, hV, hH, hG⟩ := hI
  obtain ⟨q1, q2, q3⟩ := hV
  have p1 := hP.1
  have p2 := hP.2.1
  refine yC_of rfl rfl rfl (by omega) (yk_144_0 (by omega) ?_)
  repeat' (first | (with_reducible apply And.intro) | (with_reducible intro _))
  all_goals try omega
  all_goals refine yC_of rfl rfl rfl (by omega) (yk_257_0 (by omega) ?_)
  all_goals (try simp only [xs_fn, upI_app, Nat.reduceEqDiff, Int.reduceEq, eq_self, false_and, true_and, and_false, and_true, if_false, if_true, ↓reduceIte])
  all_goals repeat' (first | (with_reducible apply And.intro) | (with_reducible intro _))
  all_goals try omega
  all_goals try exact ⟨hP, hT, hW, hL, hS, (iU_c hU (by repeat' (first | exact Fz_refl | refine Fz_xs ?_ (by decide))) rfl rfl rfl rfl rfl), (iK_c hK (by repeat' (first | exact Fz_refl | refine Fz_xs ?_ (by decide))) rfl rfl rfl rfl), hR, hQ, ⟨q1, q2, q3⟩, hH, hG⟩
  refine ⟨hP, hT, hW, hL, hS, (iU_c hU (by repeat' (first | exact Fz_refl | refine Fz_xs ?_ (by decide))) rfl rfl rfl rfl rfl), (iK_c hK (by repeat' (first | exact Fz_refl | refine Fz_xs ?_ (by decide))) rfl rfl rfl rfl), hR, hQ, ⟨?_, ?_, ?_⟩, hH, hG⟩
  · (try simp only [xs_fn, upI_app, Nat.reduceEqDiff, Int.reduceEq, eq_self, false_and, true_and, and_false, and_true, if_false, if_true, ↓reduceIte]); omega
  · (try simp only [xs_fn, upI_app, Nat.reduceEqDiff, Int.reduceEq, eq_self, false_and, true_and, and_false, and_true, if_false, if_true, ↓reduceIte]); omega
  · intro i h1 h2
    replace h2 : i < d 136 5 + 1 := h2
    (try simp only [xs_fn, upI_app, Nat.reduceEqDiff, Int.reduceEq, eq_self, false_and, true_and, and_false, and_true, if_false, if_true, ↓reduceIte])
    by_cases hi : i = d 136 5
    · subst hi
      simp [q2, show ¬ 3 * d 136 5 = 3 * d 136 5 + 1 by omega, show ¬ 3 * d 136 5 = 3 * d 136 5 + 2 by omega, show ¬ 3 * d 136 5 + 1 = 3 * d 136 5 + 2 by omega]
      omega
    · have := q3 i h1 (by omega)
      simp [hi, show ¬ 3 * i = 3 * d 146 46 + 2 by omega, show ¬ 3 * i = 3 * d 146 46 + 1 by omega, show ¬ 3 * i = 3 * d 146 46 by omega, show ¬ 3 * i + 1 = 3 * d 146 46 + 2 by omega, show ¬ 3 * i + 1 = 3 * d 146 46 + 1 by omega, show ¬ 3 * i + 1 = 3 * d 146 46 by omega, show ¬ 3 * i + 2 = 3 * d 146 46 + 2 by omega, show ¬ 3 * i + 2 = 3 * d 146 46 + 1 by omega, show ¬ 3 * i + 2 = 3 * d 146 46 by omega]
      exact this
theorem op_forget (hI : Inv R b d e) : Op R b b L 145 258 [] d e := by
  obtain ⟨hP, hT, hW, hL, hS, hU, hK, hR, hQ, hV, hH, hG⟩ := hI
  refine yC_of rfl rfl rfl (by omega) (yk_145_0 ?_)
  refine yC_of rfl rfl rfl (by omega) (yk_258_0 ?_)
  refine ⟨hV.2.1.symm, hP, hT, hW, hL, hS, (iU_c hU (by repeat' (first | exact Fz_refl | refine Fz_xs ?_ (by decide))) rfl rfl rfl rfl rfl), (iK_c hK (by repeat' (first | exact Fz_refl | refine Fz_xs ?_ (by decide))) rfl rfl rfl rfl), hR, hQ, ⟨?_, ?_, ?_⟩, hH, hG⟩
  · (try simp only [xs_fn, upI_app, Nat.reduceEqDiff, Int.reduceEq, eq_self, false_and, true_and, and_false, and_true, if_false, if_true, ↓reduceIte]); omega
  · rfl
  · intro i h1 h2
    replace h2 : i < 0 := h2
    omega
theorem op_theft {a1 a2 : Int} (r1 : yR a1) (r2 : yR a2) (hI : Inv R b d e) : Op R b b L 157 275 [.int (xJ a1), .int (xJ a2)] d e := by
  obtain ⟨hP, hT, hW, hL, hS, hU, hK, hR, hQ, hV, hH, hG⟩ := hI
  obtain ⟨q1, q2, q3⟩ := hH
  have p1 := hP.1
  have p2 := hP.2.1
  refine yC_of rfl rfl rfl (by omega) (yk_157_0 (by omega) ?_)
  repeat' (first | (with_reducible apply And.intro) | (with_reducible intro _))
  all_goals try omega
  all_goals refine yC_of rfl rfl rfl (by omega) (yk_275_0 (by omega) ?_)
  all_goals (try simp only [xs_fn, upI_app, Nat.reduceEqDiff, Int.reduceEq, eq_self, false_and, true_and, and_false, and_true, if_false, if_true, ↓reduceIte])
  all_goals repeat' (first | (with_reducible apply And.intro) | (with_reducible intro _))
  all_goals try omega
  all_goals try exact ⟨hP, hT, hW, hL, hS, (iU_c hU (by repeat' (first | exact Fz_refl | refine Fz_xs ?_ (by decide))) rfl rfl rfl rfl rfl), (iK_c hK (by repeat' (first | exact Fz_refl | refine Fz_xs ?_ (by decide))) rfl rfl rfl rfl), hR, hQ, hV, ⟨q1, q2, q3⟩, hG⟩
  refine ⟨hP, hT, hW, hL, hS, (iU_c hU (by repeat' (first | exact Fz_refl | refine Fz_xs ?_ (by decide))) rfl rfl rfl rfl rfl), (iK_c hK (by repeat' (first | exact Fz_refl | refine Fz_xs ?_ (by decide))) rfl rfl rfl rfl), hR, hQ, hV, ⟨?_, ?_, ?_⟩, hG⟩
  · (try simp only [xs_fn, upI_app, Nat.reduceEqDiff, Int.reduceEq, eq_self, false_and, true_and, and_false, and_true, if_false, if_true, ↓reduceIte]); omega
  · (try simp only [xs_fn, upI_app, Nat.reduceEqDiff, Int.reduceEq, eq_self, false_and, true_and, and_false, and_true, if_false, if_true, ↓reduceIte]); omega
  · intro i h1 h2
    replace h2 : i < d 142 3 + 1 := h2
    (try simp only [xs_fn, upI_app, Nat.reduceEqDiff, Int.reduceEq, eq_self, false_and, true_and, and_false, and_true, if_false, if_true, ↓reduceIte])
    by_cases hi : i = d 142 3
    · subst hi
      simp [q2, show ¬ 2 * d 142 3 = 2 * d 142 3 + 1 by omega]
      omega
    · have := q3 i h1 (by omega)
      simp [hi, show ¬ 2 * i = 2 * d 146 54 + 1 by omega, show ¬ 2 * i = 2 * d 146 54 by omega, show ¬ 2 * i + 1 = 2 * d 146 54 + 1 by omega, show ¬ 2 * i + 1 = 2 * d 146 54 by omega]
      exact this
theorem op_pardon (hI : Inv R b d e) : Op R b b L 158 276 [] d e := by
  obtain ⟨hP, hT, hW, hL, hS, hU, hK, hR, hQ, hV, hH, hG⟩ := hI
  refine yC_of rfl rfl rfl (by omega) (yk_158_0 ?_)
  refine yC_of rfl rfl rfl (by omega) (yk_276_0 ?_)
  refine ⟨hH.2.1.symm, hP, hT, hW, hL, hS, (iU_c hU (by repeat' (first | exact Fz_refl | refine Fz_xs ?_ (by decide))) rfl rfl rfl rfl rfl), (iK_c hK (by repeat' (first | exact Fz_refl | refine Fz_xs ?_ (by decide))) rfl rfl rfl rfl), hR, hQ, hV, ⟨?_, ?_, ?_⟩, hG⟩
  · (try simp only [xs_fn, upI_app, Nat.reduceEqDiff, Int.reduceEq, eq_self, false_and, true_and, and_false, and_true, if_false, if_true, ↓reduceIte]); omega
  · rfl
  · intro i h1 h2
    replace h2 : i < 0 := h2
    omega
theorem op_trusts {a1 a2 : Int} (r1 : yR a1) (r2 : yR a2) (hI : Inv R b d e) : Op R b b L 109 212 [.int (xJ a1), .int (xJ a2)] d e := by
  obtain ⟨hP, hT, hW, hL, hS, hU, hK, hR, hQ, hV, hH, hG⟩ := hI
  have p1 := hP.1
  have p2 := hP.2.1
  refine yC_of rfl rfl rfl (by omega) (yk_109_0 (by omega) ?_)
  repeat' (first | (with_reducible apply And.intro) | (with_reducible intro _))
  all_goals try omega
  all_goals refine yC_of rfl rfl rfl (by omega) (yk_212_0 (by omega) ?_)
  all_goals repeat' (first | (with_reducible apply And.intro) | (with_reducible intro _))
  all_goals try omega
  all_goals try exact ⟨hP, hT, hW, hL, hS, (iU_c hU (by repeat' (first | exact Fz_refl | refine Fz_xs ?_ (by decide))) rfl rfl rfl rfl rfl), (iK_c hK (by repeat' (first | exact Fz_refl | refine Fz_xs ?_ (by decide))) rfl rfl rfl rfl), hR, hQ, hV, hH, hG⟩
  have := (hL (a1 * 9 + a2) (by omega) (by omega)).2.2.1 ⟨by omega, by omega⟩
  rw [show 9 * a1 + a2 = a1 * 9 + a2 by omega]
  exact this.symm
theorem op_lessons {a1 a2 : Int} (r1 : yR a1) (r2 : yR a2) (hI : Inv R b d e) : Op R b b L 110 213 [.int (xJ a1), .int (xJ a2)] d e := by
  obtain ⟨hP, hT, hW, hL, hS, hU, hK, hR, hQ, hV, hH, hG⟩ := hI
  have p1 := hP.1
  have p2 := hP.2.1
  refine yC_of rfl rfl rfl (by omega) (yk_110_0 (by omega) ?_)
  repeat' (first | (with_reducible apply And.intro) | (with_reducible intro _))
  all_goals try omega
  all_goals refine yC_of rfl rfl rfl (by omega) (yk_213_0 (by omega) ?_)
  all_goals repeat' (first | (with_reducible apply And.intro) | (with_reducible intro _))
  all_goals try omega
  all_goals try exact ⟨hP, hT, hW, hL, hS, (iU_c hU (by repeat' (first | exact Fz_refl | refine Fz_xs ?_ (by decide))) rfl rfl rfl rfl rfl), (iK_c hK (by repeat' (first | exact Fz_refl | refine Fz_xs ?_ (by decide))) rfl rfl rfl rfl), hR, hQ, hV, hH, hG⟩
  exact (hS.2.1 a1 a2 (by omega) (by omega) (by omega) (by omega)).symm
theorem op_end {a1 : Int} (r1 : yR a1) (hI : Inv R b d e) : Oz R b b L 99 188 [.int (xJ a1)] d e := by
  obtain ⟨hP, hT, hW, hL, hS, hU, hK, hR, hQ, hV, hH, hG⟩ := hI
  have t1 := hT.1.1
  have t2 := hT.2.1
  refine yZ_of rfl rfl rfl (by omega) (yk_99_0 ?_)
  repeat' (first | (with_reducible apply And.intro) | (with_reducible intro _))
  all_goals try omega
  all_goals refine yZ_of rfl rfl rfl (by omega) (yk_188_0 (by omega) ?_)
  all_goals (try simp only [xs_fn, upI_app, Nat.reduceEqDiff, Int.reduceEq, eq_self, false_and, true_and, and_false, and_true, if_false, if_true, ↓reduceIte])
  all_goals repeat' (first | (with_reducible apply And.intro) | (with_reducible intro _))
  all_goals try omega
  all_goals try exact ⟨hP, hT, hW, hL, hS, (iU_c hU (by repeat' (first | exact Fz_refl | refine Fz_xs ?_ (by decide))) rfl rfl rfl rfl rfl), (iK_c hK (by repeat' (first | exact Fz_refl | refine Fz_xs ?_ (by decide))) rfl rfl rfl rfl), hR, hQ, hV, hH, hG⟩
  refine ⟨hP, ⟨⟨?_, ?_⟩, rfl, ?_⟩, hW, hL, hS, (iU_c hU (by repeat' (first | exact Fz_refl | refine Fz_xs ?_ (by decide))) rfl rfl rfl rfl rfl), (iK_c hK (by repeat' (first | exact Fz_refl | refine Fz_xs ?_ (by decide))) rfl rfl rfl rfl), hR, hQ, hV, hH, hG⟩
  · (try simp only [xs_fn, upI_app, Nat.reduceEqDiff, Int.reduceEq, eq_self, false_and, true_and, and_false, and_true, if_false, if_true, ↓reduceIte]); omega
  · intro i h1 h2
    replace h2 : i < a1 := h2
    exact hT.1.2 i h1 (by omega)
  · intro i h1 h2
    replace h2 : i < a1 := h2
    exact hT.2.2 i h1 (by omega)
theorem iS_ent {a1 k : Int} (hS : iS b d e) (h1 : 0 ≤ a1 ∧ a1 < d 6 4) (hn : d 6 4 ≤ 9) (hk : 1 ≤ k ∧ k ≤ 30 ∧ k ≤ d 11 5) : xp_ent (e 16 ((d 11 5 - k) % 30).toNat) a1 = d 147 (83 + 9 * ((d 147 81 - k) % 30) + a1) := by
  have hw := hS.2.2.2.2.1
  have h81 : d 147 81 = d 11 5 := hS.2.2.2.2.2.1
  rw [h81]
  exact (hS.2.2.2.2.2.2.2 ((d 11 5 - k) % 30) a1 (by omega) (by omega) (by omega) (by omega) (by omega)).1 (by omega)
theorem op_led {a1 a2 : Int} (r1 : yR a1) (r2 : yR a2) (hb : b < 2000000000) (hI : Inv R b d e) : Op R b b L 128 235 [.int (xJ a1), .int (xJ a2)] d e := by
  obtain ⟨hP, hT, hW, hL, hS, hU, hK, hR, hQ, hV, hH, hG⟩ := hI
  have p1 := hP.1
  have p2 := hP.2.1
  have hw := hS.2.2.2.2.1
  have h81 : d 147 81 = d 11 5 := hS.2.2.2.2.2.1
  have h82 : d 147 82 = min (d 11 5) 30 := hS.2.2.2.2.2.2.1
  have hr : yR (xp_ent (e 16 ((d 11 5 - a2) % 30).toNat) a1) := xJ_rng _
  refine yC_of rfl rfl rfl (by omega) (yk_128_0 (by omega) ?_)
  repeat' (first | (with_reducible apply And.intro) | (with_reducible intro _))
  all_goals try omega
  all_goals refine yC_of rfl rfl rfl (by omega) (yk_235_0 (by omega) ?_)
  all_goals (try simp only [xs_fn, upI_app, Nat.reduceEqDiff, Int.reduceEq, eq_self, false_and, true_and, and_false, and_true, if_false, if_true, ↓reduceIte])
  all_goals repeat' (first | (with_reducible apply And.intro) | (with_reducible intro _))
  all_goals try omega
  all_goals try exact ⟨hP, hT, hW, hL, hS, (iU_c hU (by repeat' (first | exact Fz_refl | refine Fz_xs ?_ (by decide))) rfl rfl rfl rfl rfl), (iK_c hK (by repeat' (first | exact Fz_refl | refine Fz_xs ?_ (by decide))) rfl rfl rfl rfl), hR, hQ, hV, hH, hG⟩
  all_goals
    refine yC_of rfl rfl rfl (by omega) (yk_234_0 ?_)
    (try simp only [xs_fn, upI_app, Nat.reduceEqDiff, Int.reduceEq, eq_self, false_and, true_and, and_false, and_true, if_false, if_true, ↓reduceIte])
    refine ⟨by omega, by omega, ?_⟩
    rw [← iS_ent hS (by omega) (by omega) (by omega)]
    repeat' (first | (with_reducible apply And.intro) | (with_reducible intro _))
    all_goals try omega
    all_goals exact ⟨hP, hT, hW, hL, hS, (iU_c hU (by repeat' (first | exact Fz_refl | refine Fz_xs ?_ (by decide))) rfl rfl rfl rfl rfl), (iK_c hK (by repeat' (first | exact Fz_refl | refine Fz_xs ?_ (by decide))) rfl rfl rfl rfl), hR, hQ, hV, hH, hG⟩
end OP1
