/-! CALLS, the first ones. -/
section OP1
variable {R : xR} {b : Int} {L : Nat} {d : xh_D} {e : xd_E}
theorem op_done (hI : Inv R b d e) : Op R b b L 133 240 [] d e := by
  obtain ⟨hP, hT, hW, hL, hS, hU, hK, hR, hQ, hV, hH, hG⟩ := hI
  obtain ⟨q1, q2, q3⟩ := hQ
  refine yC_of rfl rfl rfl (by omega) (yk_133_0 ⟨by omega, fun c => ?_, fun c => ?_⟩)
  · refine yC_of rfl rfl rfl (by omega) (yk_240_0 ?_)
    show (-2147483648 ≤ d 146 38 ∧ d 146 38 < 2147483648) ∧ (¬ d 146 38 = 0 → _) ∧ (d 146 38 = 0 → _)
    refine ⟨by omega, fun c2 => ⟨?_, hP, hT, hW, hL, hS, (iU_c hU (by repeat' (first | exact Fz_refl | refine Fz_xs ?_ (by decide))) rfl rfl rfl rfl rfl), (iK_c hK (by repeat' (first | exact Fz_refl | refine Fz_xs ?_ (by decide))) rfl rfl rfl rfl), hR, ?_, hV, hH, hG⟩, fun c2 => by omega⟩
    · show d 127 8 - 1 = d 146 38 - 1; omega
    · refine ⟨?_, ?_, ?_⟩
      · show 0 ≤ d 127 8 - 1 ∧ d 127 8 - 1 ≤ 6; omega
      · show d 146 38 - 1 = d 127 8 - 1; omega
      · intro i h1 h2
        exact q3 i h1 (by have : i < d 127 8 - 1 := h2; omega)
  · refine yC_of rfl rfl rfl (by omega) (yk_240_0 ⟨by omega, fun c2 => by omega, fun c2 => ?_⟩)
    exact ⟨rfl, hP, hT, hW, hL, hS, (iU_c hU (by repeat' (first | exact Fz_refl | refine Fz_xs ?_ (by decide))) rfl rfl rfl rfl rfl), (iK_c hK (by repeat' (first | exact Fz_refl | refine Fz_xs ?_ (by decide))) rfl rfl rfl rfl), hR, ⟨q1, q2, q3⟩, hV, hH, hG⟩
end OP1
