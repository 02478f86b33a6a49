/-! QUERIES that count or gather. -/
section QRY
variable {D L : Nat} {P : Int → xh_D → xd_E → Prop} {d : xh_D} {e : xd_E}
theorem sq_51 {day n : Int} (hD : 1 ≤ D) (h0 : 0 ≤ day ∧ day < 2147483648) (hn : 0 ≤ n ∧ n ≤ 9) (hh : ∀ p, 0 ≤ p → p < n → 0 ≤ d 12 p ∧ d 12 p < 9) (h : P (bI (fun p => decide (d 12 p = day % 9)) n) d e) : yC D 51 L [.ref 11, .int (xJ day), .int (xJ n)] d e P := by
  refine yC_of rfl rfl rfl (by omega) (yk_51_11_0 ?_)
  refine lp_up (n := n) (X := fun i => yB (D - 1) xm_c51 (yQi L P) L 4 [.ref 11, .int (xJ day), .int (xJ n), .int (xJ (bI (fun p => decide (d 12 p = day % 9)) i)), .int (xJ i)] [] d e) hn.1 ?_ ?_
  · intro i h1 h2 ih
    have := hh i h1 h2
    refine yk_51_11_4 ⟨by omega, by omega, fun c => by omega, fun c => ⟨by omega, by omega, by omega, fun c2 => ?_, fun c2 => ?_⟩⟩
    · rw [bI_f (by omega) (by simp [c2])]; exact ih
    · rw [bI_t (by omega) (by simp [c2])]; exact ih
  · exact yk_51_11_4 ⟨by omega, by omega, fun c => h, fun c => by omega⟩
theorem sq_52 {at' apart n : Int} (hD : 3 ≤ D) (h0 : 0 ≤ at' ∧ at' < 9) (ha : yR apart) (hn : 0 ≤ n ∧ n ≤ 9) (hh : ∀ p, 0 ≤ p → p < n → 0 ≤ d 13 p ∧ d 13 p < 9) (h : P (bI (fun p => decide (xp_apart (d 13 p) at' ≤ apart)) n) d e) : yC D 52 L [.ref 11, .int (xJ at'), .int (xJ apart), .int (xJ n)] d e P := by
  refine yC_of rfl rfl rfl (by omega) (yk_52_11_0 ?_)
  refine lp_up (n := n) (X := fun i => yB (D - 1) xm_c52 (yQi L P) L 4 [.ref 11, .int (xJ at'), .int (xJ apart), .int (xJ n), .int (xJ (bI (fun p => decide (xp_apart (d 13 p) at' ≤ apart)) i)), .int (xJ i)] [] d e) hn.1 ?_ ?_
  · intro i h1 h2 ih
    have := hh i h1 h2
    refine yk_52_11_4 (by omega) ⟨by omega, by omega, fun c => by omega, fun c => ⟨by omega, by omega, by omega, by omega, fun c2 => ?_, fun c2 => ?_⟩⟩
    · rw [bI_f (by omega) (by simp; omega)]; exact ih
    · rw [bI_t (by omega) (by simp; omega)]; exact ih
  · exact yk_52_11_4 (by omega) ⟨by omega, by omega, fun c => h, fun c => by omega⟩
theorem sq_217_147 {day : Int} (hD : 1 ≤ D) (h0 : 0 ≤ day ∧ day < 2147483648) (hn : 0 ≤ d 146 1 ∧ d 146 1 ≤ 9) (hh : ∀ p, 0 ≤ p → p < d 146 1 → 0 ≤ d 147 p ∧ d 147 p < 9) (h : P (bI (fun p => decide (d 147 p = day % 9)) (d 146 1)) d e) : yC D 217 L [.ref 146, .ref 147, .int (xJ day)] d e P := by
  refine yC_of rfl rfl rfl (by omega) (yk_217_147_0 ?_)
  refine lp_up (n := d 146 1) (X := fun i => yB (D - 1) xm_c217 (yQi L P) L 4 [.ref 146, .ref 147, .int (xJ day), .int (xJ (bI (fun p => decide (d 147 p = day % 9)) i)), .int (xJ i)] [] d e) hn.1 ?_ ?_
  · intro i h1 h2 ih
    have := hh i h1 h2
    refine yk_217_147_4 ⟨by omega, by omega, fun c => by omega, fun c => ⟨by omega, by omega, by omega, fun c2 => ?_, fun c2 => ?_⟩⟩
    · rw [bI_f (by omega) (by simp [c2])]; exact ih
    · rw [bI_t (by omega) (by simp [c2])]; exact ih
  · exact yk_217_147_4 ⟨by omega, by omega, fun c => h, fun c => by omega⟩
theorem sq_217_162 {day : Int} (hD : 1 ≤ D) (h0 : 0 ≤ day ∧ day < 2147483648) (hn : 0 ≤ d 146 1 ∧ d 146 1 ≤ 9) (hh : ∀ p, 0 ≤ p → p < d 146 1 → 0 ≤ d 162 p ∧ d 162 p < 9) (h : P (bI (fun p => decide (d 162 p = day % 9)) (d 146 1)) d e) : yC D 217 L [.ref 146, .ref 162, .int (xJ day)] d e P := by
  refine yC_of rfl rfl rfl (by omega) (yk_217_162_0 ?_)
  refine lp_up (n := d 146 1) (X := fun i => yB (D - 1) xm_c217 (yQi L P) L 4 [.ref 146, .ref 162, .int (xJ day), .int (xJ (bI (fun p => decide (d 162 p = day % 9)) i)), .int (xJ i)] [] d e) hn.1 ?_ ?_
  · intro i h1 h2 ih
    have := hh i h1 h2
    refine yk_217_162_4 ⟨by omega, by omega, fun c => by omega, fun c => ⟨by omega, by omega, by omega, fun c2 => ?_, fun c2 => ?_⟩⟩
    · rw [bI_f (by omega) (by simp [c2])]; exact ih
    · rw [bI_t (by omega) (by simp [c2])]; exact ih
  · exact yk_217_162_4 ⟨by omega, by omega, fun c => h, fun c => by omega⟩
/-- wishes that are met by hoods -/
def wm (h o t s : Int → Int) (i : Int) : Bool := decide (h (o i) = h (t i) ↔ s i = 1)
theorem sq_90_12 (hD : 2 ≤ D) (hn : 0 ≤ d 136 5 ∧ d 136 5 ≤ 12) (hh : ∀ i, 0 ≤ i → i < d 136 5 → (0 ≤ d 137 i ∧ d 137 i < 9) ∧ (0 ≤ d 138 i ∧ d 138 i < 9) ∧ (d 139 i = 0 ∨ d 139 i = 1) ∧ yR (d 12 (d 137 i)) ∧ yR (d 12 (d 138 i))) (h : P (bI (wm (d 12) (d 137) (d 138) (d 139)) (d 136 5)) d e) : yC D 90 L [.ref 136, .ref 12] d e P := by
  refine yC_of rfl rfl rfl (by omega) (yk_90_12_0 ?_)
  refine lp_up (n := d 136 5) (X := fun i => yB (D - 1) xm_c90 (yQi L P) L 4 [.ref 136, .ref 12, .int (xJ (bI (wm (d 12) (d 137) (d 138) (d 139)) i)), .int (xJ i)] [] d e) hn.1 ?_ ?_
  · intro i h1 h2 ih
    have := hh i h1 h2
    refine yk_90_12_4 (by omega) ⟨by omega, by omega, fun c => by omega, fun c => ⟨by omega, by omega, by omega, by omega, by omega, by omega, fun c2 => ?_, fun c2 => ?_⟩⟩
    · rw [bI_t (by omega) (by unfold wm; rw [decide_eq_true c2])]; exact ih
    · rw [bI_f (by omega) (by unfold wm; rw [decide_eq_false c2])]; exact ih
  · exact yk_90_12_4 (by omega) ⟨by omega, by omega, fun c => h, fun c => by omega⟩
theorem sq_90_18 (hD : 2 ≤ D) (hn : 0 ≤ d 136 5 ∧ d 136 5 ≤ 12) (hh : ∀ i, 0 ≤ i → i < d 136 5 → (0 ≤ d 137 i ∧ d 137 i < 9) ∧ (0 ≤ d 138 i ∧ d 138 i < 9) ∧ (d 139 i = 0 ∨ d 139 i = 1) ∧ yR (d 18 (d 137 i)) ∧ yR (d 18 (d 138 i))) (h : P (bI (wm (d 18) (d 137) (d 138) (d 139)) (d 136 5)) d e) : yC D 90 L [.ref 136, .ref 18] d e P := by
  refine yC_of rfl rfl rfl (by omega) (yk_90_18_0 ?_)
  refine lp_up (n := d 136 5) (X := fun i => yB (D - 1) xm_c90 (yQi L P) L 4 [.ref 136, .ref 18, .int (xJ (bI (wm (d 18) (d 137) (d 138) (d 139)) i)), .int (xJ i)] [] d e) hn.1 ?_ ?_
  · intro i h1 h2 ih
    have := hh i h1 h2
    refine yk_90_18_4 (by omega) ⟨by omega, by omega, fun c => by omega, fun c => ⟨by omega, by omega, by omega, by omega, by omega, by omega, fun c2 => ?_, fun c2 => ?_⟩⟩
    · rw [bI_t (by omega) (by unfold wm; rw [decide_eq_true c2])]; exact ih
    · rw [bI_f (by omega) (by unfold wm; rw [decide_eq_false c2])]; exact ih
  · exact yk_90_18_4 (by omega) ⟨by omega, by omega, fun c => h, fun c => by omega⟩
theorem sq_259_147 (hD : 1 ≤ D) (hn : 0 ≤ d 146 46 ∧ d 146 46 ≤ 12) (hh : ∀ i, 0 ≤ i → i < d 146 46 → (0 ≤ d 168 (3 * i) ∧ d 168 (3 * i) < 9) ∧ (0 ≤ d 168 (3 * i + 1) ∧ d 168 (3 * i + 1) < 9) ∧ (d 168 (3 * i + 2) = 0 ∨ d 168 (3 * i + 2) = 1) ∧ yR (d 147 (d 168 (3 * i))) ∧ yR (d 147 (d 168 (3 * i + 1)))) (h : P (bI (wm (d 147) (fun i => d 168 (3 * i)) (fun i => d 168 (3 * i + 1)) (fun i => d 168 (3 * i + 2))) (d 146 46)) d e) : yC D 259 L [.ref 146, .ref 147] d e P := by
  refine yC_of rfl rfl rfl (by omega) (yk_259_147_0 ?_)
  refine lp_up (n := d 146 46) (X := fun i => yB (D - 1) xm_c259 (yQi L P) L 4 [.ref 146, .ref 147, .int (xJ (bI (wm (d 147) (fun i => d 168 (3 * i)) (fun i => d 168 (3 * i + 1)) (fun i => d 168 (3 * i + 2))) i)), .int (xJ i)] [] d e) hn.1 ?_ ?_
  · intro i h1 h2 ih
    have := hh i h1 h2
    refine yk_259_147_4 ⟨by omega, by omega, fun c => by omega, fun c => ⟨by omega, by omega, by omega, by omega, by omega, by omega, fun c2 => ⟨by omega, by omega, fun c3 => ?_, fun c3 => ?_⟩, fun c2 => ⟨by omega, by omega, fun c3 => ?_, fun c3 => ?_⟩⟩⟩
    · rw [bI_t (by omega) (by simp only [wm, decide_eq_true_eq]; omega)]; exact ih
    · rw [bI_f (by omega) (by simp only [wm, decide_eq_false_iff_not]; omega)]; exact ih
    · rw [bI_f (by omega) (by simp only [wm, decide_eq_false_iff_not]; omega)]; exact ih
    · rw [bI_t (by omega) (by simp only [wm, decide_eq_true_eq]; omega)]; exact ih
  · exact yk_259_147_4 ⟨by omega, by omega, fun c => h, fun c => by omega⟩
theorem sq_259_164 (hD : 1 ≤ D) (hn : 0 ≤ d 146 46 ∧ d 146 46 ≤ 12) (hh : ∀ i, 0 ≤ i → i < d 146 46 → (0 ≤ d 168 (3 * i) ∧ d 168 (3 * i) < 9) ∧ (0 ≤ d 168 (3 * i + 1) ∧ d 168 (3 * i + 1) < 9) ∧ (d 168 (3 * i + 2) = 0 ∨ d 168 (3 * i + 2) = 1) ∧ yR (d 164 (d 168 (3 * i))) ∧ yR (d 164 (d 168 (3 * i + 1)))) (h : P (bI (wm (d 164) (fun i => d 168 (3 * i)) (fun i => d 168 (3 * i + 1)) (fun i => d 168 (3 * i + 2))) (d 146 46)) d e) : yC D 259 L [.ref 146, .ref 164] d e P := by
  refine yC_of rfl rfl rfl (by omega) (yk_259_164_0 ?_)
  refine lp_up (n := d 146 46) (X := fun i => yB (D - 1) xm_c259 (yQi L P) L 4 [.ref 146, .ref 164, .int (xJ (bI (wm (d 164) (fun i => d 168 (3 * i)) (fun i => d 168 (3 * i + 1)) (fun i => d 168 (3 * i + 2))) i)), .int (xJ i)] [] d e) hn.1 ?_ ?_
  · intro i h1 h2 ih
    have := hh i h1 h2
    refine yk_259_164_4 ⟨by omega, by omega, fun c => by omega, fun c => ⟨by omega, by omega, by omega, by omega, by omega, by omega, fun c2 => ⟨by omega, by omega, fun c3 => ?_, fun c3 => ?_⟩, fun c2 => ⟨by omega, by omega, fun c3 => ?_, fun c3 => ?_⟩⟩⟩
    · rw [bI_t (by omega) (by simp only [wm, decide_eq_true_eq]; omega)]; exact ih
    · rw [bI_f (by omega) (by simp only [wm, decide_eq_false_iff_not]; omega)]; exact ih
    · rw [bI_f (by omega) (by simp only [wm, decide_eq_false_iff_not]; omega)]; exact ih
    · rw [bI_t (by omega) (by simp only [wm, decide_eq_true_eq]; omega)]; exact ih
  · exact yk_259_164_4 ⟨by omega, by omega, fun c => h, fun c => by omega⟩
/-- who is near a street; what a street's witnesses count -/
theorem sq_280 {st day : Int} (hD : 3 ≤ D) (h0 : 0 ≤ day ∧ day < 2147483648) (hs : 0 ≤ st ∧ st < 9) (hn : 0 ≤ d 146 1 ∧ d 146 1 ≤ 9) (hh : ∀ p, 0 ≤ p → p < d 146 1 → (0 ≤ d 147 p ∧ d 147 p < 9) ∧ (0 ≤ d 147 (9 + p) ∧ d 147 (9 + p) < 9)) (h : P (2 * cI (fun p => decide (xp_apart (d 147 (9 + p)) st ≤ 1) && !decide (d 147 p = day % 9)) (d 146 1) + cI (fun p => decide (xp_apart (d 147 (9 + p)) st ≤ 1) && decide (d 147 p = day % 9)) (d 146 1)) (xs (xs d 146 55 (bI (fun p => decide (xp_apart (d 147 (9 + p)) st ≤ 1) && !decide (d 147 p = day % 9)) (d 146 1))) 146 56 (bI (fun p => decide (xp_apart (d 147 (9 + p)) st ≤ 1) && decide (d 147 p = day % 9)) (d 146 1))) e) : yC D 280 L [.ref 146, .int (xJ st), .int (xJ day)] d e P := by
  refine yC_of rfl rfl rfl (by omega) (yk_280_0 ?_)
  refine lp_up (n := d 146 1) (X := fun i => yB (D - 1) xm_c280 (yQi L P) L 8 [.ref 146, .int (xJ st), .int (xJ day), .int (xJ i)] [] (xs (xs d 146 55 (bI (fun p => decide (xp_apart (d 147 (9 + p)) st ≤ 1) && !decide (d 147 p = day % 9)) i)) 146 56 (bI (fun p => decide (xp_apart (d 147 (9 + p)) st ≤ 1) && decide (d 147 p = day % 9)) i)) e) hn.1 ?_ ?_
  · intro i h1 h2 ih
    have := hh i h1 h2
    refine yk_280_8 (by omega) ?_
    (try simp only [xs_fn, upI_app, Nat.reduceEqDiff, Int.reduceEq, eq_self, false_and, true_and, and_false, and_true, if_false, if_true, ↓reduceIte])
    refine ⟨by omega, by omega, fun c => by omega, fun c => ⟨by omega, by omega, by omega, fun c2 => ⟨by omega, by omega, by omega, fun c3 => ?_, fun c3 => ?_⟩, fun c2 => ?_⟩⟩
    · rw [bI_t (by omega) (by simp [c2, c3]), bI_k (f := fun p => decide (xp_apart (d 147 (9 + p)) st ≤ 1) && decide (d 147 p = day % 9)) (by omega) (by simp [c3])]
      rw [show xs (xs (xs d 146 55 _) 146 56 _) 146 55 _ = _ from xs_55 _ _ _ _]
      exact ih
    · rw [bI_t (by omega) (by simp [c2, c3]), bI_k (f := fun p => decide (xp_apart (d 147 (9 + p)) st ≤ 1) && !decide (d 147 p = day % 9)) (by omega) (by simp [c3])]
      rw [xs_xs]
      exact ih
    · rw [bI_k (f := fun p => decide (xp_apart (d 147 (9 + p)) st ≤ 1) && decide (d 147 p = day % 9)) (by omega) (by simp [c2]), bI_k (f := fun p => decide (xp_apart (d 147 (9 + p)) st ≤ 1) && !decide (d 147 p = day % 9)) (by omega) (by simp [c2])]
      exact ih
  · refine yk_280_8 (by omega) ?_
    (try simp only [xs_fn, upI_app, Nat.reduceEqDiff, Int.reduceEq, eq_self, false_and, true_and, and_false, and_true, if_false, if_true, ↓reduceIte])
    refine ⟨by omega, by omega, fun c => ?_, fun c => by omega⟩
    rw [bI_bc (by omega), bI_bc (by omega)]
    exact h
end QRY
