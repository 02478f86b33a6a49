/-! CALLS: trust, likes (the writing), newcomers. -/
/-- cells of a place of which c holds are written -/
def xcw (d : xh_D) (q : Nat) (c : Int → Bool) (v : Int) : xh_D := fun p i => if p = q ∧ c i = true then v else d p i
theorem xcw_0 {d : xh_D} {q : Nat} {c : Int → Bool} {v : Int} (h : ∀ i, c i = false) : xcw d q c v = d := by
  funext p i
  exact if_neg (fun w => by rw [h i] at w; exact absurd w.2 (by decide))
theorem xcw_s {d : xh_D} {q : Nat} {c c' : Int → Bool} {v j : Int} (h : ∀ i, c' i = true ↔ (c i = true ∨ i = j)) : xs (xcw d q c v) q j v = xcw d q c' v := by
  funext p i
  unfold xs xcw
  by_cases h1 : p = q
  · by_cases h2 : i = j
    · rw [if_pos ⟨h1, h2⟩, if_pos ⟨h1, (h i).mpr (Or.inr h2)⟩]
    · rw [if_neg (fun w => h2 w.2)]
      by_cases h3 : c i = true
      · rw [if_pos ⟨h1, h3⟩, if_pos ⟨h1, (h i).mpr (Or.inl h3)⟩]
      · rw [if_neg (fun w => h3 w.2), if_neg (fun w => ((h i).mp w.2).elim h3 h2)]
  · rw [if_neg (fun w => h1 w.1), if_neg (fun w => h1 w.1), if_neg (fun w => h1 w.1)]
theorem xcw_np {d : xh_D} {q p : Nat} {c : Int → Bool} {v i : Int} (h : ¬ p = q) : xcw d q c v p i = d p i := if_neg (fun w => h w.1)
theorem xcw_at {d : xh_D} {q : Nat} {c : Int → Bool} {v i : Int} : xcw d q c v q i = if c i = true then v else d q i := by
  unfold xcw
  simp
section OP7
variable {R : xR} {b : Int} {L D : Nat} {d : xh_D} {e : xd_E} {P : xh_D → xd_E → Prop}
/-- one more has come, in the reference -/
def cmF (d : xh_D) (h s t : Int) (d' : xh_D) : Prop := (∀ p, ¬ p = 146 → ¬ p = 147 → ¬ p = 148 → ¬ p = 149 → d' p = d p) ∧ (∀ i, ¬ i = 1 → ¬ i = 31 → ¬ i = 57 → d' 146 i = d 146 i) ∧ d' 146 1 = d 146 1 + 1 ∧ d' 146 57 = d 146 57 + 1 ∧ d' 146 31 = 0 ∧ (∀ i, d' 147 i = if i = d 146 1 then h else if i = 9 + d 146 1 then s else if i = 18 + d 146 1 then t else if 27 + 6 * d 146 1 ≤ i ∧ i < 33 + 6 * d 146 1 then 0 else if 83 ≤ i ∧ i < 353 ∧ (i - 83) % 9 = d 146 1 then 11 else d 147 i) ∧ (∀ i, d' 148 i = if (9 * d 146 1 ≤ i ∧ i < 9 * d 146 1 + 9) ∨ (0 ≤ i ∧ i < 81 ∧ i % 9 = d 146 1) then 1 else d 148 i) ∧ (∀ i, d' 149 i = if 9 * d 146 1 ≤ i ∧ i < 9 * d 146 1 + 9 then 0 else d 149 i)
theorem sc_199 {h s t : Int} (hD : 1 ≤ D) (hn : 0 ≤ d 146 1 ∧ d 146 1 < 9) (hP : ∀ d', cmF d h s t d' → P d' e) : yV D 199 L [.ref 146, .int (xJ h), .int (xJ s), .int (xJ t)] d e P := by
  generalize hnn : d 146 1 = n at hn
  refine yV_of rfl rfl rfl (by omega) (yk_199_0 ?_)
  rw [hnn]
  refine ⟨by omega, by omega, by omega, ?_⟩
  generalize hd1 : xs (xs (xs d 147 n h) 147 (9 + n) s) 147 (18 + n) t = d1
  have hl := lp_up (n := 6) (X := fun i => yB (D - 1) xm_c199 (yQv L P) L 24 [.ref 146, .double 0, .double 0, .double 0, .int (xJ n), .int (xJ i)] [] (xcw d1 147 (fun x => decide (27 + 6 * n ≤ x ∧ x < 27 + 6 * n + i)) 0) e) (by omega) ?_ ?_
  · rw [xcw_0 (fun i => by simp <;> omega)] at hl; exact hl
  · intro i h1 h2 ih
    refine yk_199_24 ⟨by omega, fun c => by omega, fun c => ⟨by omega, ?_⟩⟩
    rw [xcw_s (c' := fun x => decide (27 + 6 * n ≤ x ∧ x < 27 + 6 * n + (i + 1))) (fun x => by simp only [decide_eq_true_eq]; omega)]
    exact ih
  refine yk_199_24 ⟨by omega, fun _ => ?_, fun c => by omega⟩
  generalize hd2 : xcw d1 147 (fun x => decide (27 + 6 * n ≤ x ∧ x < 27 + 6 * n + 6)) 0 = d2
  have hl := lp_up (n := 30) (X := fun i => yB (D - 1) xm_c199 (yQv L P) L 42 [.ref 146, .double 0, .double 0, .double 0, .int (xJ n), .int (xJ i)] [] (xcw d2 147 (fun x => decide (83 ≤ x ∧ x < 83 + 9 * i ∧ (x - 83) % 9 = n)) 11) e) (by omega) ?_ ?_
  · rw [xcw_0 (fun i => by simp <;> omega)] at hl; exact hl
  · intro i h1 h2 ih
    refine yk_199_42 ⟨by omega, fun c => by omega, fun c => ⟨by omega, ?_⟩⟩
    rw [xcw_s (c' := fun x => decide (83 ≤ x ∧ x < 83 + 9 * (i + 1) ∧ (x - 83) % 9 = n)) (fun x => by simp only [decide_eq_true_eq]; omega)]
    exact ih
  refine yk_199_42 ⟨by omega, fun _ => ?_, fun c => by omega⟩
  generalize hd3 : xcw d2 147 (fun x => decide (83 ≤ x ∧ x < 83 + 9 * 30 ∧ (x - 83) % 9 = n)) 11 = d3
  have hl := lp_up (n := 9) (X := fun i => yB (D - 1) xm_c199 (yQv L P) L 60 [.ref 146, .double 0, .double 0, .double 0, .int (xJ n), .int (xJ i)] [] (xcw d3 148 (fun x => decide ((9 * n ≤ x ∧ x < 9 * n + i) ∨ (0 ≤ x ∧ x < 9 * i ∧ x % 9 = n))) 1) e) (by omega) ?_ ?_
  · rw [xcw_0 (fun i => by simp <;> omega)] at hl; exact hl
  · intro i h1 h2 ih
    refine yk_199_60 ⟨by omega, fun c => by omega, fun c => ⟨by omega, by omega, ?_⟩⟩
    rw [xcw_s (c' := fun x => decide ((9 * n ≤ x ∧ x < 9 * n + (i + 1)) ∨ (0 ≤ x ∧ x < 9 * i ∧ x % 9 = n))) (fun x => by simp only [decide_eq_true_eq]; omega), xcw_s (c' := fun x => decide ((9 * n ≤ x ∧ x < 9 * n + (i + 1)) ∨ (0 ≤ x ∧ x < 9 * (i + 1) ∧ x % 9 = n))) (fun x => by simp only [decide_eq_true_eq]; omega)]
    exact ih
  refine yk_199_60 ⟨by omega, fun _ => ?_, fun c => by omega⟩
  generalize hd4 : xcw d3 148 (fun x => decide ((9 * n ≤ x ∧ x < 9 * n + 9) ∨ (0 ≤ x ∧ x < 9 * 9 ∧ x % 9 = n))) 1 = d4
  have hl := lp_up (n := 9) (X := fun i => yB (D - 1) xm_c199 (yQv L P) L 85 [.ref 146, .double 0, .double 0, .double 0, .int (xJ n), .int (xJ i)] [] (xcw d4 149 (fun x => decide (9 * n ≤ x ∧ x < 9 * n + i)) 0) e) (by omega) ?_ ?_
  · rw [xcw_0 (fun i => by simp <;> omega)] at hl; exact hl
  · intro i h1 h2 ih
    refine yk_199_85 ⟨by omega, fun c => by omega, fun c => ⟨by omega, ?_⟩⟩
    rw [xcw_s (c' := fun x => decide (9 * n ≤ x ∧ x < 9 * n + (i + 1))) (fun x => by simp only [decide_eq_true_eq]; omega)]
    exact ih
  refine yk_199_85 ⟨by omega, fun _ => ?_, fun c => by omega⟩
  have m0 : ∀ i, xcw d4 149 (fun x => decide (9 * n ≤ x ∧ x < 9 * n + 9)) 0 146 i = d 146 i := fun i => by
    rw [xcw_np (by decide), ← hd4, xcw_np (by decide), ← hd3, xcw_np (by decide), ← hd2, xcw_np (by decide), ← hd1, xs_np (by decide), xs_np (by decide), xs_np (by decide)]
  rw [m0, m0]
  refine hP _ ⟨fun p h1 h2 h3 h4 => ?_, fun i h1 h2 h3 => ?_, ?_, ?_, ?_, fun i => ?_, fun i => ?_, fun i => ?_⟩
  · funext i
    rw [xs_np h1, xs_np h1, xs_np h1, xcw_np h4, ← hd4, xcw_np h3, ← hd3, xcw_np h2, ← hd2, xcw_np h2, ← hd1, xs_np h2, xs_np h2, xs_np h2]
  · rw [xs_ni h2, xs_ni h3, xs_ni h1, m0]
  · rw [xs_ni (by decide), xs_ni (by decide), xs_eq]
  · rw [xs_ni (by decide), xs_eq]
  · rw [xs_eq]
  · rw [hnn, xs_np (by decide), xs_np (by decide), xs_np (by decide), xcw_np (by decide), ← hd4, xcw_np (by decide), ← hd3, xcw_at, ← hd2, xcw_at, ← hd1, xs_app, xs_app, xs_app]
    simp only [decide_eq_true_eq, true_and]
    by_cases q1 : i = n
    · rw [if_neg (by omega), if_neg (by omega), if_neg (by omega), if_neg (by omega), if_pos q1, if_pos q1]
    · by_cases q2 : i = 9 + n
      · rw [if_neg (by omega), if_neg (by omega), if_neg (by omega), if_pos q2, if_neg q1, if_pos q2]
      · by_cases q3 : i = 18 + n
        · rw [if_neg (by omega), if_neg (by omega), if_pos q3, if_neg q1, if_neg q2, if_pos q3]
        · rw [if_neg q1, if_neg q2, if_neg q3, if_neg q1, if_neg q2, if_neg q3]
          by_cases q4 : 27 + 6 * n ≤ i ∧ i < 33 + 6 * n
          · rw [if_neg (by omega), if_pos (by omega), if_pos q4]
          · rw [if_neg (show ¬ (27 + 6 * n ≤ i ∧ i < 27 + 6 * n + 6) by omega), if_neg q4]
            by_cases q5 : 83 ≤ i ∧ i < 353 ∧ (i - 83) % 9 = n
            · rw [if_pos (by omega), if_pos q5]
            · rw [if_neg (by omega), if_neg q5]
  · rw [hnn, xs_np (by decide), xs_np (by decide), xs_np (by decide), xcw_np (by decide), ← hd4, xcw_at, ← hd3, xcw_np (by decide), ← hd2, xcw_np (by decide), ← hd1, xs_np (by decide), xs_np (by decide), xs_np (by decide)]
    simp only [decide_eq_true_eq]
    by_cases q1 : (9 * n ≤ i ∧ i < 9 * n + 9) ∨ (0 ≤ i ∧ i < 81 ∧ i % 9 = n)
    · rw [if_pos (by omega), if_pos q1]
    · rw [if_neg (by omega), if_neg q1]
  · rw [hnn, xs_np (by decide), xs_np (by decide), xs_np (by decide), xcw_at, ← hd4, xcw_np (by decide), ← hd3, xcw_np (by decide), ← hd2, xcw_np (by decide), ← hd1, xs_np (by decide), xs_np (by decide), xs_np (by decide)]
    simp only [decide_eq_true_eq]
/-- k more have come, in the reference: n before -/
def cmK (d : xh_D) (n k : Int) (h s t : Int → Int) (d' : xh_D) : Prop := (∀ p, ¬ p = 146 → ¬ p = 147 → ¬ p = 148 → ¬ p = 149 → d' p = d p) ∧ (∀ i, ¬ i = 1 → ¬ i = 31 → ¬ i = 57 → d' 146 i = d 146 i) ∧ d' 146 1 = n + k ∧ d' 146 57 = d 146 57 + k ∧ (0 < k → d' 146 31 = 0) ∧ (∀ q, n ≤ q → q < n + k → d' 147 q = h (q - n) ∧ d' 147 (9 + q) = s (q - n) ∧ d' 147 (18 + q) = t (q - n) ∧ (∀ j, 0 ≤ j → j < 6 → d' 147 (27 + 6 * q + j) = 0) ∧ (∀ r, 0 ≤ r → r < 30 → d' 147 (83 + 9 * r + q) = 11)) ∧ (∀ q, 0 ≤ q → q < n → d' 147 q = d 147 q ∧ d' 147 (9 + q) = d 147 (9 + q) ∧ d' 147 (18 + q) = d 147 (18 + q) ∧ (∀ j, 0 ≤ j → j < 6 → d' 147 (27 + 6 * q + j) = d 147 (27 + 6 * q + j)) ∧ (∀ r, 0 ≤ r → r < 30 → d' 147 (83 + 9 * r + q) = d 147 (83 + 9 * r + q))) ∧ d' 147 81 = d 147 81 ∧ d' 147 82 = d 147 82 ∧ (∀ i, 0 ≤ i → i < 81 → (i / 9 < n ∧ i % 9 < n → d' 148 i = d 148 i) ∧ (¬ (i / 9 < n ∧ i % 9 < n) → i / 9 < n + k ∧ i % 9 < n + k → d' 148 i = 1)) ∧ (∀ i, 0 ≤ i → i < 81 → (i / 9 < n → d' 149 i = d 149 i) ∧ (¬ i / 9 < n → i / 9 < n + k → d' 149 i = 0))
theorem cmK_s {d1 d2 : xh_D} {n k : Int} {h s t : Int → Int} (h0 : 0 ≤ n ∧ 0 ≤ k ∧ n + k < 9) (q : cmK d n k h s t d1) (c : cmF d1 (h k) (s k) (t k) d2) : cmK d n (k + 1) h s t d2 := by
  obtain ⟨q1, q2, q3, q4, q5, q6, q7, q8, q9, q10, q11⟩ := q
  obtain ⟨c1, c2, c3, c4, c5, c6, c7, c8⟩ := c
  rw [q3] at c3 c6 c7 c8
  refine ⟨fun p a1 a2 a3 a4 => by rw [c1 p a1 a2 a3 a4, q1 p a1 a2 a3 a4], fun i a1 a2 a3 => by rw [c2 i a1 a2 a3, q2 i a1 a2 a3], by omega, by omega, fun _ => c5, fun x a1 a2 => ?_, fun x a1 a2 => ?_, ?_, ?_, fun i a1 a2 => ?_, fun i a1 a2 => ?_⟩
  · by_cases hx : x = n + k
    · subst hx
      rw [show n + k - n = k by omega]
      refine ⟨by rw [c6, if_pos rfl], by rw [c6, if_neg (by omega), if_pos rfl], by rw [c6, if_neg (by omega), if_neg (by omega), if_pos rfl], fun j b1 b2 => ?_, fun r b1 b2 => ?_⟩
      · rw [c6, if_neg (by omega), if_neg (by omega), if_neg (by omega), if_pos (by omega)]
      · rw [c6, if_neg (by omega), if_neg (by omega), if_neg (by omega), if_neg (by omega), if_pos (by omega)]
    · obtain ⟨e1, e2, e3, e4, e5⟩ := q6 x a1 (by omega)
      refine ⟨?_, ?_, ?_, fun j b1 b2 => ?_, fun r b1 b2 => ?_⟩
      · rw [c6, if_neg (by omega), if_neg (by omega), if_neg (by omega), if_neg (by omega), if_neg (by omega)]; exact e1
      · rw [c6, if_neg (by omega), if_neg (by omega), if_neg (by omega), if_neg (by omega), if_neg (by omega)]; exact e2
      · rw [c6, if_neg (by omega), if_neg (by omega), if_neg (by omega), if_neg (by omega), if_neg (by omega)]; exact e3
      · rw [c6, if_neg (by omega), if_neg (by omega), if_neg (by omega), if_neg (by omega), if_neg (by omega)]; exact e4 j b1 b2
      · rw [c6, if_neg (by omega), if_neg (by omega), if_neg (by omega), if_neg (by omega), if_neg (by omega)]; exact e5 r b1 b2
  · obtain ⟨e1, e2, e3, e4, e5⟩ := q7 x a1 a2
    refine ⟨?_, ?_, ?_, fun j b1 b2 => ?_, fun r b1 b2 => ?_⟩
    · rw [c6, if_neg (by omega), if_neg (by omega), if_neg (by omega), if_neg (by omega), if_neg (by omega)]; exact e1
    · rw [c6, if_neg (by omega), if_neg (by omega), if_neg (by omega), if_neg (by omega), if_neg (by omega)]; exact e2
    · rw [c6, if_neg (by omega), if_neg (by omega), if_neg (by omega), if_neg (by omega), if_neg (by omega)]; exact e3
    · rw [c6, if_neg (by omega), if_neg (by omega), if_neg (by omega), if_neg (by omega), if_neg (by omega)]; exact e4 j b1 b2
    · rw [c6, if_neg (by omega), if_neg (by omega), if_neg (by omega), if_neg (by omega), if_neg (by omega)]; exact e5 r b1 b2
  · rw [c6, if_neg (by omega), if_neg (by omega), if_neg (by omega), if_neg (by omega), if_neg (by omega)]; exact q8
  · rw [c6, if_neg (by omega), if_neg (by omega), if_neg (by omega), if_neg (by omega), if_neg (by omega)]; exact q9
  · refine ⟨fun b1 => ?_, fun b1 b2 => ?_⟩
    · rw [c7, if_neg (by omega)]; exact (q10 i a1 a2).1 b1
    · rw [c7]
      split
      · rfl
      · exact (q10 i a1 a2).2 b1 (by omega)
  · refine ⟨fun b1 => ?_, fun b1 b2 => ?_⟩
    · rw [c8, if_neg (by omega)]; exact (q11 i a1 a2).1 b1
    · rw [c8]
      split
      · rfl
      · exact (q11 i a1 a2).2 b1 (by omega)
/-- what holds behind newcomers; d1 the class's memory, d3 the end -/
theorem Inv_come {d1 d3 : xh_D} {k : Int} {h s t : Int → Int} (hI : Inv R b d e) (hk : 0 ≤ k ∧ d 6 4 + k ≤ 9) (hr : ∀ q, 0 ≤ q → q < k → (0 ≤ h q ∧ h q < 9) ∧ (0 ≤ s q ∧ s q < 9) ∧ 0 ≤ t q ∧ t q < 64) (x0 : ∀ p, ¬ p = 2 → ¬ p = 6 → ¬ p = 12 → ¬ p = 13 → ¬ p = 14 → ¬ p = 23 → ¬ p = 146 → ¬ p = 152 → d1 p = d p) (x2 : iT d1) (x6 : d1 6 4 = d 6 4 + k) (x12 : ∀ q, 0 ≤ q → q < d 6 4 + k → d1 12 q = if q < d 6 4 then d 12 q else h (q - d 6 4)) (x13 : ∀ q, 0 ≤ q → q < d 6 4 + k → d1 13 q = if q < d 6 4 then d 13 q else s (q - d 6 4)) (x14 : ∀ q, 0 ≤ q → q < d 6 4 + k → d1 14 q = if q < d 6 4 then d 14 q else t (q - d 6 4)) (x23 : d1 23 3 = d 23 3 ∧ d1 23 4 = 0) (x146 : ∀ i, sm 146 i = false → ¬ i = 5 → d1 146 i = d 146 i) (hk0 : 0 < k) (m : cmK d1 (d 6 4) k h s t d3) : Inv R b d3 e := by
  have hI0 := hI
  obtain ⟨hP, hT, hW, hL, hS, hU, hK, hR, hQ, hV, hH, hG⟩ := hI
  have p1 := hP.1
  have p2 := hP.2.1
  have p3 := hP.2.2
  obtain ⟨m1, m2, m3, m4, m5, m6, m7, m8, m9, m10, m11⟩ := m
  have y : ∀ p, ¬ p = 2 → ¬ p = 6 → ¬ p = 12 → ¬ p = 13 → ¬ p = 14 → ¬ p = 23 → ¬ p = 146 → ¬ p = 147 → ¬ p = 148 → ¬ p = 149 → ¬ p = 152 → d3 p = d p := fun p h1 h2 h3 h4 h5 h6 h7 h8 h9 h10 h11 => by rw [m1 p h7 h8 h9 h10, x0 p h1 h2 h3 h4 h5 h6 h7 h11]
  have y6 : d3 6 4 = d 6 4 + k := by rw [m1 6 (by decide) (by decide) (by decide) (by decide), x6]
  have c147 := x0 147 (by decide) (by decide) (by decide) (by decide) (by decide) (by decide) (by decide) (by decide)
  have c148 := x0 148 (by decide) (by decide) (by decide) (by decide) (by decide) (by decide) (by decide) (by decide)
  have c149 := x0 149 (by decide) (by decide) (by decide) (by decide) (by decide) (by decide) (by decide) (by decide)
  have y7 := y 7 (by decide) (by decide) (by decide) (by decide) (by decide) (by decide) (by decide) (by decide) (by decide) (by decide) (by decide)
  have y8 := y 8 (by decide) (by decide) (by decide) (by decide) (by decide) (by decide) (by decide) (by decide) (by decide) (by decide) (by decide)
  have y11 := y 11 (by decide) (by decide) (by decide) (by decide) (by decide) (by decide) (by decide) (by decide) (by decide) (by decide) (by decide)
  have y15 := y 15 (by decide) (by decide) (by decide) (by decide) (by decide) (by decide) (by decide) (by decide) (by decide) (by decide) (by decide)
  rw [c147] at m7 m8 m9
  rw [c148] at m10
  rw [c149] at m11
  have n57 : d1 146 57 = d 146 57 := x146 57 rfl (by decide)
  refine ⟨⟨by omega, by omega, by rw [m4, n57, y6, p3]⟩, ?_, ?_, ?_, ?_, ?_, ?_, ?_, ?_, ?_, ?_, ?_⟩
  · unfold iT xt_ok at x2 ⊢
    rw [m1 2 (by decide) (by decide) (by decide) (by decide), m1 3 (by decide) (by decide) (by decide) (by decide), m1 150 (by decide) (by decide) (by decide) (by decide), m2 5 (by decide) (by decide) (by decide)]
    exact x2
  · refine iW_fk hW ?_ ?_ ?_ ?_
    · rw [y 4 (by decide) (by decide) (by decide) (by decide) (by decide) (by decide) (by decide) (by decide) (by decide) (by decide) (by decide)]
    · rw [m2 7 (by decide) (by decide) (by decide), x146 7 rfl (by decide)]
    · exact y 5 (by decide) (by decide) (by decide) (by decide) (by decide) (by decide) (by decide) (by decide) (by decide) (by decide) (by decide)
    · exact y 151 (by decide) (by decide) (by decide) (by decide) (by decide) (by decide) (by decide) (by decide) (by decide) (by decide) (by decide)
  · intro i h1 h2
    rw [y6, y7, y8]
    obtain ⟨l1, l2, l3, l4, l5, l6⟩ := hL i h1 h2
    refine ⟨l1, l2, fun c => ?_, fun c => l4 (by omega), fun c => ?_, fun c => l6 (by omega)⟩
    · by_cases z : i / 9 < d 6 4 ∧ i % 9 < d 6 4
      · rw [(m10 i h1 h2).1 z, l3 z]
      · rw [(m10 i h1 h2).2 z c, l4 z]
    · by_cases z : i / 9 < d 6 4
      · rw [(m11 i h1 h2).1 z, l5 z]
      · rw [(m11 i h1 h2).2 z c, l6 z]
  · unfold iS
    rw [y6, y11, y15, m1 12 (by decide) (by decide) (by decide) (by decide), m1 13 (by decide) (by decide) (by decide) (by decide), m1 14 (by decide) (by decide) (by decide) (by decide)]
    obtain ⟨q1, q2, q3, q4, q5, q6, q7, q8⟩ := hS
    refine ⟨fun i h1 h2 => ?_, fun i j h1 h2 h3 h4 => ?_, q3, fun i h1 h2 => q4 i (by omega) h2, q5, by rw [m8]; exact q6, by rw [m9]; exact q7, fun j i h1 h2 h3 h4 h5 => ?_⟩
    · rw [x12 i h1 h2, x13 i h1 h2, x14 i h1 h2]
      by_cases z : i < d 6 4
      · rw [if_pos z, if_pos z, if_pos z, (m7 i h1 z).1, (m7 i h1 z).2.1, (m7 i h1 z).2.2.1]
        exact q1 i h1 z
      · rw [if_neg z, if_neg z, if_neg z, (m6 i (by omega) h2).1, (m6 i (by omega) h2).2.1, (m6 i (by omega) h2).2.2.1]
        have := hr (i - d 6 4) (by omega) (by omega)
        exact ⟨this.1, this.2.1, this.2.2, rfl, rfl, rfl⟩
    · by_cases z : i < d 6 4
      · rw [(m7 i h1 z).2.2.2.1 j h3 h4]; exact q2 i j h1 z h3 h4
      · rw [(m6 i (by omega) h2).2.2.2.1 j h3 h4, q4 _ (by omega) (by omega)]
    · have o := q8 j i h1 h2 h3 h4 h5
      refine ⟨fun c => ?_, fun c => o.2 (by omega)⟩
      by_cases z : i < d 6 4
      · rw [(m7 i h4 z).2.2.2.2 j h1 h2]; exact o.1 z
      · rw [(m6 i (by omega) c).2.2.2.2 j h1 h2]; exact o.2 (by omega)
  · have u := hU.2.1
    refine ⟨?_, ?_, ?_, fun j h1 h2 => ?_⟩
    · rw [m1 23 (by decide) (by decide) (by decide) (by decide), x23.2]; omega
    · rw [m1 23 (by decide) (by decide) (by decide) (by decide), x23.1]; exact u
    · rw [m1 23 (by decide) (by decide) (by decide) (by decide), x23.2]; exact m5 hk0
    · rw [m1 23 (by decide) (by decide) (by decide) (by decide), x23.2] at h2; omega
  · refine iK_c hK (fun p h1 h2 => y p (by omega) (by omega) (by omega) (by omega) (by omega) (by omega) (by omega) (by omega) (by omega) (by omega) (by omega)) ?_ ?_ ?_ ?_
    · exact y 26 (by decide) (by decide) (by decide) (by decide) (by decide) (by decide) (by decide) (by decide) (by decide) (by decide) (by decide)
    · exact y 174 (by decide) (by decide) (by decide) (by decide) (by decide) (by decide) (by decide) (by decide) (by decide) (by decide) (by decide)
    · exact y 175 (by decide) (by decide) (by decide) (by decide) (by decide) (by decide) (by decide) (by decide) (by decide) (by decide) (by decide)
    · exact y 176 (by decide) (by decide) (by decide) (by decide) (by decide) (by decide) (by decide) (by decide) (by decide) (by decide) (by decide)
  · rw [y 111 (by decide) (by decide) (by decide) (by decide) (by decide) (by decide) (by decide) (by decide) (by decide) (by decide) (by decide), y 112 (by decide) (by decide) (by decide) (by decide) (by decide) (by decide) (by decide) (by decide) (by decide) (by decide) (by decide), y 153 (by decide) (by decide) (by decide) (by decide) (by decide) (by decide) (by decide) (by decide) (by decide) (by decide) (by decide), m2 16 (by decide) (by decide) (by decide), x146 16 rfl (by decide)]
    exact hR
  · unfold iQ at hQ ⊢
    rw [y 127 (by decide) (by decide) (by decide) (by decide) (by decide) (by decide) (by decide) (by decide) (by decide) (by decide) (by decide), y 128 (by decide) (by decide) (by decide) (by decide) (by decide) (by decide) (by decide) (by decide) (by decide) (by decide) (by decide), y 129 (by decide) (by decide) (by decide) (by decide) (by decide) (by decide) (by decide) (by decide) (by decide) (by decide) (by decide), y 163 (by decide) (by decide) (by decide) (by decide) (by decide) (by decide) (by decide) (by decide) (by decide) (by decide) (by decide), m2 38 (by decide) (by decide) (by decide), x146 38 rfl (by decide)]
    exact hQ
  · unfold iV at hV ⊢
    rw [y6, y 136 (by decide) (by decide) (by decide) (by decide) (by decide) (by decide) (by decide) (by decide) (by decide) (by decide) (by decide), y 137 (by decide) (by decide) (by decide) (by decide) (by decide) (by decide) (by decide) (by decide) (by decide) (by decide) (by decide), y 138 (by decide) (by decide) (by decide) (by decide) (by decide) (by decide) (by decide) (by decide) (by decide) (by decide) (by decide), y 139 (by decide) (by decide) (by decide) (by decide) (by decide) (by decide) (by decide) (by decide) (by decide) (by decide) (by decide), y 168 (by decide) (by decide) (by decide) (by decide) (by decide) (by decide) (by decide) (by decide) (by decide) (by decide) (by decide), m2 46 (by decide) (by decide) (by decide), x146 46 rfl (by decide)]
    refine ⟨hV.1, hV.2.1, fun i h1 h2 => ?_⟩
    have := hV.2.2 i h1 h2
    exact ⟨this.1, this.2.1, this.2.2.1, by omega, by omega, this.2.2.2.2.2.1, this.2.2.2.2.2.2⟩
  · unfold iH at hH ⊢
    rw [y6, y 142 (by decide) (by decide) (by decide) (by decide) (by decide) (by decide) (by decide) (by decide) (by decide) (by decide) (by decide), y 143 (by decide) (by decide) (by decide) (by decide) (by decide) (by decide) (by decide) (by decide) (by decide) (by decide) (by decide), y 144 (by decide) (by decide) (by decide) (by decide) (by decide) (by decide) (by decide) (by decide) (by decide) (by decide) (by decide), y 173 (by decide) (by decide) (by decide) (by decide) (by decide) (by decide) (by decide) (by decide) (by decide) (by decide) (by decide), m2 54 (by decide) (by decide) (by decide), x146 54 rfl (by decide)]
    refine ⟨hH.1, hH.2.1, fun i h1 h2 => ?_⟩
    have := hH.2.2 i h1 h2
    exact ⟨this.1, this.2.1, by omega, this.2.2.2⟩
  · unfold iG at hG ⊢
    rw [y 172 (by decide) (by decide) (by decide) (by decide) (by decide) (by decide) (by decide) (by decide) (by decide) (by decide) (by decide), y 156 (by decide) (by decide) (by decide) (by decide) (by decide) (by decide) (by decide) (by decide) (by decide) (by decide) (by decide)]
    exact hG
theorem us_r (v : Int) : 0 ≤ xi_ushr v 16 ∧ xi_ushr v 16 < 65536 := by
  have hn : (xp_ushr (xJ v) (xJ 16)).toBitVec.toNat = (xJ v).toBitVec.toNat >>> 16 := by
    show ((xJ v).toUInt32 >>> ((xJ 16).toUInt32 &&& Int32.toUInt32 31)).toNat = _
    rw [UInt32.toNat_shiftRight]
    have : ((xJ 16).toUInt32 &&& Int32.toUInt32 31).toNat % 32 = 16 := by decide
    rw [this]
    rfl
  have hl := (xJ v).toBitVec.isLt
  rw [Nat.shiftRight_eq_div_pow] at hn
  have h1 : (xp_ushr (xJ v) (xJ 16)).toInt = (((xJ v).toBitVec.toNat / 2 ^ 16 : Nat) : Int) := bt_of hn (by omega)
  show 0 ≤ (xp_ushr (xJ v) (xJ 16)).toInt ∧ (xp_ushr (xJ v) (xJ 16)).toInt < 65536
  rw [h1]
  omega
theorem op_comes {a1 : Int} (r1 : yR a1) (hI : Inv R b d e) : Op R b b L 164 283 [.int (xJ a1)] d e := by
  have hI0 := hI
  obtain ⟨hP, hT, hW, hL, hS, hU, hK, hR, hQ, hV, hH, hG⟩ := hI
  have p1 := hP.1
  have p2 := hP.2.1
  have u1 := us_r (a1 * 1103515245 + 12345)
  have u2 := us_r ((a1 * 1103515245 + 12345) * 1103515245 + 12345)
  have u3 := us_r (((a1 * 1103515245 + 12345) * 1103515245 + 12345) * 1103515245 + 12345)
  refine yC_of rfl rfl rfl (by omega) (yk_164_0 (by omega) ⟨by omega, fun c v2 e2 => ?_, fun c => ?_⟩)
  · subst e2
    refine ⟨by omega, by omega, by omega, by omega, ?_⟩
    refine yC_of rfl rfl rfl (by omega) (yk_283_0 ?_)
    (try simp only [xs_fn, upI_app, Nat.reduceEqDiff, Int.reduceEq, eq_self, false_and, true_and, and_false, and_true, if_false, if_true, ↓reduceIte])
    refine ⟨by omega, fun c2 v3 e3 => ?_, fun c2 => by omega⟩
    subst e3
    refine ⟨by omega, fun v4 e4 => ?_⟩
    subst e4
    refine ⟨by omega, fun v6 e6 => ?_⟩
    subst e6
    refine ⟨by omega, ?_⟩
    refine sc_199 (by omega) (by (try simp only [xs_fn, upI_app, Nat.reduceEqDiff, Int.reduceEq, eq_self, false_and, true_and, and_false, and_true, if_false, if_true, ↓reduceIte]); omega) (fun d3 m => ⟨?_, ?_⟩)
    · rw [m.2.2.1]; (try simp only [xs_fn, upI_app, Nat.reduceEqDiff, Int.reduceEq, eq_self, false_and, true_and, and_false, and_true, if_false, if_true, ↓reduceIte]); omega
    · have hq : cmK (xs (xs (xs (xs (xs (xs d 12 (d 6 4) (xi_ushr (a1 * 1103515245 + 12345) 16 % 9)) 13 (d 6 4) (xi_ushr ((a1 * 1103515245 + 12345) * 1103515245 + 12345) 16 % 9)) 14 (d 6 4) (xi_ushr (((a1 * 1103515245 + 12345) * 1103515245 + 12345) * 1103515245 + 12345) 16 % 64)) 6 4 (d 6 4 + 1)) 23 4 0) 146 8 0) (d 6 4) 0 (fun _ => xi_ushr (a1 * 1103515245 + 12345) 16 % 9) (fun _ => xi_ushr ((a1 * 1103515245 + 12345) * 1103515245 + 12345) 16 % 9) (fun _ => xi_ushr (((a1 * 1103515245 + 12345) * 1103515245 + 12345) * 1103515245 + 12345) 16 % 64) (xs (xs (xs (xs (xs (xs d 12 (d 6 4) (xi_ushr (a1 * 1103515245 + 12345) 16 % 9)) 13 (d 6 4) (xi_ushr ((a1 * 1103515245 + 12345) * 1103515245 + 12345) 16 % 9)) 14 (d 6 4) (xi_ushr (((a1 * 1103515245 + 12345) * 1103515245 + 12345) * 1103515245 + 12345) 16 % 64)) 6 4 (d 6 4 + 1)) 23 4 0) 146 8 0) := by
        refine ⟨fun _ _ _ _ _ => rfl, fun _ _ _ _ => rfl, ?_, by omega, fun c => by omega, fun q _ _ => by omega, fun q _ _ => ⟨rfl, rfl, rfl, fun _ _ _ => rfl, fun _ _ _ => rfl⟩, rfl, rfl, fun i _ _ => ⟨fun _ => rfl, fun _ _ => by omega⟩, fun i _ _ => ⟨fun _ => rfl, fun _ _ => by omega⟩⟩
        (try simp only [xs_fn, upI_app, Nat.reduceEqDiff, Int.reduceEq, eq_self, false_and, true_and, and_false, and_true, if_false, if_true, ↓reduceIte])
        omega
      refine Inv_come (k := 0 + 1) hI0 (by omega) (fun q _ _ => ⟨by omega, by omega, by omega⟩) (fun p h1 h2 h3 h4 h5 h6 h7 h8 => ?_) ?_ ?_ (fun q a c => ?_) (fun q a c => ?_) (fun q a c => ?_) ⟨?_, ?_⟩ (fun i h1 h2 => ?_) (by omega) (cmK_s (by omega) hq m)
      · funext i
        rw [xs_np h7, xs_np h6, xs_np h2, xs_np h5, xs_np h4, xs_np h3]
      · exact hT
      · (try simp only [xs_fn, upI_app, Nat.reduceEqDiff, Int.reduceEq, eq_self, false_and, true_and, and_false, and_true, if_false, if_true, ↓reduceIte]); omega
      · (try simp only [xs_fn, upI_app, Nat.reduceEqDiff, Int.reduceEq, eq_self, false_and, true_and, and_false, and_true, if_false, if_true, ↓reduceIte])
        by_cases z : q = d 6 4
        · rw [if_pos z, if_neg (by omega)]
        · rw [if_neg z, if_pos (by omega)]
      · (try simp only [xs_fn, upI_app, Nat.reduceEqDiff, Int.reduceEq, eq_self, false_and, true_and, and_false, and_true, if_false, if_true, ↓reduceIte])
        by_cases z : q = d 6 4
        · rw [if_pos z, if_neg (by omega)]
        · rw [if_neg z, if_pos (by omega)]
      · (try simp only [xs_fn, upI_app, Nat.reduceEqDiff, Int.reduceEq, eq_self, false_and, true_and, and_false, and_true, if_false, if_true, ↓reduceIte])
        by_cases z : q = d 6 4
        · rw [if_pos z, if_neg (by omega)]
        · rw [if_neg z, if_pos (by omega)]
      · (try simp only [xs_fn, upI_app, Nat.reduceEqDiff, Int.reduceEq, eq_self, false_and, true_and, and_false, and_true, if_false, if_true, ↓reduceIte])
      · (try simp only [xs_fn, upI_app, Nat.reduceEqDiff, Int.reduceEq, eq_self, false_and, true_and, and_false, and_true, if_false, if_true, ↓reduceIte])
      · (try simp only [xs_fn, upI_app, Nat.reduceEqDiff, Int.reduceEq, eq_self, false_and, true_and, and_false, and_true, if_false, if_true, ↓reduceIte])
        rw [if_neg (fun c => by subst c; exact absurd h1 (by decide))]
  · refine yC_of rfl rfl rfl (by omega) (yk_283_0 ⟨by omega, fun c2 => by omega, fun c2 => ⟨rfl, ?_⟩⟩)
    exact ⟨hP, hT, hW, hL, hS, (iU_c hU (by repeat' (first | exact Fz_refl | refine Fz_xs ?_ (by decide))) rfl rfl rfl rfl rfl), (iK_c hK (by repeat' (first | exact Fz_refl | refine Fz_xs ?_ (by decide))) rfl rfl rfl rfl), hR, hQ, hV, hH, hG⟩
end OP7
