/-! CALLS: trust, likes. -/
section OP8
variable {R : xR} {b : Int} {L D : Nat} {d : xh_D} {e : xd_E} {P : Int → xh_D → xd_E → Prop}
theorem dfR_d {n r r' : Int} (hn : 0 ≤ n) (h : dfR d n r) (h' : dfR d n r') : r = r' := by
  rcases h with q | q | q <;> rcases h' with w | w | w
  · omega
  · exact absurd w.2.2.2 (q.2.1 _ w.1 w.2.1)
  · omega
  · exact absurd q.2.2.2 (w.2.1 _ q.1 q.2.1)
  · by_cases z : r < r'
    · exact absurd q.2.2.2 (w.2.2.1 _ q.1 z)
    · by_cases z2 : r' < r
      · exact absurd w.2.2.2 (q.2.2.1 _ w.1 z2)
      · omega
  · exact absurd q.2.2.2 (w.2.1 _ q.1 q.2.1)
  · omega
  · exact absurd w.2.2.2 (q.2.1 _ w.1 w.2.1)
  · omega
theorem dfR_r {n r : Int} (hn : 0 ≤ n ∧ n ≤ 9) (h : dfR d n r) : -1 ≤ r ∧ r ≤ 9 := by rcases h with q | q | q <;> omega
/-- the text's digits are the reference's -/
theorem dfR_t {n r : Int} (hT : iT d) (h : dfR d n r) (hr : r = -1) {p : Int} (hp : 0 ≤ p ∧ p < n) : p < d 2 1 ∧ xt_dig d p = d 150 p - 48 ∧ 0 ≤ xt_dig d p ∧ xt_dig d p ≤ 9 := by
  have hz : ¬ xt_dig d p = -1 := by
    rcases h with q | q | q
    · exact q.2.1 p hp.1 hp.2
    · omega
    · omega
  have hl : p < d 2 1 := Decidable.byContradiction fun c => hz (xt_dign (by omega))
  have := xt_digm hT ⟨hp.1, hl⟩
  have := xt_dig_r hT.1 p
  omega
/-- a text that is read is empty -/
theorem iT_0 {d' : xh_D} (h1 : d' 2 1 = 0) (h2 : d' 146 5 = 0) : iT d' := ⟨⟨by omega, fun i a c => by omega⟩, by omega, fun i a c => by omega⟩
theorem iL_7 {d3 : xh_D} {a1 : Int} {f : Int → Int} (hL : iL d) (hn : d 6 4 ≤ 9) (ha : 0 ≤ a1 ∧ a1 < d 6 4) (e6 : d3 6 4 = d 6 4) (e8 : d3 8 = d 8) (e9 : d3 149 = d 149) (hf : ∀ p, 0 ≤ p → p < d 6 4 → 0 ≤ f p ∧ f p ≤ 9) (e7 : ∀ i, d3 7 i = if a1 * 9 ≤ i ∧ i < a1 * 9 + d 6 4 then f (i - a1 * 9) else d 7 i) (e148 : ∀ i, d3 148 i = if a1 * 9 ≤ i ∧ i < a1 * 9 + d 6 4 then f (i - a1 * 9) else d 148 i) : iL d3 := by
  intro i h1 h2
  rw [e6, e8, e9, e7, e148]
  obtain ⟨l1, l2, l3, l4, l5, l6⟩ := hL i h1 h2
  by_cases z : a1 * 9 ≤ i ∧ i < a1 * 9 + d 6 4
  · rw [if_pos z, if_pos z]
    exact ⟨hf _ (by omega) (by omega), l2, fun _ => rfl, fun c => by omega, l5, l6⟩
  · rw [if_neg z, if_neg z]
    exact ⟨l1, l2, l3, l4, l5, l6⟩
theorem iL_8 {d3 : xh_D} {a1 : Int} {f : Int → Int} (hL : iL d) (hn : d 6 4 ≤ 9) (ha : 0 ≤ a1 ∧ a1 < d 6 4) (e6 : d3 6 4 = d 6 4) (e7 : d3 7 = d 7) (e148 : d3 148 = d 148) (hf : ∀ p, 0 ≤ p → p < 9 → 0 ≤ f p ∧ f p ≤ 9) (e8 : ∀ i, d3 8 i = if a1 * 9 ≤ i ∧ i < a1 * 9 + 9 then f (i - a1 * 9) else d 8 i) (e149 : ∀ i, d3 149 i = if a1 * 9 ≤ i ∧ i < a1 * 9 + 9 then f (i - a1 * 9) else d 149 i) : iL d3 := by
  intro i h1 h2
  rw [e6, e7, e148, e8, e149]
  obtain ⟨l1, l2, l3, l4, l5, l6⟩ := hL i h1 h2
  by_cases z : a1 * 9 ≤ i ∧ i < a1 * 9 + 9
  · rw [if_pos z, if_pos z]
    exact ⟨l1, hf _ (by omega) (by omega), l3, l4, fun _ => rfl, fun c => by omega⟩
  · rw [if_neg z, if_neg z]
    exact ⟨l1, l2, l3, l4, l5, l6⟩
theorem op_trust {a1 : Int} (r1 : yR a1) (hI : Inv R b d e) : Op R b b L 105 201 [.int (xJ a1)] d e := by
  obtain ⟨hP, hT, hW, hL, hS, hU, hK, hR, hQ, hV, hH, hG⟩ := hI
  have p1 := hP.1
  have p2 := hP.2.1
  have t1 := hT.1.1
  have t2 := hT.2.1
  have iv : ∀ d3 : xh_D, (∀ p, ¬ p = 2 → ¬ p = 7 → ¬ p = 146 → ¬ p = 148 → d3 p = d p) → (∀ i, ¬ i = 5 → ¬ i = 8 → ¬ i = 13 → d3 146 i = d 146 i) → d3 2 1 = 0 → d3 146 5 = 0 → iL d3 → Inv R b d3 e := fun d3 w wm h1 h2 hl => by
    refine ⟨?_, iT_0 h1 h2, ?_, hl, ?_, ?_, ?_, ?_, ?_, ?_, ?_, ?_⟩
    · unfold iP at hP ⊢; rw [w 6 (by decide) (by decide) (by decide) (by decide), wm 1 (by decide) (by decide) (by decide), wm 57 (by decide) (by decide) (by decide)]; exact hP
    · exact iW_fk hW (by rw [w 4 (by decide) (by decide) (by decide) (by decide)]) (wm 7 (by decide) (by decide) (by decide)) (w 5 (by decide) (by decide) (by decide) (by decide)) (w 151 (by decide) (by decide) (by decide) (by decide))
    · unfold iS at hS ⊢; rw [w 6 (by decide) (by decide) (by decide) (by decide), w 12 (by decide) (by decide) (by decide) (by decide), w 13 (by decide) (by decide) (by decide) (by decide), w 14 (by decide) (by decide) (by decide) (by decide), w 15 (by decide) (by decide) (by decide) (by decide), w 11 (by decide) (by decide) (by decide) (by decide), w 147 (by decide) (by decide) (by decide) (by decide)]; exact hS
    · exact iU_c hU (fun p h1 h2 => w p (by omega) (by omega) (by omega) (by omega)) (by rw [w 23 (by decide) (by decide) (by decide) (by decide)]) (by rw [w 23 (by decide) (by decide) (by decide) (by decide)]) (wm 31 (by decide) (by decide) (by decide)) (by rw [w 6 (by decide) (by decide) (by decide) (by decide)]) (w 158 (by decide) (by decide) (by decide) (by decide))
    · exact iK_c hK (fun p h1 h2 => w p (by omega) (by omega) (by omega) (by omega)) (w 26 (by decide) (by decide) (by decide) (by decide)) (w 174 (by decide) (by decide) (by decide) (by decide)) (w 175 (by decide) (by decide) (by decide) (by decide)) (w 176 (by decide) (by decide) (by decide) (by decide))
    · rw [w 111 (by decide) (by decide) (by decide) (by decide), w 112 (by decide) (by decide) (by decide) (by decide), wm 16 (by decide) (by decide) (by decide), w 153 (by decide) (by decide) (by decide) (by decide)]; exact hR
    · unfold iQ at hQ ⊢; rw [w 127 (by decide) (by decide) (by decide) (by decide), wm 38 (by decide) (by decide) (by decide), w 163 (by decide) (by decide) (by decide) (by decide), w 128 (by decide) (by decide) (by decide) (by decide), w 129 (by decide) (by decide) (by decide) (by decide)]; exact hQ
    · unfold iV at hV ⊢; rw [w 136 (by decide) (by decide) (by decide) (by decide), wm 46 (by decide) (by decide) (by decide), w 168 (by decide) (by decide) (by decide) (by decide), w 137 (by decide) (by decide) (by decide) (by decide), w 138 (by decide) (by decide) (by decide) (by decide), w 139 (by decide) (by decide) (by decide) (by decide), w 6 (by decide) (by decide) (by decide) (by decide)]; exact hV
    · unfold iH at hH ⊢; rw [w 142 (by decide) (by decide) (by decide) (by decide), wm 54 (by decide) (by decide) (by decide), w 173 (by decide) (by decide) (by decide) (by decide), w 143 (by decide) (by decide) (by decide) (by decide), w 144 (by decide) (by decide) (by decide) (by decide), w 6 (by decide) (by decide) (by decide) (by decide)]; exact hH
    · unfold iG at hG ⊢; rw [w 172 (by decide) (by decide) (by decide) (by decide), w 156 (by decide) (by decide) (by decide) (by decide)]; exact hG
  have hn : 0 ≤ ((d 6 4) : Int) ∧ ((d 6 4) : Int) ≤ 9 := by omega
  refine yC_of rfl rfl rfl (by omega) (yk_105_0 (by omega) ⟨r1, by omega, fun c => ?_, fun c => ?_⟩)
  · refine sq_78 (by omega) hn hT.1 (fun r hr => ?_)
    have rr := dfR_r hn hr
    -- the reference, the class's memory being dx
    have mm : ∀ (dx : xh_D) (x : Int), (∀ p, ¬ p = 2 → ¬ p = 7 → dx p = d p) → dx 2 1 = 0 → x = (if r = -1 then (d 6 4) else -1 - r) → (∀ i, dx 7 i = if r = -1 ∧ a1 * 9 ≤ i ∧ i < a1 * 9 + (d 6 4) then xt_dig d (i - a1 * 9) else d 7 i) → yC 150 201 L [.ref 146, .int (xJ a1)] dx e (fun r2 d2 e2 => x = r2 ∧ Inv R b d2 e2) := by
      intro dx x w h2 hx h7
      have w146 := w 146 (by decide) (by decide)
      have w150 := w 150 (by decide) (by decide)
      have w5 := w 148 (by decide) (by decide)
      refine yC_of rfl rfl rfl (by omega) (yk_201_0 (by omega) ?_)
      rw [w146]
      refine ⟨r1, by omega, fun c2 => ?_, fun c2 => by omega⟩
      try rw [show d 146 1 = d 6 4 from p2]
      refine sq_200 (by omega) hn hT hr (by (try simp only [xs_fn, upI_app, Nat.reduceEqDiff, Int.reduceEq, eq_self, false_and, true_and, and_false, and_true, if_false, if_true, ↓reduceIte]); rw [w146]; exact t2) (by (try simp only [xs_fn, upI_app, Nat.reduceEqDiff, Int.reduceEq, eq_self, false_and, true_and, and_false, and_true, if_false, if_true, ↓reduceIte]); exact w150) (fun hm => ?_) (fun hm => ?_)
      · have hl := lp_up (n := (d 6 4)) (X := fun i => yB (150 - 1) xm_c201 (yQi L (fun r2 d2 e2 => x = r2 ∧ Inv R b d2 e2)) L 24 [.ref 146, .int (xJ a1), .int (xJ i)] [] (xwo (xs (xs (xs dx 146 8 0) 146 5 0) 146 13 (-1)) 148 (9 * a1) i (xt_dig d)) e) hn.1 ?_ ?_
        · rw [xwo_0] at hl; exact hl
        · intro i h1 h3 ih
          have dt := dfR_t hT hr hm ⟨h1, h3⟩
          have z1 : xwo (xs (xs (xs dx 146 8 0) 146 5 0) 146 13 (-1)) 148 (9 * a1) i (xt_dig d) 146 1 = d 6 4 := by rw [xwo_np (by decide), xs_ni (by decide), xs_ni (by decide), xs_ni (by decide), w146, p2]
          have z2 : xwo (xs (xs (xs dx 146 8 0) 146 5 0) 146 13 (-1)) 148 (9 * a1) i (xt_dig d) 150 = d 150 := by funext j; rw [xwo_np (by decide), xs_np (by decide), xs_np (by decide), xs_np (by decide), w150]
          rw [← xwo_s h1, dt.2.1] at ih
          refine yk_201_24 ?_
          (try rw [z1]); rw [z2]
          first | exact ⟨by omega, by omega, fun c3 => by omega, fun c3 => ⟨by omega, by omega, ih⟩⟩ | exact ⟨by omega, fun c3 => by omega, fun c3 => ⟨by omega, by omega, ih⟩⟩
        · have z1 : xwo (xs (xs (xs dx 146 8 0) 146 5 0) 146 13 (-1)) 148 (9 * a1) (d 6 4) (xt_dig d) 146 1 = d 6 4 := by rw [xwo_np (by decide), xs_ni (by decide), xs_ni (by decide), xs_ni (by decide), w146, p2]
          refine yk_201_24 ?_
          try rw [z1]
          first | refine ⟨by omega, by omega, fun c3 => ⟨by rw [hx, if_pos hm], ?_⟩, fun c3 => by omega⟩ | refine ⟨by omega, fun c3 => ⟨by rw [hx, if_pos hm], ?_⟩, fun c3 => by omega⟩
          refine iv _ (fun p h1 h3 h4 h5 => ?_) (fun i h1 h3 h4 => ?_) ?_ ?_ ?_
          · funext j; rw [xwo_np h5, xs_np h4, xs_np h4, xs_np h4, w p h1 h3]
          · rw [xwo_np (by decide), xs_ni h4, xs_ni h1, xs_ni h3, w146]
          · rw [xwo_np (by decide), xs_np (by decide), xs_np (by decide), xs_np (by decide), h2]
          · rw [xwo_np (by decide), xs_ni (by decide), xs_eq]
          · refine iL_7 (f := xt_dig d) hL p1.2 c ?_ ?_ ?_ (fun p h1 h3 => (dfR_t hT hr hm ⟨h1, h3⟩).2.2) (fun i => ?_) (fun i => ?_)
            · rw [xwo_np (by decide), xs_np (by decide), xs_np (by decide), xs_np (by decide), w 6 (by decide) (by decide)]
            · funext j; rw [xwo_np (by decide), xs_np (by decide), xs_np (by decide), xs_np (by decide), w 8 (by decide) (by decide)]
            · funext j; rw [xwo_np (by decide), xs_np (by decide), xs_np (by decide), xs_np (by decide), w 149 (by decide) (by decide)]
            · rw [xwo_np (by decide), xs_np (by decide), xs_np (by decide), xs_np (by decide), h7]
              simp [hm]
            · unfold xwo
              rw [xs_np (by decide), xs_np (by decide), xs_np (by decide), w5, show 9 * a1 = a1 * 9 by omega]
              simp
      · refine ⟨by rw [xs_eq, hx, if_neg hm], iv _ (fun p h1 h3 h4 h5 => ?_) (fun i h1 h3 h4 => ?_) ?_ ?_ ?_⟩
        · funext j; rw [xs_np h4, xs_np h4, xs_np h4, w p h1 h3]
        · rw [xs_ni h4, xs_ni h1, xs_ni h3, w146]
        · rw [xs_np (by decide), xs_np (by decide), xs_np (by decide), h2]
        · rw [xs_ni (by decide), xs_eq]
        · have : ∀ i, dx 7 i = d 7 i := fun i => by rw [h7, if_neg (fun q => hm q.1)]
          unfold iL at hL ⊢
          (try simp only [xs_fn, upI_app, Nat.reduceEqDiff, Int.reduceEq, eq_self, false_and, true_and, and_false, and_true, if_false, if_true, ↓reduceIte])
          rw [w 6 (by decide) (by decide), show dx 7 = d 7 from funext this, w 8 (by decide) (by decide), w5, w 149 (by decide) (by decide)]
          exact hL
    have key : ∀ x : Int, x = (if r = -1 then (d 6 4) else -1 - r) → yB (150 - 1) xm_c105 (yQi L (fun r1 d1 e1 => yC 150 201 L [.ref 146, .int (xJ a1)] d1 e1 (fun r2 d2 e2 => r1 = r2 ∧ Inv R b d2 e2))) L 27 [.ref 1, .int (xJ a1), .int (xJ x), .double 0, .int (xJ 0)] [] d e := by
      intro x hx
      by_cases hm : r = -1
      · rw [if_pos hm] at hx
        subst hx
        have hl := lp_up (n := (d 6 4)) (X := fun i => yB (150 - 1) xm_c105 (yQi L (fun r1 d1 e1 => yC 150 201 L [.ref 146, .int (xJ a1)] d1 e1 (fun r2 d2 e2 => r1 = r2 ∧ Inv R b d2 e2))) L 27 [.ref 1, .int (xJ a1), .int (xJ (d 6 4)), .double 0, .int (xJ i)] [] (xwo d 7 (a1 * 9) i (xt_dig d)) e) hn.1 ?_ ?_
        · rw [xwo_0] at hl; exact hl
        · intro i h1 h3 ih
          rw [← xwo_s h1] at ih
          refine yk_105_27 (by omega) ⟨by omega, by omega, fun c3 => by omega, fun c3 => ⟨hT.1, by omega, ih⟩⟩
        · refine yk_105_27 (by omega) ⟨by omega, by omega, fun c3 => ?_, fun c3 => by omega⟩
          refine mm _ _ (fun p h1 h3 => ?_) ?_ (by rw [if_pos hm]) (fun i => ?_)
          · funext j; rw [xs_np h1, xwo_np h3]
          · rw [xs_eq]
          · rw [xs_np (by decide)]
            unfold xwo
            simp [hm]
      · rw [if_neg hm] at hx
        refine yk_105_27 (by omega) ⟨by omega, by omega, fun c3 => ?_, fun c3 => by omega⟩
        refine mm _ _ (fun p h1 h3 => ?_) ?_ (by rw [if_neg hm]; exact hx) (fun i => ?_)
        · funext j; rw [xs_np h1]
        · rw [xs_eq]
        · rw [xs_np (by decide), if_neg (fun q => hm q.1)]
    exact ⟨by omega, fun c2 => key _ (by rw [if_neg c2]), fun c2 => key _ (by rw [if_pos c2])⟩
  · refine yC_of rfl rfl rfl (by omega) (yk_201_0 (by omega) ?_)
    (try simp only [xs_fn, upI_app, Nat.reduceEqDiff, Int.reduceEq, eq_self, false_and, true_and, and_false, and_true, if_false, if_true, ↓reduceIte])
    refine ⟨r1, by omega, fun c2 => by omega, fun c2 => ?_⟩
    refine iv _ (fun p h1 h3 h4 h5 => ?_) (fun i h1 h3 h4 => ?_) ?_ ?_ ?_
    · funext j; rw [xs_np h4, xs_np h4, xs_np h1]
    · rw [xs_ni h1, xs_ni h3, xs_np (by decide)]
    · (try simp only [xs_fn, upI_app, Nat.reduceEqDiff, Int.reduceEq, eq_self, false_and, true_and, and_false, and_true, if_false, if_true, ↓reduceIte])
    · (try simp only [xs_fn, upI_app, Nat.reduceEqDiff, Int.reduceEq, eq_self, false_and, true_and, and_false, and_true, if_false, if_true, ↓reduceIte])
    · exact hL
theorem op_likes {a1 : Int} (r1 : yR a1) (hI : Inv R b d e) : Op R b b L 106 202 [.int (xJ a1)] d e := by
  obtain ⟨hP, hT, hW, hL, hS, hU, hK, hR, hQ, hV, hH, hG⟩ := hI
  have p1 := hP.1
  have p2 := hP.2.1
  have t1 := hT.1.1
  have t2 := hT.2.1
  have iv : ∀ d3 : xh_D, (∀ p, ¬ p = 2 → ¬ p = 8 → ¬ p = 146 → ¬ p = 149 → d3 p = d p) → (∀ i, ¬ i = 5 → ¬ i = 8 → ¬ i = 13 → d3 146 i = d 146 i) → d3 2 1 = 0 → d3 146 5 = 0 → iL d3 → Inv R b d3 e := fun d3 w wm h1 h2 hl => by
    refine ⟨?_, iT_0 h1 h2, ?_, hl, ?_, ?_, ?_, ?_, ?_, ?_, ?_, ?_⟩
    · unfold iP at hP ⊢; rw [w 6 (by decide) (by decide) (by decide) (by decide), wm 1 (by decide) (by decide) (by decide), wm 57 (by decide) (by decide) (by decide)]; exact hP
    · exact iW_fk hW (by rw [w 4 (by decide) (by decide) (by decide) (by decide)]) (wm 7 (by decide) (by decide) (by decide)) (w 5 (by decide) (by decide) (by decide) (by decide)) (w 151 (by decide) (by decide) (by decide) (by decide))
    · unfold iS at hS ⊢; rw [w 6 (by decide) (by decide) (by decide) (by decide), w 12 (by decide) (by decide) (by decide) (by decide), w 13 (by decide) (by decide) (by decide) (by decide), w 14 (by decide) (by decide) (by decide) (by decide), w 15 (by decide) (by decide) (by decide) (by decide), w 11 (by decide) (by decide) (by decide) (by decide), w 147 (by decide) (by decide) (by decide) (by decide)]; exact hS
    · exact iU_c hU (fun p h1 h2 => w p (by omega) (by omega) (by omega) (by omega)) (by rw [w 23 (by decide) (by decide) (by decide) (by decide)]) (by rw [w 23 (by decide) (by decide) (by decide) (by decide)]) (wm 31 (by decide) (by decide) (by decide)) (by rw [w 6 (by decide) (by decide) (by decide) (by decide)]) (w 158 (by decide) (by decide) (by decide) (by decide))
    · exact iK_c hK (fun p h1 h2 => w p (by omega) (by omega) (by omega) (by omega)) (w 26 (by decide) (by decide) (by decide) (by decide)) (w 174 (by decide) (by decide) (by decide) (by decide)) (w 175 (by decide) (by decide) (by decide) (by decide)) (w 176 (by decide) (by decide) (by decide) (by decide))
    · rw [w 111 (by decide) (by decide) (by decide) (by decide), w 112 (by decide) (by decide) (by decide) (by decide), wm 16 (by decide) (by decide) (by decide), w 153 (by decide) (by decide) (by decide) (by decide)]; exact hR
    · unfold iQ at hQ ⊢; rw [w 127 (by decide) (by decide) (by decide) (by decide), wm 38 (by decide) (by decide) (by decide), w 163 (by decide) (by decide) (by decide) (by decide), w 128 (by decide) (by decide) (by decide) (by decide), w 129 (by decide) (by decide) (by decide) (by decide)]; exact hQ
    · unfold iV at hV ⊢; rw [w 136 (by decide) (by decide) (by decide) (by decide), wm 46 (by decide) (by decide) (by decide), w 168 (by decide) (by decide) (by decide) (by decide), w 137 (by decide) (by decide) (by decide) (by decide), w 138 (by decide) (by decide) (by decide) (by decide), w 139 (by decide) (by decide) (by decide) (by decide), w 6 (by decide) (by decide) (by decide) (by decide)]; exact hV
    · unfold iH at hH ⊢; rw [w 142 (by decide) (by decide) (by decide) (by decide), wm 54 (by decide) (by decide) (by decide), w 173 (by decide) (by decide) (by decide) (by decide), w 143 (by decide) (by decide) (by decide) (by decide), w 144 (by decide) (by decide) (by decide) (by decide), w 6 (by decide) (by decide) (by decide) (by decide)]; exact hH
    · unfold iG at hG ⊢; rw [w 172 (by decide) (by decide) (by decide) (by decide), w 156 (by decide) (by decide) (by decide) (by decide)]; exact hG
  have hn : 0 ≤ (9 : Int) ∧ (9 : Int) ≤ 9 := by omega
  refine yC_of rfl rfl rfl (by omega) (yk_106_0 (by omega) ⟨r1, by omega, fun c => ?_, fun c => ?_⟩)
  · refine sq_78 (by omega) hn hT.1 (fun r hr => ?_)
    have rr := dfR_r hn hr
    -- the reference, the class's memory being dx
    have mm : ∀ (dx : xh_D) (x : Int), (∀ p, ¬ p = 2 → ¬ p = 8 → dx p = d p) → dx 2 1 = 0 → x = (if r = -1 then 9 else -1 - r) → (∀ i, dx 8 i = if r = -1 ∧ a1 * 9 ≤ i ∧ i < a1 * 9 + 9 then xt_dig d (i - a1 * 9) else d 8 i) → yC 150 202 L [.ref 146, .int (xJ a1)] dx e (fun r2 d2 e2 => x = r2 ∧ Inv R b d2 e2) := by
      intro dx x w h2 hx h7
      have w146 := w 146 (by decide) (by decide)
      have w150 := w 150 (by decide) (by decide)
      have w5 := w 149 (by decide) (by decide)
      refine yC_of rfl rfl rfl (by omega) (yk_202_0 (by omega) ?_)
      rw [w146]
      refine ⟨r1, by omega, fun c2 => ?_, fun c2 => by omega⟩
      try rw [show d 146 1 = d 6 4 from p2]
      refine sq_200 (by omega) hn hT hr (by (try simp only [xs_fn, upI_app, Nat.reduceEqDiff, Int.reduceEq, eq_self, false_and, true_and, and_false, and_true, if_false, if_true, ↓reduceIte]); rw [w146]; exact t2) (by (try simp only [xs_fn, upI_app, Nat.reduceEqDiff, Int.reduceEq, eq_self, false_and, true_and, and_false, and_true, if_false, if_true, ↓reduceIte]); exact w150) (fun hm => ?_) (fun hm => ?_)
      · have hl := lp_up (n := 9) (X := fun i => yB (150 - 1) xm_c202 (yQi L (fun r2 d2 e2 => x = r2 ∧ Inv R b d2 e2)) L 23 [.ref 146, .int (xJ a1), .int (xJ i)] [] (xwo (xs (xs (xs dx 146 8 0) 146 5 0) 146 13 (-1)) 149 (9 * a1) i (xt_dig d)) e) hn.1 ?_ ?_
        · rw [xwo_0] at hl; exact hl
        · intro i h1 h3 ih
          have dt := dfR_t hT hr hm ⟨h1, h3⟩
          have z1 : xwo (xs (xs (xs dx 146 8 0) 146 5 0) 146 13 (-1)) 149 (9 * a1) i (xt_dig d) 146 1 = d 6 4 := by rw [xwo_np (by decide), xs_ni (by decide), xs_ni (by decide), xs_ni (by decide), w146, p2]
          have z2 : xwo (xs (xs (xs dx 146 8 0) 146 5 0) 146 13 (-1)) 149 (9 * a1) i (xt_dig d) 150 = d 150 := by funext j; rw [xwo_np (by decide), xs_np (by decide), xs_np (by decide), xs_np (by decide), w150]
          rw [← xwo_s h1, dt.2.1] at ih
          refine yk_202_23 ?_
          (try rw [z1]); rw [z2]
          first | exact ⟨by omega, by omega, fun c3 => by omega, fun c3 => ⟨by omega, by omega, ih⟩⟩ | exact ⟨by omega, fun c3 => by omega, fun c3 => ⟨by omega, by omega, ih⟩⟩
        · have z1 : xwo (xs (xs (xs dx 146 8 0) 146 5 0) 146 13 (-1)) 149 (9 * a1) 9 (xt_dig d) 146 1 = d 6 4 := by rw [xwo_np (by decide), xs_ni (by decide), xs_ni (by decide), xs_ni (by decide), w146, p2]
          refine yk_202_23 ?_
          try rw [z1]
          first | refine ⟨by omega, by omega, fun c3 => ⟨by rw [hx, if_pos hm], ?_⟩, fun c3 => by omega⟩ | refine ⟨by omega, fun c3 => ⟨by rw [hx, if_pos hm], ?_⟩, fun c3 => by omega⟩
          refine iv _ (fun p h1 h3 h4 h5 => ?_) (fun i h1 h3 h4 => ?_) ?_ ?_ ?_
          · funext j; rw [xwo_np h5, xs_np h4, xs_np h4, xs_np h4, w p h1 h3]
          · rw [xwo_np (by decide), xs_ni h4, xs_ni h1, xs_ni h3, w146]
          · rw [xwo_np (by decide), xs_np (by decide), xs_np (by decide), xs_np (by decide), h2]
          · rw [xwo_np (by decide), xs_ni (by decide), xs_eq]
          · refine iL_8 (f := xt_dig d) hL p1.2 c ?_ ?_ ?_ (fun p h1 h3 => (dfR_t hT hr hm ⟨h1, h3⟩).2.2) (fun i => ?_) (fun i => ?_)
            · rw [xwo_np (by decide), xs_np (by decide), xs_np (by decide), xs_np (by decide), w 6 (by decide) (by decide)]
            · funext j; rw [xwo_np (by decide), xs_np (by decide), xs_np (by decide), xs_np (by decide), w 7 (by decide) (by decide)]
            · funext j; rw [xwo_np (by decide), xs_np (by decide), xs_np (by decide), xs_np (by decide), w 148 (by decide) (by decide)]
            · rw [xwo_np (by decide), xs_np (by decide), xs_np (by decide), xs_np (by decide), h7]
              simp [hm]
            · unfold xwo
              rw [xs_np (by decide), xs_np (by decide), xs_np (by decide), w5, show 9 * a1 = a1 * 9 by omega]
              simp
      · refine ⟨by rw [xs_eq, hx, if_neg hm], iv _ (fun p h1 h3 h4 h5 => ?_) (fun i h1 h3 h4 => ?_) ?_ ?_ ?_⟩
        · funext j; rw [xs_np h4, xs_np h4, xs_np h4, w p h1 h3]
        · rw [xs_ni h4, xs_ni h1, xs_ni h3, w146]
        · rw [xs_np (by decide), xs_np (by decide), xs_np (by decide), h2]
        · rw [xs_ni (by decide), xs_eq]
        · have : ∀ i, dx 8 i = d 8 i := fun i => by rw [h7, if_neg (fun q => hm q.1)]
          unfold iL at hL ⊢
          (try simp only [xs_fn, upI_app, Nat.reduceEqDiff, Int.reduceEq, eq_self, false_and, true_and, and_false, and_true, if_false, if_true, ↓reduceIte])
          rw [w 6 (by decide) (by decide), show dx 8 = d 8 from funext this, w 7 (by decide) (by decide), w5, w 148 (by decide) (by decide)]
          exact hL
    have key : ∀ x : Int, x = (if r = -1 then 9 else -1 - r) → yB (150 - 1) xm_c106 (yQi L (fun r1 d1 e1 => yC 150 202 L [.ref 146, .int (xJ a1)] d1 e1 (fun r2 d2 e2 => r1 = r2 ∧ Inv R b d2 e2))) L 23 [.ref 1, .int (xJ a1), .int (xJ x), .double 0, .int (xJ 0)] [] d e := by
      intro x hx
      by_cases hm : r = -1
      · rw [if_pos hm] at hx
        subst hx
        have hl := lp_up (n := 9) (X := fun i => yB (150 - 1) xm_c106 (yQi L (fun r1 d1 e1 => yC 150 202 L [.ref 146, .int (xJ a1)] d1 e1 (fun r2 d2 e2 => r1 = r2 ∧ Inv R b d2 e2))) L 23 [.ref 1, .int (xJ a1), .int (xJ 9), .double 0, .int (xJ i)] [] (xwo d 8 (a1 * 9) i (xt_dig d)) e) hn.1 ?_ ?_
        · rw [xwo_0] at hl; exact hl
        · intro i h1 h3 ih
          rw [← xwo_s h1] at ih
          refine yk_106_23 (by omega) ⟨by omega, by omega, fun c3 => by omega, fun c3 => ⟨hT.1, by omega, ih⟩⟩
        · refine yk_106_23 (by omega) ⟨by omega, by omega, fun c3 => ?_, fun c3 => by omega⟩
          refine mm _ _ (fun p h1 h3 => ?_) ?_ (by rw [if_pos hm]) (fun i => ?_)
          · funext j; rw [xs_np h1, xwo_np h3]
          · rw [xs_eq]
          · rw [xs_np (by decide)]
            unfold xwo
            simp [hm]
      · rw [if_neg hm] at hx
        refine yk_106_23 (by omega) ⟨by omega, by omega, fun c3 => ?_, fun c3 => by omega⟩
        refine mm _ _ (fun p h1 h3 => ?_) ?_ (by rw [if_neg hm]; exact hx) (fun i => ?_)
        · funext j; rw [xs_np h1]
        · rw [xs_eq]
        · rw [xs_np (by decide), if_neg (fun q => hm q.1)]
    exact ⟨by omega, fun c2 => key _ (by rw [if_neg c2]), fun c2 => key _ (by rw [if_pos c2])⟩
  · refine yC_of rfl rfl rfl (by omega) (yk_202_0 (by omega) ?_)
    (try simp only [xs_fn, upI_app, Nat.reduceEqDiff, Int.reduceEq, eq_self, false_and, true_and, and_false, and_true, if_false, if_true, ↓reduceIte])
    refine ⟨r1, by omega, fun c2 => by omega, fun c2 => ?_⟩
    refine iv _ (fun p h1 h3 h4 h5 => ?_) (fun i h1 h3 h4 => ?_) ?_ ?_ ?_
    · funext j; rw [xs_np h4, xs_np h4, xs_np h1]
    · rw [xs_ni h1, xs_ni h3, xs_np (by decide)]
    · (try simp only [xs_fn, upI_app, Nat.reduceEqDiff, Int.reduceEq, eq_self, false_and, true_and, and_false, and_true, if_false, if_true, ↓reduceIte])
    · (try simp only [xs_fn, upI_app, Nat.reduceEqDiff, Int.reduceEq, eq_self, false_and, true_and, and_false, and_true, if_false, if_true, ↓reduceIte])
    · exact hL
end OP8
