/-! TASKS: the reference's wanting. -/
section TS4
variable {L D : Nat} {d : xh_D} {e : xd_E} {m : Int} {T c tr : Int → Int}
theorem bI_no : bI (fun _ => false) 6 = 0 := by decide
/-- what the reference's placing of all has come to: q persons asked -/
def wtS (m : Int) (T c tr : Int → Int) (see : Int → Bool) (q : Int) (σ : Int → Int) : Prop := vdS m T c tr σ ∧ ijX m c (fun _ => false) σ ∧ (∀ r, 0 ≤ r → plX m c (fun _ => false) σ r → r < q ∧ see r = true) ∧ ∃ C, clX m T c tr C σ ∧ ∀ r, 0 ≤ r → r < q → see r = true → plX m c (fun _ => false) σ r ∨ ∀ j, 0 ≤ j → j < m → hsB T tr r j = true → C j = true
theorem sq_243 {day n : Int} {hd : Int → Int} {P : Int → xh_D → xd_E → Prop} (hD : 14 ≤ D) (tk : tkM m T c tr d) (hday : yR day) (hn : 0 ≤ n ∧ n ≤ 10) (h41 : d 146 41 = n) (hh : ∀ q, 0 ≤ q → q < n → d 164 q = hd q ∧ yR (hd q)) (hP : ∀ d', plF d d' → wtS m T c tr (fun q => !decide (hd q = day)) n (d' 166) → P (sI c m - flN m c (d' 166)) d' e) : yC D 243 L [.ref 146, .int (xJ day)] d e P := by
  have hm := tk.1
  have hc : ∀ j, 0 ≤ j → j < m → 1 ≤ c j ∧ c j ≤ 3 := fun j a b => (tk.2.2.1 j a b).2.2.2
  refine yC_of rfl rfl rfl (by omega) (yk_243_0 ?_)
  have hl := lp_up (n := m) (X := fun i => yB (D - 1) xm_c243 (yQi L P) L 4 [.ref 146, .int (xJ day), .int (xJ (sI c i)), .int (xJ i)] [] d e) hm.1 ?_ ?_
  · exact hl
  · intro i a b ih
    refine yk_243_4 ?_
    rw [tk.2.1, (tk.2.2.1 i a b).2.1]
    refine ⟨by omega, by omega, fun z => by omega, fun _ => ⟨by omega, fun v ev => ?_⟩⟩
    rw [ev, ← sI_s c a]
    exact ih
  refine yk_243_4 ?_
  rw [tk.2.1]
  refine ⟨by omega, by omega, fun _ => ?_, fun z => by omega⟩
  have hl := lp_up (n := 18) (X := fun i => yB (D - 1) xm_c243 (yQi L P) L 23 [.ref 146, .int (xJ day), .int (xJ (sI c m)), .int (xJ i)] [] (xwr d 166 i (fun _ => -1)) e) (by omega) ?_ ?_
  · rw [xwr_0] at hl; exact hl
  · intro i a b ih
    refine yk_243_23 ⟨by omega, fun z => by omega, fun _ => ⟨by omega, ?_⟩⟩
    rw [show xs (xwr d 166 i (fun _ => -1)) 166 i (-1) = xwr d 166 (i + 1) (fun _ => -1) from xwr_s a]
    exact ih
  refine yk_243_23 ⟨by omega, fun _ => ?_, fun z => by omega⟩
  have s0 : ∀ j s, 0 ≤ j → j < m → slT c j s → xwr d 166 18 (fun _ => -1) 166 s = -1 := fun j s a b h => by
    have := hc j a b
    unfold slT at h
    rw [xwr_at ⟨by omega, by omega⟩]
  have fl0 : flN m c (xwr d 166 18 (fun _ => -1) 166) = 0 := by
    unfold flN
    rw [cI_congr (g := fun _ => false) (fun i a b => by rw [xwr_at ⟨a, b⟩]; simp)]
    decide
  refine lp_up (n := n) (X := fun q => ∀ d2, plF d d2 → wtS m T c tr (fun q => !decide (hd q = day)) q (d2 166) → yB (D - 1) xm_c243 (yQi L P) L 35 [.ref 146, .int (xJ day), .int (xJ (sI c m - flN m c (d2 166))), .int (xJ q)] [] d2 e) hn.1 ?_ ?_ (xwr d 166 18 (fun _ => -1)) ⟨fun q _ h => by rw [xwr_fn h], fun j _ => by rw [xwr_fn (by decide)]⟩ ⟨fun j s a b h => Or.inl (s0 j s a b h), fun j j' s s' b1 _ _ _ h _ _ _ => s0 j s b1.1 b1.2 h, fun r a ⟨j, s, b1, _, l1, h⟩ => by rw [s0 j s b1.1 b1.2 l1] at h; omega, fun _ => false, fun j s _ _ h => absurd (show false = true from h) (by decide), fun r a b => by omega⟩ |> fun z => by rw [fl0, Int.sub_zero] at z; exact z
  · intro q a b ih d2 f2 w2
    have tk2 := tkM_c tk f2
    have h4 := hh q a b
    refine yk_243_35 ?_
    rw [f2.2 41 (by decide), h41, f2.1 164 (by decide) (by decide), h4.1]
    obtain ⟨w1, w3, w4, C, w5, w6⟩ := w2
    refine ⟨by omega, by omega, fun z => by omega, fun _ => ⟨by omega, h4.2, hday, fun z => ?_, fun z => ?_⟩⟩
    · have sq : (!decide (hd q = day)) = true := by simp [z]
      have f3 : plF d (xs d2 146 43 0) := plF_t f2 ⟨fun q a _ => by rw [xs_fn, if_neg a], fun j a => by rw [xs_ni a]⟩
      have e166 : xs d2 146 43 0 166 = d2 166 := by rw [xs_fn, if_neg (by decide)]
      refine sq_242 (m := m) (T := T) (c := c) (tr := tr) 7 (D - 1) q (fun _ => false) (xs d2 146 43 0) _ _ (by omega) (by decide) (tkM_c tk f3) (by omega) (by rw [xs_eq, bI_no]) (by rw [e166]; exact w1) (fun d3 X3 g1 _ g3 g4 => ?_) (fun d3 X3 g1 _ g3 => ?_)
      · rw [e166] at g3 g4
        have i := ih d3 (plF_t f3 g1)
        rw [g4] at i
        refine i ⟨w1, w3, fun r a1 h => ⟨by have := (w4 r a1 h).1; omega, (w4 r a1 h).2⟩, _, clX_or w5 (fun j s a1 a2 a3 a4 => g3.2.1 j s a1 a2 a3 rfl a4), fun r a1 a2 a3 => ?_⟩
        by_cases v : r = q
        · exact Or.inr (fun j b1 b2 b3 => Bool.or_eq_true_iff.mpr (Or.inr (g3.2.2 j b1 b2 (by rw [← v]; exact b3))))
        · rcases w6 r a1 (by omega) a3 with u | u
          · exact Or.inl u
          · exact Or.inr (fun j b1 b2 b3 => Bool.or_eq_true_iff.mpr (Or.inl (u j b1 b2 b3)))
      · rw [e166] at g3
        have i := ih d3 (plF_t f3 g1)
        have nq : ¬ plX m c (fun _ => false) (d2 166) q := fun h => by have := (w4 q a h).1; omega
        obtain ⟨x1, x2⟩ := g3.2.2.1 w3 nq
        rw [g3.2.2.2.1, show sI c m - (flN m c (d2 166) + 1) = sI c m - flN m c (d2 166) + -1 by omega] at i
        refine i ⟨g3.2.1, x1, fun r a1 h => ?_, C, clX_y w5 g3, fun r a1 a2 a3 => ?_⟩
        · rcases (x2 r a1).mp h with u | u
          · have := w4 r a1 u; exact ⟨by omega, this.2⟩
          · rw [u]; exact ⟨by omega, sq⟩
        · by_cases v : r = q
          · exact Or.inl ((x2 r a1).mpr (Or.inr v))
          · rcases w6 r a1 (by omega) a3 with u | u
            · exact Or.inl ((x2 r a1).mpr (Or.inl u))
            · exact Or.inr u
    · refine ih d2 f2 ⟨w1, w3, fun r a1 h => ⟨by have := (w4 r a1 h).1; omega, (w4 r a1 h).2⟩, C, w5, fun r a1 a2 a3 => ?_⟩
      by_cases v : r = q
      · rw [v] at a3; simp [z] at a3
      · exact w6 r a1 (by omega) a3
  · intro d2 f2 w2
    refine yk_243_35 ?_
    rw [f2.2 41 (by decide), h41]
    exact ⟨by omega, by omega, fun _ => hP d2 f2 w2, fun z => by omega⟩
end TS4
