/-! CALLS: day, days, ahead, learns. -/
section DO2
variable {b : Int} {L D : Nat} {d : xh_D} {e : xd_E}
theorem fI_1 {α : Type} (g : Int → α → α) (a : α) : fI g a 1 = g 0 a := rfl
theorem op_day (hb : b < 1000000000) (hI : Inv iR b d e) : Op iR b (b + 40) L 118 227 [] d e := by
  refine op_dn (m := 1) (by omega) hb hI (fun P h => ?_) (fun F X dx e1 P hM hn1 ht h156 ok md hu hP => ?_)
  · exact yC_of rfl rfl rfl (by omega) (yk_118_0 h)
  · refine yC_of rfl rfl rfl (by omega) (yk_227_0 (by omega) ?_)
    refine sc_226_147 (by omega) (by rw [xs_ni (by decide)]; exact hu) (fun d2 m => ?_)
    have e147 : d2 147 = dx 147 := by rw [m.1 147 (by decide) (by decide), xs_fn, if_neg (by decide)]
    have em : ∀ i, ¬ i = 31 → ¬ i = 8 → d2 146 i = dx 146 i := fun i h1 h2 => by rw [m.2.1 i h1, xs_ni h2]
    have ep : ∀ p, ¬ p = 146 → ¬ p = 158 → d2 p = dx p := fun p h1 h2 => by rw [m.1 p h1 h2, xs_fn, if_neg h1]
    refine sq_223_147 (F := F) (tr := d 7) (n := d 6 4) (by omega) (by rw [em 16 (by decide) (by decide), ep 153 (by decide) (by decide)]; exact hM) (by rw [em 1 (by decide) (by decide)]; exact hn1) (by rw [ep 148 (by decide) (by decide)]; exact ht) (by rw [ep 156 (by decide) (by decide)]; exact h156) ok (by omega) (by unfold mdD at md ⊢; rw [e147]; exact md) (fun d3 f3 q3 md3 r28 r27 r29 _ => ?_)
    have := hP d2 d3 (Or.inr ⟨by omega, m⟩) f3 q3 md3
    rw [fI_1] at this
    rw [r28, r27, r29]
    have e1 : (dF F (d 7) (d 12) (d 13) (d 6 4) 0 (X, ((0, 0, 0, fun _ => 0) : dZT))).2.1 = dyK (d 12) (d 6 4) X - (dyB F (d 7) (d 12) (d 13) (d 6 4) X).1 / 1000 := Int.zero_add _
    have e2 : (dF F (d 7) (d 12) (d 13) (d 6 4) 0 (X, ((0, 0, 0, fun _ => 0) : dZT))).2.2.1 = (dyB F (d 7) (d 12) (d 13) (d 6 4) X).1 % 1000 := Int.zero_add _
    have e3 : (dF F (d 7) (d 12) (d 13) (d 6 4) 0 (X, ((0, 0, 0, fun _ => 0) : dZT))).2.2.2.1 = (dyY F (d 7) (d 12) (d 13) (d 6 4) X).2.2 := Int.zero_add _
    rw [e1, e2, e3] at this
    exact this
theorem op_days {a1 : Int} (r1 : yR a1) (hb : b < 1000000000) (hI : Inv iR b d e) : Op iR b (b + 40) L 119 228 [.int (xJ a1)] d e := by
  by_cases c0 : 0 ≤ a1 ∧ a1 ≤ 40
  · refine op_dn (m := a1) c0 hb hI (fun P h => ?_) (fun F X dx e1 P hM hn1 ht h156 ok md hu hP => ?_)
    · exact yC_of rfl rfl rfl (by omega) (yk_119_0 ⟨r1, fun c => by omega, fun _ => ⟨fun _ => h, fun c => by omega⟩⟩)
    · have mid : ∀ d2, RmN a1 147 (xs dx 146 8 0) d2 → yB (150 - 1) xm_c228 (yQi L P) L 24 [.ref 146, .int (xJ a1), .int (xJ 0), .int (xJ 0), .int (xJ 0), .int (xJ 0)] [] d2 e1 := by
        intro d2 n2
        obtain ⟨n2a, n2z, n2m⟩ := RmN_z n2
        have em : ∀ i, ¬ i = 31 → ¬ i = 8 → d2 146 i = dx 146 i := fun i h1 h2 => by rw [n2m i h1, xs_ni h2]
        have ep : ∀ p, ¬ p = 146 → ¬ p = 158 → d2 p = dx p := fun p h1 h2 => by rw [n2z p h1 h2, xs_fn, if_neg h1]
        refine lp_up (n := a1) (X := fun i => ∀ dc, Fk (fun p i => sm p i || p == 147) d2 dc → (∀ q, ¬ q = 146 → ¬ q = 154 → ¬ q = 155 → ¬ q = 157 → ¬ q = 147 → dc q = d2 q) → mdD 147 (d 6 4) (d 12) (d 13) (fI (dF F (d 7) (d 12) (d 13) (d 6 4)) (X, ((0, 0, 0, fun _ => 0) : dZT)) i).1 dc → yB (150 - 1) xm_c228 (yQi L P) L 24 [.ref 146, .int (xJ a1), .int (xJ (fI (dF F (d 7) (d 12) (d 13) (d 6 4)) (X, ((0, 0, 0, fun _ => 0) : dZT)) i).2.1), .int (xJ (fI (dF F (d 7) (d 12) (d 13) (d 6 4)) (X, ((0, 0, 0, fun _ => 0) : dZT)) i).2.2.1), .int (xJ (fI (dF F (d 7) (d 12) (d 13) (d 6 4)) (X, ((0, 0, 0, fun _ => 0) : dZT)) i).2.2.2.1), .int (xJ i)] [] dc e1) c0.1 ?_ ?_ d2 Fk_refl (fun _ _ _ _ _ _ => rfl) (by unfold mdD at md ⊢; rw [ep 147 (by decide) (by decide)]; exact md)
        · intro i a c ih dc fc qc mdc
          have oki := okD_i (F := F) (tr := d 7) (Z := ((0, 0, 0, fun _ => 0) : dZT)) ok a
          rw [fI_s _ _ a] at ih
          generalize hx : fI (dF F (d 7) (d 12) (d 13) (d 6 4)) (X, ((0, 0, 0, fun _ => 0) : dZT)) i = x at ih mdc oki ⊢
          refine yk_228_24 (by omega) ⟨by omega, by omega, fun z => by omega, fun _ => ?_⟩
          refine sq_223_147 (F := F) (tr := d 7) (n := d 6 4) (b := b + i) (by omega) (by rw [fc 146 16 rfl, qc 153 (by decide) (by decide) (by decide) (by decide) (by decide), em 16 (by decide) (by decide), ep 153 (by decide) (by decide)]; exact hM) (by rw [fc 146 1 rfl, em 1 (by decide) (by decide)]; exact hn1) (by rw [qc 148 (by decide) (by decide) (by decide) (by decide) (by decide), ep 148 (by decide) (by decide)]; exact ht) (by rw [qc 156 (by decide) (by decide) (by decide) (by decide) (by decide), ep 156 (by decide) (by decide)]; exact h156) oki (by omega) mdc (fun d3 f3 q3 md3 r28 r27 r29 _ => ?_)
          rw [r28, r27, r29]
          exact ih d3 (Fk_trans fc f3) (fun q h1 h2 h3 h4 h5 => by rw [q3 q h1 h2 h3 h4 h5, qc q h1 h2 h3 h4 h5]) md3
        · intro dc fc qc mdc
          exact yk_228_24 (by omega) ⟨by omega, by omega, fun _ => hP d2 dc n2 fc qc mdc, fun z => by omega⟩
      refine yC_of rfl rfl rfl (by omega) (yk_228_0 (by omega) ⟨r1, fun _ => ⟨fun c => mid _ (Or.inl ⟨c, rfl⟩), fun c => ?_⟩, fun c => absurd c0 c⟩)
      exact sc_226_147 (by omega) (by rw [xs_ni (by decide)]; exact hu) (fun d2 m => mid d2 (Or.inr ⟨by omega, m⟩))
  · have fin : yC 150 228 L [.ref 146, .int (xJ a1)] d e (fun r2 d2 e2 => -1 = r2 ∧ Inv iR (b + 40) d2 e2) := by
      refine yC_of rfl rfl rfl (by omega) (yk_228_0 (by omega) ⟨r1, fun c => absurd c c0, fun c => ⟨rfl, Inv_mono (b := b) (by omega) ?_⟩⟩)
      obtain ⟨hP, hT, hW, hL, hS, hU, hK, hR, hQ, hV, hH, hG⟩ := hI
      exact ⟨hP, hT, hW, hL, hS, (iU_c hU (by repeat' (first | exact Fz_refl | refine Fz_xs ?_ (by decide))) rfl rfl rfl rfl rfl), (iK_c hK (by repeat' (first | exact Fz_refl | refine Fz_xs ?_ (by decide))) rfl rfl rfl rfl), hR, hQ, hV, hH, hG⟩
    exact yC_of rfl rfl rfl (by omega) (yk_119_0 ⟨r1, fun c => fin, fun c => ⟨fun c2 => absurd ⟨by omega, c2⟩ c0, fun c2 => fin⟩⟩)
end DO2
