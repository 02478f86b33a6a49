/-! CALLS: season, the reference reads all; what an act does. -/
section SE3
variable {L D : Nat} {d : xh_D} {e : xd_E}
theorem acW_c {T : Int → Int} {d1 d2 : xh_D} {a p : Int} (h : acW T d1 a p) (e0 : d2 160 a = d1 160 a) (e1 : d2 160 (a + 1) = d1 160 (a + 1)) (e2 : d2 160 (a + 2) = d1 160 (a + 2)) : acW T d2 a p := by
  unfold acW at h ⊢
  rw [e0, e1, e2]
  exact h
theorem sq_229r {T : Int → Int} {N r0 : Int} {P : Int → xh_D → xd_E → Prop} (hD : 9 ≤ D) (hN : ¬ N = 0) (hTo : T N = -1) (hs : ∀ dc K, rgA d dc → dc 146 13 = -1 → r0 = -1 → K = cI (tSt T) N → (∀ j, 0 ≤ j → j < K → acW T dc (3 * j) (hpC (tSt T) N j)) → yB (D - 1) xm_c229 (yQi L P) L 47 [.ref 146, .int (xJ K), .double 0, .double 0] [] dc e) (hf : ∀ dc, rgA d dc → ¬ r0 = -1 → P (-1 - r0) dc e) : ∀ (f : Nat) (l1 i : Int) (dm : xh_D), min N 60 - i < f → 0 ≤ l1 → l1 ≤ i → rgA d dm → rdS T N 60 i dm → i ≤ min N 60 → tSt T i = true → cI (tSt T) i = l1 → se T N 0 i = r0 → (∀ j, 0 ≤ j → j < l1 → acW T dm (3 * j) (hpC (tSt T) N j)) → yB (D - 1) xm_c229 (yQi L P) L 22 [.ref 146, .int (xJ l1), .int (xJ 1), .double 0] [] dm e := by
  have flt : ∀ (dc : xh_D) (l1 : Int), rgA d dc → ¬ dc 146 13 = -1 → dc 146 13 = r0 → (0 ≤ dc 146 13 ∧ dc 146 13 ≤ 80) → (0 ≤ dc 146 12 ∧ dc 146 12 ≤ 90) → (0 ≤ dc 146 10 ∧ dc 146 10 ≤ 80) → yB (D - 1) xm_c229 (yQi L P) L 22 [.ref 146, .int (xJ l1), .int (xJ 0), .double 0] [] dc e := by
    intro dc l1 f h1 h2 h3 h4 h5
    have g := hf dc f (by omega)
    rw [← h2] at g
    have g2 : yB (D - 1) xm_c229 (yQi L P) L 47 [.ref 146, .int (xJ l1), .double 0, .double 0] [] dc e := yk_229_47 (by omega) ⟨by omega, fun z => absurd z h1, fun _ => g⟩
    refine yk_229_22 (by omega) ⟨by omega, fun _ => ?_, fun z => absurd rfl z⟩
    refine yk_229_38 (by omega) ⟨by omega, by omega, fun _ => g2, fun _ => ⟨by omega, ?_⟩⟩
    rw [if_neg h1, xs_id rfl]
    exact g2
  intro f
  induction f with
  | zero => intro l1 i dm h1 h2 h2' h3 h4 h5; omega
  | succ f ih =>
    intro l1 i dm h1 h2 h2' h3 h4 h5 h6 h7 h8 h9
    obtain ⟨s1, s2, s3, s4, s5, s6, s7, s8, s9⟩ := id h4
    refine yk_229_22 (by omega) ?_
    rw [s5]
    refine ⟨by omega, fun z => absurd z (by decide), fun _ => ⟨by omega, fun _ => ?_, fun z => absurd rfl z⟩⟩
    refine sq_230 (by omega) (by omega) hN hTo h4 h5 (fun dc f g1 g2 g3 g4 => ?_) (fun dc i2 f n2 g1 g3 g4 g5 v v3 => ?_)
    · refine sq_193_f (by omega) ⟨g1, by omega⟩ ?_
      exact flt dc _ (rgA_t h3 f) g1 (by rw [g2]; exact h8) g3 g4 (by rw [f.2 10 (by decide) (by decide), s2]; exact s6)
    · rw [h8] at g5
      obtain ⟨t1, t2, t3, t4, t5, t6, t7, t8, t9⟩ := id n2
      have iN : i < N := by omega
      have hp := hpC_at (hf := tSt T) (N := N) s6.1 ⟨s8.1, iN⟩ h6
      rw [h7] at hp
      have c1 : cI (tSt T) i2 = l1 + 1 := by
        rw [cI_ns (p := i + 1) (q := i2) (by omega) (by omega) (fun j a c => ?_), cI_t s8.1 h6, h7]
        have := tSt_f (T := T) (i := j - 1) (by omega) (g4 (j - 1) (by omega) (by omega))
        rwa [show j - 1 + 1 = j by omega] at this
      have vv : (hcT T N 60 i2 = 59 ∨ N ≤ i2) → ∀ j, 0 ≤ j → j < l1 + 1 → acW T dc (3 * j) (hpC (tSt T) N j) := fun w j a c => by
        by_cases z : j = l1
        · subst z
          rw [hp]
          exact v w
        · exact acW_c (h9 j a (by omega)) (v3 _ (by omega)) (v3 _ (by omega)) (v3 _ (by omega))
      refine sq_193 (by omega) (by omega) n2 (fun w => ?_) (fun w => ?_)
      · rw [if_pos w] at g5
        have r4 := (rd_h n2).2.2.2 (by omega)
        have w' : T i2 = 59 := by omega
        refine ih (l1 + 1) (i2 + 1) _ (by omega) (by omega) (by omega) (rgA_t (rgA_t h3 f) rgA_12) (rd_n n2 (by omega)) (by omega) (tSt_t w') ?_ g5.symm (fun j a c => ?_)
        · have := tSt_f (T := T) (i := i2 - 1) (by omega) (g4 (i2 - 1) (by omega) (by omega))
          rw [show i2 - 1 + 1 = i2 by omega] at this
          rw [cI_f (by omega) this, c1, Int.add_zero]
        · exact acW_c (vv (Or.inl w) j a c) (xs_np (by decide)) (xs_np (by decide)) (xs_np (by decide))
      · rw [if_neg w] at g5
        refine yk_229_22 (by omega) ⟨by omega, fun _ => ?_, fun z => absurd rfl z⟩
        refine yk_229_38 (by omega) ?_
        rw [t4, t2, t5]
        refine ⟨by omega, by omega, fun z => ?_, fun z => ⟨by omega, ?_⟩⟩
        · rw [if_pos z] at g5
          have : i2 = N := by omega
          exact hs dc (l1 + 1) (rgA_t h3 f) t5 g5 (by rw [← this, c1]) (vv (Or.inr z))
        · rw [if_neg z] at g5
          rw [if_pos rfl]
          have u : xs dc 146 13 i2 146 13 = i2 := xs_eq
          refine yk_229_47 (by omega) ?_
          rw [u]
          refine ⟨by omega, fun y => by omega, fun y => ?_⟩
          rw [← g5]
          exact hf _ (rgA_t (rgA_t h3 f) rgA_13) (by omega)
/-- what an act does -/
abbrev yT : Type := (Int → Int) × (Int → Int) × dT × dZT
def acF (F : (Int → Int) → Int) (tr : Int → Int) (n : Int) (T : Int → Int) (p : Int) (y : yT) : yT := if T p = 104 then (upI y.1 (T (p + 1) - 97) (xt_dg (T (p + 2))), y.2.1, y.2.2.1, y.2.2.2) else if T p = 109 then (y.1, upI y.2.1 (T (p + 1) - 97) (xt_dg (T (p + 2))), y.2.2.1, y.2.2.2) else if T p = 115 then (upI (upI y.1 (T (p + 1) - 97) (y.1 (T (p + 2) - 97))) (T (p + 2) - 97) (y.1 (T (p + 1) - 97)), y.2.1, y.2.2.1, y.2.2.2) else (y.1, y.2.1, (fI (dF F tr y.1 y.2.1 n) (y.2.2.1, y.2.2.2) (max 1 (xt_dg (T (p + 1))))).1, (fI (dF F tr y.1 y.2.1 n) (y.2.2.1, y.2.2.2) (max 1 (xt_dg (T (p + 1))))).2)
def acC (n : Int) (T : Int → Int) (p : Int) : Prop := T p = 100 ∨ (T p = 115 ∧ (0 ≤ T (p + 1) - 97 ∧ T (p + 1) - 97 < n) ∧ (0 ≤ T (p + 2) - 97 ∧ T (p + 2) - 97 < n) ∧ ¬ T (p + 1) - 97 = T (p + 2) - 97) ∨ (¬ T p = 100 ∧ ¬ T p = 115 ∧ 0 ≤ T (p + 1) - 97 ∧ T (p + 1) - 97 < n)
theorem dg_r (c : Int) : -1 ≤ xt_dg c ∧ xt_dg c ≤ 9 := by unfold xt_dg; split <;> omega
theorem dg_8 {c : Int} (h : dG8 c) : xt_dg c = c - 48 ∧ 0 ≤ xt_dg c ∧ xt_dg c < 9 := by unfold dG8 at h; unfold xt_dg; rw [if_pos (by omega)]; omega
def okY (b n : Int) (y : yT) : Prop := okD b n y.1 y.2.1 y.2.2.1
theorem okD_hs {b n : Int} {h s h' s' : Int → Int} {X : dT} (ok : okD b n h s X) (hh : ∀ p, 0 ≤ p → p < n → 0 ≤ h' p ∧ h' p < 9) (hs : ∀ p, 0 ≤ p → p < n → 0 ≤ s' p ∧ s' p < 9) : okD b n h' s' X := ⟨ok.1, fun p a c => ⟨hh p a c, hs p a c, (ok.2.1 p a c).2.2⟩, ok.2.2⟩
theorem acF_ok {F : (Int → Int) → Int} {tr T : Int → Int} {b n p : Int} {y : yT} (ok : okY b n y) (hv : acV T p) (hc : acC n T p) : okY (b + 9) n (acF F tr n T p y) := by
  have h1 : ∀ q, 0 ≤ q → q < n → 0 ≤ y.1 q ∧ y.1 q < 9 := fun q a c => (ok.2.1 q a c).1
  have h2 : ∀ q, 0 ≤ q → q < n → 0 ≤ y.2.1 q ∧ y.2.1 q < 9 := fun q a c => (ok.2.1 q a c).2.1
  unfold acF
  by_cases c1 : T p = 104
  · rw [if_pos c1]
    have dg : dG8 (T (p + 2)) := by unfold acV lTr dG8 at hv; unfold dG8; omega
    have dr := dg_8 dg
    refine okD_mono (okD_hs (h := y.1) (s := y.2.1) ok (fun q a c => ?_) h2) (by omega)
    dsimp only
    rw [upI_app]
    split
    · omega
    · exact h1 q a c
  · rw [if_neg c1]
    by_cases c2 : T p = 109
    · rw [if_pos c2]
      have dg : dG8 (T (p + 2)) := by unfold acV lTr dG8 at hv; unfold dG8; omega
      have dr := dg_8 dg
      refine okD_mono (okD_hs (h := y.1) (s := y.2.1) ok h1 (fun q a c => ?_)) (by omega)
      dsimp only
      rw [upI_app]
      split
      · omega
      · exact h2 q a c
    · rw [if_neg c2]
      by_cases c3 : T p = 115
      · rw [if_pos c3]
        unfold acC at hc
        refine okD_mono (okD_hs (h := y.1) (s := y.2.1) ok (fun q a c => ?_) h2) (by omega)
        dsimp only
        rw [upI_app, upI_app]
        split
        · exact h1 _ (by omega) (by omega)
        · split
          · exact h1 _ (by omega) (by omega)
          · exact h1 q a c
      · rw [if_neg c3]
        have dr := dg_r (T (p + 1))
        exact okD_mono (okD_i (F := F) (tr := tr) (Z := y.2.2.2) (X := y.2.2.1) (h := y.1) (s := y.2.1) ok (m := max 1 (xt_dg (T (p + 1)))) (by omega)) (by omega)
end SE3
