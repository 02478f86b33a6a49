/-! TASKS: the reference's placing. -/
section TS3
variable {L : Nat} {e : xd_E} {m : Int} {T c tr : Int → Int}
theorem cI_imp {f g : Int → Bool} (h : ∀ i, f i = true → g i = true) {n : Int} (hn : 0 ≤ n) : cI f n ≤ cI g n := by
  have key : ∀ k : Nat, cI f k ≤ cI g k := by
    intro k
    induction k with
    | zero => exact Int.le_refl _
    | succ k ih =>
      rw [show ((k + 1 : Nat) : Int) = (k : Int) + 1 from rfl, cI_s f (by omega), cI_s g (by omega)]
      cases w : f k
      · cases w2 : g k <;> simp <;> omega
      · rw [h _ w]; simp; omega
  have := key n.toNat
  rwa [show ((n.toNat : Nat) : Int) = n by omega] at this
theorem cI_lt {X X3 : Int → Bool} {j : Int} (hj : 0 ≤ j ∧ j < 6) (h : ∀ i, X i = true → X3 i = true) (h0 : X j = false) (h1 : X3 j = true) : cI (fun i => !X3 i) 6 < cI (fun i => !X i) 6 := by
  have e1 := cI_one (f := fun i => !X i && !decide (i = j)) (g := fun i => !X i) (s := j) (n := 6) hj (fun i _ _ w => by simp [w]) (by simp) (by rw [h0]; rfl)
  have e2 := cI_imp (f := fun i => !X3 i) (g := fun i => !X i && !decide (i = j)) (n := 6) (fun i w => by
    have w' : X3 i = false := by simpa using w
    have x : X i = false := by
      cases v : X i
      · rfl
      · rw [h i v] at w'; exact absurd w' (by decide)
    have : ¬ i = j := fun z => by rw [z, h1] at w'; exact absurd w' (by decide)
    simp [x, this]) (by omega)
  omega
theorem sq_242 : ∀ (f : Nat) (D : Nat) (p : Int) (X : Int → Bool) (dm : xh_D) (P1 P0 : xh_D → xd_E → Prop), f + 4 ≤ D → cI (fun j => !X j) 6 < f → tkM m T c tr dm → (0 ≤ p ∧ p < 10) → dm 146 43 = bI X 6 → vdS m T c tr (dm 166) → (∀ d' X', plF dm d' → d' 146 43 = bI X' 6 → plN m T c tr p X X' (dm 166) → d' 166 = dm 166 → P0 d' e) → (∀ d' X', plF dm d' → d' 146 43 = bI X' 6 → plY m T c tr p X (dm 166) (d' 166) → P1 d' e) → yZ D 242 L [.ref 146, .int (xJ p)] dm e P1 P0 := by
  intro f
  induction f with
  | zero => intro D p X dm P1 P0 hD hf; exact absurd hf (by have := (cI_r (fun j => !X j) (n := 6) (by omega)).1; omega)
  | succ f ih =>
    intro D p X dm P1 P0 hD hf tk hp h43 hv h0 h1
    have hm := tk.1
    have hc : ∀ j, 0 ≤ j → j < m → 1 ≤ c j ∧ c j ≤ 3 := fun j a b => (tk.2.2.1 j a b).2.2.2
    refine yZ_of rfl rfl rfl (by omega) (yk_242_0 ?_)
    have key : ∀ (t : Nat) (j : Int) (X1 : Int → Bool) (d2 : xh_D), j + t = m → 0 ≤ j → plF dm d2 → d2 166 = dm 166 → d2 146 43 = bI X1 6 → (∀ i, X i = true → X1 i = true) → (∀ j' s', 0 ≤ j' → j' < m → X1 j' = true → X j' = false → slT c j' s' → ¬ dm 166 s' = -1 ∧ ∀ i, 0 ≤ i → i < m → hsB T tr (dm 166 s') i = true → X1 i = true) → (∀ i, 0 ≤ i → i < j → hsB T tr p i = true → X1 i = true) → yB (D - 1) xm_c242 (yQz L P1 P0) L 2 [.ref 146, .int (xJ p), .int (xJ j), .double 0] [] d2 e := by
      intro t
      induction t with
      | zero =>
        intro j X1 d2 k1 k2 k3 k4 k5 k6 k7 k8
        have tk2 := tkM_c tk k3
        refine yk_242_2 (by omega) ?_
        rw [tk2.2.1]
        exact ⟨by omega, by omega, fun _ => h0 d2 X1 k3 k5 ⟨k6, k7, fun i a b => k8 i a (by omega)⟩ k4, fun z => by omega⟩
      | succ t iht =>
        intro j X1 d2 k1 k2 k3 k4 k5 k6 k7 k8
        have tk2 := tkM_c tk k3
        have hs := hs_t (q := p) (j := j) tk2 hp ⟨k2, by omega⟩
        have bt := bI_test (f := X1) (n := 6) (p := j) (by omega) ⟨k2, by omega⟩
        have cj := hc j k2 (by omega)
        refine yk_242_2 (by omega) ?_
        rw [tk2.2.1, k5, bt]
        refine ⟨by omega, by omega, fun z => by omega, fun _ => ⟨hp, by omega, fun y => ⟨fun z => ?_, fun z => ?_⟩, fun y => ?_⟩⟩
        · have xj : X1 j = true := by
            cases w : X1 j
            · rw [w] at z; simp at z
            · rfl
          exact iht (j + 1) X1 d2 (by omega) (by omega) k3 k4 k5 k6 k7 (fun i a b h => by
            by_cases w : i = j
            · rw [w]; exact xj
            · exact k8 i a (by omega) h)
        · have xj : X1 j = false := by
            cases w : X1 j
            · rfl
            · rw [w] at z; simp at z
          have xj0 : X j = false := by
            cases w : X j
            · rfl
            · rw [k6 j w] at xj; exact absurd xj (by decide)
          have hh := hs.mp y
          rw [bI_set (by omega) ⟨k2, by omega⟩]
          generalize hX2 : (fun i => X1 i || decide (i = j)) = X2
          have x2j : X2 j = true := by rw [← hX2]; simp
          have x12 : ∀ i, X1 i = true → X2 i = true := fun i h => by rw [← hX2]; simp [h]
          have x21 : ∀ i, X2 i = true → ¬ i = j → X1 i = true := fun i h w => by rw [← hX2] at h; simpa [w] using h
          generalize hd3 : xs d2 146 43 (bI X2 6) = d3
          have f3 : plF dm d3 := plF_t k3 (by rw [← hd3]; exact ⟨fun q a _ => by rw [xs_fn, if_neg a], fun i a => by rw [xs_ni a]⟩)
          have e43 : d3 146 43 = bI X2 6 := by rw [← hd3, xs_eq]
          have e166 : d3 166 = dm 166 := by rw [← hd3, xs_fn, if_neg (by decide), k4]
          have tk3 := tkM_c tk f3
          have cc := (tk3.2.2.1 j k2 (by omega)).2.1
          have vr : ∀ s, slT c j s → yR (dm 166 s) ∧ (¬ dm 166 s = -1 → 0 ≤ dm 166 s ∧ dm 166 s < 10) := fun s h => by
            rcases hv j s k2 (by omega) h with w | w <;> omega
          -- the slots' persons give way, or not
          have k70 : (∀ s, slT c j s → ¬ dm 166 s = -1) → ∀ (t2 : Nat) (s : Int) (X3 : Int → Bool) (d4 : xh_D), s + t2 = 3 * j + c j → 3 * j ≤ s → plF dm d4 → d4 166 = dm 166 → d4 146 43 = bI X3 6 → (∀ i, X2 i = true → X3 i = true) → (∀ j' s', 0 ≤ j' → j' < m → X3 j' = true → X j' = false → ¬ j' = j → slT c j' s' → ¬ dm 166 s' = -1 ∧ ∀ i, 0 ≤ i → i < m → hsB T tr (dm 166 s') i = true → X3 i = true) → (∀ s', slT c j s' → s' < s → ∀ i, 0 ≤ i → i < m → hsB T tr (dm 166 s') i = true → X3 i = true) → yB (D - 1) xm_c242 (yQz L P1 P0) L 70 [.ref 146, .int (xJ p), .int (xJ j), .int (xJ s)] [] d4 e := by
            intro full t2
            induction t2 with
            | zero =>
              intro s X3 d4 g1 g2 g3 g4 g5 g6 g7 g8
              have tk4 := tkM_c tk g3
              refine yk_242_70 ?_
              rw [(tk4.2.2.1 j k2 (by omega)).2.1]
              refine ⟨by omega, by omega, by omega, fun _ => ?_, fun z => by omega⟩
              refine iht (j + 1) X3 d4 (by omega) (by omega) g3 g4 g5 (fun i h => g6 i (x12 i (k6 i h))) (fun j' s' a b h1 h2 h3 => ?_) (fun i a b h => ?_)
              · by_cases w : j' = j
                · rw [w] at h3
                  exact ⟨full s' h3, g8 s' h3 (by unfold slT at h3; omega)⟩
                · exact g7 j' s' a b h1 h2 w h3
              · by_cases w : i = j
                · rw [w]; exact g6 j x2j
                · exact g6 i (x12 i (k8 i a (by omega) h))
            | succ t2 iht2 =>
              intro s X3 d4 g1 g2 g3 g4 g5 g6 g7 g8
              have tk4 := tkM_c tk g3
              have sl : slT c j s := ⟨g2, by omega⟩
              have q0 := (vr s sl).2 (full s sl)
              have lt := cI_lt (X := X) (X3 := X3) ⟨k2, by omega⟩ (fun i h => g6 i (x12 i (k6 i h))) xj0 (g6 j x2j)
              refine yk_242_70 ?_
              rw [(tk4.2.2.1 j k2 (by omega)).2.1, g4]
              refine ⟨by omega, by omega, by omega, fun z => by omega, fun _ => ⟨by omega, ?_⟩⟩
              refine ih (D - 1) (dm 166 s) X3 d4 _ _ (by omega) (by omega) tk4 q0 g5 (by rw [g4]; exact hv) (fun d5 X4 b1 b2 b3 b4 => ?_) (fun d5 X4 b1 b2 b3 => ?_)
              · rw [g4] at b3 b4
                refine iht2 (s + 1) X4 d5 (by omega) (by omega) (plF_t g3 b1) b4 b2 (fun i h => b3.1 i (g6 i h)) (fun j' s' a b h1 h2 h3 h4 => ?_) (fun s' h1 h2 i a b h3 => ?_)
                · cases w : X3 j'
                  · exact b3.2.1 j' s' a b h1 w h4
                  · have := g7 j' s' a b w h2 h3 h4
                    exact ⟨this.1, fun i a b h => b3.1 i (this.2 i a b h)⟩
                · by_cases w : s' = s
                  · rw [w] at h3; exact b3.2.2 i a b h3
                  · exact b3.1 i (g8 s' h1 (by omega) i a b h3)
              · rw [g4] at b3
                refine h1 _ X4 (plF_t (plF_t g3 b1) ⟨fun q _ a => by rw [xs_fn, if_neg a], fun i _ => by rw [xs_np (by decide)]⟩) (by rw [xs_np (by decide)]; exact b2) ?_
                rw [xs_up]
                exact plY_sw hm hc ⟨k2, by omega⟩ sl xj0 (g6 j x2j) (fun i h => g6 i (x12 i (k6 i h))) (full s sl) hp hh hv b3
          have k36 : ∀ (t2 : Nat) (s : Int), s + t2 = 3 * j + c j → 3 * j ≤ s → (∀ s', slT c j s' → s' < s → ¬ dm 166 s' = -1) → yB (D - 1) xm_c242 (yQz L P1 P0) L 36 [.ref 146, .int (xJ p), .int (xJ j), .int (xJ s)] [] d3 e := by
            intro t2
            induction t2 with
            | zero =>
              intro s g1 g2 g3
              refine yk_242_36 ?_
              rw [cc]
              refine ⟨by omega, by omega, by omega, fun _ => ?_, fun z => by omega⟩
              refine k70 (fun s' h => g3 s' h (by unfold slT at h; omega)) (c j).toNat (3 * j) X2 d3 (by omega) (by omega) f3 e166 e43 (fun _ h => h) (fun j' s' a b h1 h2 h3 h4 => ?_) (fun s' h1 h2 => by unfold slT at h1; omega)
              have := k7 j' s' a b (x21 j' h1 h3) h2 h4
              exact ⟨this.1, fun i a b h => x12 i (this.2 i a b h)⟩
            | succ t2 iht2 =>
              intro s g1 g2 g3
              have sl : slT c j s := ⟨g2, by omega⟩
              have v := vr s sl
              refine yk_242_36 ?_
              rw [cc, e166]
              refine ⟨by omega, by omega, by omega, fun z => by omega, fun _ => ⟨by omega, v.1, fun y => ?_, fun y => ?_⟩⟩
              · refine h1 _ X2 (plF_t f3 ⟨fun q _ a => by rw [xs_fn, if_neg a], fun i _ => by rw [xs_np (by decide)]⟩) (by rw [xs_np (by decide)]; exact e43) ?_
                rw [xs_up, e166]
                exact plY_put hm hc ⟨k2, by omega⟩ sl xj0 y hp hh hv
              · exact iht2 (s + 1) (by omega) (by omega) (fun s' h1 h2 => by
                  by_cases w : s' = s
                  · rw [w]; exact y
                  · exact g3 s' h1 (by omega))
          exact k36 (c j).toNat (3 * j) (by omega) (by omega) (fun s' h1 h2 => by unfold slT at h1; omega)
        · exact iht (j + 1) X1 d2 (by omega) (by omega) k3 k4 k5 k6 k7 (fun i a b h => by
            by_cases w : i = j
            · rw [w] at h; exact absurd (hs.mpr h) y
            · exact k8 i a (by omega) h)
    refine key m.toNat 0 X dm (by omega) (by omega) ⟨fun _ _ _ => rfl, fun _ _ => rfl⟩ rfl h43 (fun _ h => h) (fun j' s' _ _ h1 h2 => by rw [h1] at h2; exact absurd h2 (by decide)) (fun i a b => by omega)
end TS3
