/-! CALLS: colours, the reference's search. -/
section CO2
variable {L D : Nat} {d : xh_D} {e : xd_E} {A B S : Int → Int} {k n M : Int}
theorem fT_at {α : Type} {f : Int → Option α} {c : Int} {a : α} : ∀ (t : Nat) (m : Int), m + t = c → (∀ c', m ≤ c' → c' < c → f c' = none) → f c = some a → fT f m (c + 1) = some a := by
  intro t
  induction t with
  | zero => intro m h1 h2 h3; rw [show m = c by omega]; exact fT_y (by omega) h3
  | succ t ih => intro m h1 h2 h3; rw [fT_n (by omega) (h2 m (by omega) (by omega))]; exact ih (m + 1) (by omega) (fun c' a1 a2 => h2 c' (by omega) a2) h3
theorem fT_pre {α : Type} {f : Int → Option α} {c c2 : Int} {a : α} (hc : c ≤ c2) : ∀ (t : Nat) (m : Int), (c - m).toNat = t → fT f m c = some a → fT f m c2 = some a := by
  intro t
  induction t with
  | zero => intro m h1 h2; rw [fT_e (by omega)] at h2; exact absurd h2 (by simp)
  | succ t ih =>
    intro m h1 h2
    cases w : f m with
    | none => rw [fT_n (by omega) w] at h2 ⊢; exact ih _ (by omega) h2
    | some b => rw [fT_y (by omega) w] at h2 ⊢; exact h2
/-- the wishes, in the reference -/
def wsM (A B S : Int → Int) (k n : Int) (d : xh_D) : Prop := (0 ≤ k ∧ k ≤ 12) ∧ (0 ≤ n ∧ n ≤ 9) ∧ d 146 46 = k ∧ d 146 1 = n ∧ ∀ i, 0 ≤ i → i < k → d 168 (3 * i) = A i ∧ d 168 (3 * i + 1) = B i ∧ d 168 (3 * i + 2) = S i ∧ (0 ≤ A i ∧ A i < 9) ∧ (0 ≤ B i ∧ B i < 9) ∧ (S i = 0 ∨ S i = 1)
theorem sq_262i {p u c : Int} {P : xh_D → xd_E → Prop} (hD : 4 ≤ D) (ws : wsM A B S k n d) (hr : ∀ q, 0 ≤ q → q ≤ p → yR (d 169 q)) (hp : 0 ≤ p ∧ p < 9) (hu : 0 ≤ u ∧ u ≤ 20) (hc : 0 ≤ c ∧ c ≤ 20) (h1 : fitB A B S k (d 169) p = true → yV D 262 L [.ref 146, .int (xJ (p + 1)), .int (xJ (max u (c + 1)))] d e (fun d6 e7 => yB D xm_c262 (yQv L P) L 31 [.ref 146, .int (xJ p), .int (xJ u), .int (xJ (c + 1)), .double 0, .double 0, .double 0, .double 0] [] d6 e7)) (h0 : fitB A B S k (d 169) p = false → yB D xm_c262 (yQv L P) L 31 [.ref 146, .int (xJ p), .int (xJ u), .int (xJ (c + 1)), .double 0, .double 0, .double 0, .double 0] [] d e) : yB D xm_c262 (yQv L P) L 46 [.ref 146, .int (xJ p), .int (xJ u), .int (xJ c), .int (xJ 1), .int (xJ 0), .double 0, .double 0] [] d e := by
  obtain ⟨w1, w2, w3, w4, w5⟩ := ws
  have key : ∀ (t : Nat) (i fl : Int), i + t = k → 0 ≤ i → ((fl = 1 ∧ ∀ j, 0 ≤ j → j < i → max (A j) (B j) = p → (d 169 (A j) = d 169 (B j) ↔ S j = 1)) ∨ (fl = 0 ∧ fitB A B S k (d 169) p = false)) → yB D xm_c262 (yQv L P) L 46 [.ref 146, .int (xJ p), .int (xJ u), .int (xJ c), .int (xJ fl), .int (xJ i), .double 0, .double 0] [] d e := by
    intro t
    induction t with
    | zero =>
      intro i fl k1 k2 k3
      refine yk_262_46 (by omega) ?_
      rw [w3]
      refine ⟨by omega, by omega, fun _ => ⟨by omega, fun z => ?_, fun z => ⟨by omega, by omega, ?_⟩⟩, fun z => by omega⟩
      · rcases k3 with k3 | k3
        · omega
        · exact h0 k3.2
      · rcases k3 with k3 | k3
        · exact h1 (fitB_t.mpr (fun j a c => k3.2 j a (by omega)))
        · omega
    | succ t ih =>
      intro i fl k1 k2 k3
      obtain ⟨e1, e2, e3, e4, e5, e6⟩ := w5 i k2 (by omega)
      have keep : (max (A i) (B i) = p → (d 169 (A i) = d 169 (B i) ↔ S i = 1)) → yB D xm_c262 (yQv L P) L 46 [.ref 146, .int (xJ p), .int (xJ u), .int (xJ c), .int (xJ fl), .int (xJ (i + 1)), .double 0, .double 0] [] d e := fun y => by
        refine ih (i + 1) fl (by omega) (by omega) ?_
        rcases k3 with k3 | k3
        · exact Or.inl ⟨k3.1, all_s (p := fun j => max (A j) (B j) = p → (d 169 (A j) = d 169 (B j) ↔ S j = 1)) k3.2 y⟩
        · exact Or.inr k3
      have bad : max (A i) (B i) = p → ¬ (d 169 (A i) = d 169 (B i) ↔ S i = 1) → yB D xm_c262 (yQv L P) L 46 [.ref 146, .int (xJ p), .int (xJ u), .int (xJ c), .int (xJ 0), .int (xJ (i + 1)), .double 0, .double 0] [] d e := fun y1 y2 => by
        refine ih (i + 1) 0 (by omega) (by omega) (Or.inr ⟨rfl, ?_⟩)
        cases v : fitB A B S k (d 169) p
        · rfl
        · exact absurd (fitB_t.mp v i k2 (by omega) y1) y2
      refine yk_262_46 (by omega) ?_
      rw [w3, e1, e2, e3]
      refine ⟨by omega, by omega, fun z => by omega, fun _ => ⟨by omega, by omega, by omega, by omega, by omega, fun z => keep (fun y => absurd y z), fun z => ⟨e4, e5, hr _ e4.1 (by omega), hr _ e5.1 (by omega), fun y => ⟨by omega, by omega, fun x => keep (fun _ => ⟨fun v => absurd v y, fun v => absurd v x⟩), fun x => bad z (fun v => y (v.mpr x))⟩, fun y => ⟨by omega, by omega, fun x => bad z (fun v => x (v.mp y)), fun x => keep (fun _ => ⟨fun _ => x, fun _ => y⟩)⟩⟩⟩⟩
  exact key k.toNat 0 1 (by omega) (by omega) (Or.inl ⟨rfl, fun j a c => by omega⟩)
/-- what the reference's search leaves -/
def gmS (A B S : Int → Int) (k n : Int) (f : Nat) (u : Int) (dm d' : xh_D) : Prop := (d' 146 49 = dm 146 49 ∧ (∀ q, 0 ≤ q → q < n → d' 170 q = dm 170 q) ∧ ∀ M, u ≤ M → M < dm 146 49 → cfF A B S k n M f u (dm 169) = none) ∨ (u ≤ d' 146 49 ∧ d' 146 49 < dm 146 49 ∧ (∃ r, cfF A B S k n (d' 146 49) f u (dm 169) = some r ∧ ∀ q, 0 ≤ q → q < n → d' 170 q = r q) ∧ ∀ M, u ≤ M → M < d' 146 49 → cfF A B S k n M f u (dm 169) = none)
def gmF (d d' : xh_D) : Prop := (∀ q, ¬ q = 146 → ¬ q = 169 → ¬ q = 170 → d' q = d q) ∧ ∀ j, ¬ j = 49 → d' 146 j = d 146 j
theorem gmF_t {d1 d2 : xh_D} (h : gmF d d1) (h2 : gmF d1 d2) : gmF d d2 := ⟨fun q a b c => by rw [h2.1 q a b c, h.1 q a b c], fun j a => by rw [h2.2 j a, h.2 j a]⟩
theorem wsM_c {d' : xh_D} (ws : wsM A B S k n d) (h : gmF d d') : wsM A B S k n d' := by
  unfold wsM at ws ⊢
  rw [h.2 46 (by decide), h.2 1 (by decide), h.1 168 (by decide) (by decide) (by decide)]
  exact ws
theorem sq_262 : ∀ (f : Nat) (D : Nat) (u : Int) (dm : xh_D) (P : xh_D → xd_E → Prop), f + 6 ≤ D → wsM A B S k n dm → 0 ≤ n - (f : Int) → (0 ≤ u ∧ u ≤ n - (f : Int)) → (0 ≤ dm 146 49 ∧ dm 146 49 ≤ 1000000) → (∀ q, 0 ≤ q → q < n - (f : Int) → yR (dm 169 q)) → (∀ d', gmF dm d' → gmS A B S k n f u dm d' → (∀ q, q < n - (f : Int) → d' 169 q = dm 169 q) → P d' e) → yV D 262 L [.ref 146, .int (xJ (n - (f : Int))), .int (xJ u)] dm e P := by
  intro f
  induction f with
  | zero =>
    intro D u dm P hD ws hp hu hB hr hP
    have w4 := ws.2.2.2.1
    have hn := ws.2.1
    refine yV_of rfl rfl rfl (by omega) (yk_262_0 ?_)
    rw [w4]
    refine ⟨by omega, by omega, fun z => ⟨by omega, by omega, fun y => absurd (show n - ((0 : Nat) : Int) = n by omega) y, fun _ => ?_⟩, fun z => ?_⟩
    · have hl := lp_up (n := n) (X := fun i => yB (D - 1) xm_c262 (yQv L P) L 14 [.ref 146, .double 0, .double 0, .int (xJ i), .double 0, .double 0, .double 0, .double 0] [] (xwr (xs dm 146 49 u) 170 i (dm 169)) e) hn.1 ?_ ?_
      · rw [xwr_0] at hl; exact hl
      · intro i a c ih
        refine yk_262_14 ?_
        rw [xwr_fn (p := 146) (by decide), xwr_fn (p := 169) (by decide), xs_ni (i := 1) (by decide), w4, show xs dm 146 49 u 169 = dm 169 by rw [xs_fn, if_neg (by decide)], xwr_s a]
        exact ⟨by omega, by omega, fun z => by omega, fun _ => ⟨by omega, ih⟩⟩
      · refine yk_262_14 ?_
        rw [xwr_fn (p := 146) (by decide), xs_ni (i := 1) (by decide), w4]
        refine ⟨by omega, by omega, fun _ => ?_, fun z => by omega⟩
        have e49 : xwr (xs dm 146 49 u) 170 n (dm 169) 146 49 = u := by rw [xwr_fn (by decide), xs_eq]
        have e169 : xwr (xs dm 146 49 u) 170 n (dm 169) 169 = dm 169 := by rw [xwr_fn (by decide), xs_fn, if_neg (by decide)]
        refine hP _ ⟨fun q h1 _ h3 => by rw [xwr_fn h3, xs_fn, if_neg h1], fun j h => by rw [xwr_fn (by decide), xs_ni h]⟩ (Or.inr ⟨by rw [e49]; omega, by rw [e49]; exact z, ⟨dm 169, rfl, fun q a c => by rw [xwr_at ⟨a, c⟩]⟩, fun M a c => by rw [e49] at c; omega⟩) (fun q _ => by rw [e169])
    · exact hP dm ⟨fun _ _ _ _ => rfl, fun _ _ => rfl⟩ (Or.inl ⟨rfl, fun _ _ _ => rfl, fun M a c => by omega⟩) (fun _ _ => rfl)
  | succ f ih =>
    intro D u dm P hD ws hp hu hB hr hP
    have w4 := ws.2.2.2.1
    have hn := ws.2.1
    rw [show n - ((f + 1 : Nat) : Int) = n - ((f : Int) + 1) by omega] at hp hu hP hr ⊢
    generalize hpp : n - ((f : Int) + 1) = p at hp hu hP hr ⊢
    obtain ⟨w, hw⟩ : ∃ w : Int → Int → Option (Int → Int), w = fun M c => if c < M ∧ fitB A B S k (upI (dm 169) p c) p = true then cfF A B S k n M f (max u (c + 1)) (upI (dm 169) p c) else none := ⟨_, rfl⟩
    have ew : ∀ M, cfF A B S k n M (f + 1) u (dm 169) = fT (w M) 0 (u + 1) := fun M => by
      simp only [cfF]
      rw [hw, hpp]
    refine yV_of rfl rfl rfl (by omega) (yk_262_0 ?_)
    rw [w4]
    refine ⟨by omega, by omega, fun z => ⟨by omega, by omega, fun _ => ?_, fun y => by omega⟩, fun z => ?_⟩
    · have key : ∀ (t : Nat) (c : Int) (d2 : xh_D), c + t = u + 1 → 0 ≤ c → gmF dm d2 → (∀ q, q < p → d2 169 q = dm 169 q) → ((d2 146 49 = dm 146 49 ∧ (∀ q, 0 ≤ q → q < n → d2 170 q = dm 170 q)) ∨ (u ≤ d2 146 49 ∧ d2 146 49 < dm 146 49 ∧ ∃ r, fT (w (d2 146 49)) 0 c = some r ∧ ∀ q, 0 ≤ q → q < n → d2 170 q = r q)) → (∀ M, u ≤ M → M < d2 146 49 → ∀ c', 0 ≤ c' → c' < c → w M c' = none) → yB (D - 1) xm_c262 (yQv L P) L 31 [.ref 146, .int (xJ p), .int (xJ u), .int (xJ c), .double 0, .double 0, .double 0, .double 0] [] d2 e := by
        intro t
        induction t with
        | zero =>
          intro c d2 k1 k2 k3 k4 k6 k7
          refine yk_262_31 ⟨by omega, by omega, fun _ => hP d2 k3 ?_ k4, fun z => by omega⟩
          have cc : c = u + 1 := by omega
          subst cc
          rcases k6 with k6 | ⟨q1, q2, r, q3, q4⟩
          · refine Or.inl ⟨k6.1, k6.2, fun M a c => ?_⟩
            rw [ew]
            exact fT_an (k7 M a (by omega))
          · refine Or.inr ⟨q1, q2, ⟨r, by rw [ew]; exact q3, q4⟩, fun M a c => ?_⟩
            rw [ew]
            exact fT_an (k7 M a c)
        | succ t iht =>
          intro c d2 k1 k2 k3 k4 k6 k7
          have b2 : 0 ≤ d2 146 49 ∧ d2 146 49 ≤ 1000000 := by rcases k6 with k6 | k6 <;> omega
          refine yk_262_31 ⟨by omega, by omega, fun z => by omega, fun _ => ⟨fun z => by omega, fun _ => ⟨by omega, ?_⟩⟩⟩
          have g : gmF dm (xs d2 169 p c) := ⟨fun q h1 h2 h3 => by rw [xs_fn, if_neg h2, k3.1 q h1 h2 h3], fun j h => by rw [xs_np (by decide), k3.2 j h]⟩
          have g49 : xs d2 169 p c 146 49 = d2 146 49 := xs_np (by decide)
          have g170 : xs d2 169 p c 170 = d2 170 := by rw [xs_fn, if_neg (by decide)]
          have g169 : xs d2 169 p c 169 = upI (d2 169) p c := xs_up
          have gu : ∀ q, q ≤ p → upI (d2 169) p c q = upI (dm 169) p c q := fun q h => by
            rw [upI_app, upI_app]
            by_cases z : q = p
            · rw [if_pos z, if_pos z]
            · rw [if_neg z, if_neg z]; exact k4 q (by omega)
          have gr : ∀ q, 0 ≤ q → q ≤ p → yR (xs d2 169 p c 169 q) := fun q a1 a2 => by
            rw [xs_app]
            by_cases z : q = p
            · rw [if_pos ⟨rfl, z⟩]; omega
            · rw [if_neg (fun y => z y.2), k4 q (by omega)]; exact hr q a1 (by omega)
          have g5 : ∀ q, q < p → xs d2 169 p c 169 q = dm 169 q := fun q h => by rw [xs_ni (by omega), k4 q h]
          refine sq_262i (A := A) (B := B) (S := S) (k := k) (n := n) (by omega) (wsM_c ws g) gr (by omega) (by omega) (by omega) (fun y => ?_) (fun y => ?_)
          · rw [g169, fitB_c gu] at y
            have rel : ∀ M, oR n (cfF A B S k n M f (max u (c + 1)) (upI (d2 169) p c)) (cfF A B S k n M f (max u (c + 1)) (upI (dm 169) p c)) := fun M => cf_c f (max u (c + 1)) (upI (d2 169) p c) (upI (dm 169) p c) (fun q h => gu q (by omega))
            have wc : ∀ M, c < M → w M c = cfF A B S k n M f (max u (c + 1)) (upI (dm 169) p c) := fun M h => by rw [hw]; exact if_pos ⟨h, y⟩
            have wn : ∀ M, ¬ c < M → w M c = none := fun M h => by rw [hw]; exact if_neg (fun z => h z.1)
            rw [show p + 1 = n - (f : Int) by omega]
            refine ih (D - 1) (max u (c + 1)) _ _ (by omega) (wsM_c ws g) (by omega) (by omega) (by rw [g49]; exact b2) (fun q a1 a2 => gr q a1 (by omega)) (fun d3 f3 s3 l3 => ?_)
            unfold gmS at s3
            rw [g49, g170, g169] at s3
            have none_c : ∀ M, u ≤ M → M < d3 146 49 → w M c = none := fun M a1 a2 => by
              by_cases v : c < M
              · rw [wc M v]
                have hn' : cfF A B S k n M f (max u (c + 1)) (upI (d2 169) p c) = none := by
                  rcases s3 with s3 | s3
                  · exact s3.2.2 M (by omega) (by omega)
                  · exact s3.2.2.2 M (by omega) a2
                have := rel M
                rw [hn'] at this
                rcases this with v2 | ⟨r1, r2, v2, _⟩
                · exact v2.2
                · exact absurd v2 (by simp)
              · exact wn M v
            have lt3 : d3 146 49 ≤ d2 146 49 := by rcases s3 with s3 | s3 <;> omega
            refine iht (c + 1) d3 (by omega) (by omega) (gmF_t g f3) (fun q h => by rw [l3 q (by omega), g5 q h]) ?_ (fun M a1 a2 c' a3 a4 => ?_)
            · rcases s3 with s3 | ⟨q1, q2, ⟨r, q3, q4⟩, q5⟩
              · rcases k6 with k6 | ⟨x1, x2, r, x3, x4⟩
                · exact Or.inl ⟨by rw [s3.1, k6.1], fun q a1 a2 => by rw [s3.2.1 q a1 a2, k6.2 q a1 a2]⟩
                · rw [s3.1]
                  exact Or.inr ⟨x1, x2, r, fT_pre (by omega) _ _ rfl x3, fun q a1 a2 => by rw [s3.2.1 q a1 a2, x4 q a1 a2]⟩
              · have r2 := rel (d3 146 49)
                rw [q3] at r2
                rcases r2 with v2 | ⟨r1, r2, v1, v2, v3⟩
                · exact absurd v2.1 (by simp)
                · cases v1
                  refine Or.inr ⟨by omega, by rcases k6 with k6 | k6 <;> omega, r2, ?_, fun q a1 a2 => by rw [q4 q a1 a2, v3 q a2]⟩
                  refine fT_at c.toNat 0 (by omega) (fun c' a1 a2 => k7 _ (by omega) (by omega) c' a1 a2) ?_
                  rw [wc _ (by omega)]
                  exact v2
            · by_cases v : c' = c
              · rw [v]; exact none_c M a1 a2
              · exact k7 M a1 (by omega) c' a3 (by omega)
          · rw [g169, fitB_c gu] at y
            have wn : ∀ M, w M c = none := fun M => by rw [hw]; exact if_neg (fun z => by rw [y] at z; exact absurd z.2 (by decide))
            refine iht (c + 1) _ (by omega) (by omega) g g5 ?_ (fun M a1 a2 c' a3 a4 => ?_)
            · rw [g49, g170]
              rcases k6 with k6 | ⟨x1, x2, r, x3, x4⟩
              · exact Or.inl k6
              · exact Or.inr ⟨x1, x2, r, fT_pre (by omega) _ _ rfl x3, x4⟩
            · by_cases v : c' = c
              · rw [v]; exact wn M
              · exact k7 M a1 (by rw [g49] at a2; exact a2) c' a3 (by omega)
      refine key (u + 1).toNat 0 dm (by omega) (by omega) ⟨fun _ _ _ _ => rfl, fun _ _ => rfl⟩ (fun _ _ => rfl) (Or.inl ⟨rfl, fun _ _ _ => rfl⟩) (fun M _ _ c' a1 a2 => by omega)
    · exact hP dm ⟨fun _ _ _ _ => rfl, fun _ _ => rfl⟩ (Or.inl ⟨rfl, fun _ _ _ => rfl, fun M a c => by omega⟩) (fun _ _ => rfl)
end CO2
