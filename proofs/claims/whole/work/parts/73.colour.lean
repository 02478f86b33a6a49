/-! CALLS: colours, the class's search. -/
def fitB (A B S : Int → Int) (k : Int) (r : Int → Int) (p : Int) : Bool := (fT (fun i => if max (A i) (B i) = p ∧ ¬ (r (A i) = r (B i) ↔ S i = 1) then some i else none) 0 k).isNone
def cfF (A B S : Int → Int) (k n M : Int) : Nat → Int → (Int → Int) → Option (Int → Int)
  | 0, _, ρ => some ρ
  | f + 1, u, ρ => fT (fun c => if c < M ∧ fitB A B S k (upI ρ (n - ((f : Int) + 1)) c) (n - ((f : Int) + 1)) = true then cfF A B S k n M f (max u (c + 1)) (upI ρ (n - ((f : Int) + 1)) c) else none) 0 (u + 1)
def oR (n : Int) (o o' : Option (Int → Int)) : Prop := (o = none ∧ o' = none) ∨ ∃ r r', o = some r ∧ o' = some r' ∧ ∀ q, q < n → r q = r' q
section COL
variable {L D : Nat} {d : xh_D} {e : xd_E} {A B S : Int → Int} {k n M : Int}
theorem fT_an {α : Type} {f : Int → Option α} {m n : Int} (h : ∀ c, m ≤ c → c < n → f c = none) : fT f m n = none := by
  cases w : fT f m n with
  | none => rfl
  | some a =>
    obtain ⟨p, h1, h2, h3⟩ := fT_some w
    rw [h p h1 h2] at h3
    exact absurd h3 (by simp)
theorem fT_rel {n : Int} {f g : Int → Option (Int → Int)} (h : ∀ c, oR n (f c) (g c)) : ∀ (t : Nat) (m m2 : Int), (m2 - m).toNat = t → oR n (fT f m m2) (fT g m m2) := by
  intro t
  induction t with
  | zero => intro m m2 ht; exact Or.inl ⟨fT_e (by omega), fT_e (by omega)⟩
  | succ t ih =>
    intro m m2 ht
    rcases h m with ⟨h1, h2⟩ | ⟨r, r', h1, h2, h3⟩
    · rw [fT_n (by omega) h1, fT_n (by omega) h2]; exact ih _ _ (by omega)
    · rw [fT_y (by omega) h1, fT_y (by omega) h2]; exact Or.inr ⟨r, r', rfl, rfl, h3⟩
theorem fitB_t {r : Int → Int} {p : Int} : fitB A B S k r p = true ↔ ∀ i, 0 ≤ i → i < k → max (A i) (B i) = p → (r (A i) = r (B i) ↔ S i = 1) := by
  unfold fitB
  constructor
  · intro h i a c hm
    have h2 := fT_none (Option.isNone_iff_eq_none.mp h) i a c
    by_cases w : (r (A i) = r (B i) ↔ S i = 1)
    · exact w
    · rw [if_pos ⟨hm, w⟩] at h2; exact absurd h2 (by simp)
  · intro h
    rw [Option.isNone_iff_eq_none]
    refine fT_an (fun i a c => if_neg (fun w => w.2 (h i a c w.1)))
theorem fitB_c {r r' : Int → Int} {p : Int} (h : ∀ q, q ≤ p → r q = r' q) : fitB A B S k r p = fitB A B S k r' p := by
  have : fitB A B S k r p = true ↔ fitB A B S k r' p = true := by
    rw [fitB_t, fitB_t]
    constructor
    · intro w i a c hm
      rw [← h (A i) (by omega), ← h (B i) (by omega)]; exact w i a c hm
    · intro w i a c hm
      rw [h (A i) (by omega), h (B i) (by omega)]; exact w i a c hm
  cases h1 : fitB A B S k r p <;> cases h2 : fitB A B S k r' p <;> simp_all
theorem cf_c : ∀ (f : Nat) (u : Int) (ρ ρ' : Int → Int), (∀ q, q < n - (f : Int) → ρ q = ρ' q) → oR n (cfF A B S k n M f u ρ) (cfF A B S k n M f u ρ') := by
  intro f
  induction f with
  | zero => intro u ρ ρ' h; exact Or.inr ⟨ρ, ρ', rfl, rfl, fun q hq => h q (by omega)⟩
  | succ f ih =>
    intro u ρ ρ' h
    simp only [cfF]
    refine fT_rel (fun c => ?_) _ _ _ rfl
    have hu : ∀ q, q ≤ n - ((f : Int) + 1) → upI ρ (n - ((f : Int) + 1)) c q = upI ρ' (n - ((f : Int) + 1)) c q := fun q hq => by
      rw [upI_app, upI_app]
      by_cases z : q = n - ((f : Int) + 1)
      · rw [if_pos z, if_pos z]
      · rw [if_neg z, if_neg z]; exact h q (by omega)
    rw [fitB_c hu]
    by_cases w : c < M ∧ fitB A B S k (upI ρ' (n - ((f : Int) + 1)) c) (n - ((f : Int) + 1)) = true
    · rw [if_pos w, if_pos w]
      exact ih _ _ _ (fun q hq => hu q (by omega))
    · rw [if_neg w, if_neg w]
      exact Or.inl ⟨rfl, rfl⟩
theorem sq_96 {p : Int} {P1 P0 : xh_D → xd_E → Prop} (hD : 3 ≤ D) (hk : 0 ≤ d 136 5 ∧ d 136 5 ≤ 12) (hA : ∀ i, 0 ≤ i → i < d 136 5 → (0 ≤ d 137 i ∧ d 137 i < 9) ∧ (0 ≤ d 138 i ∧ d 138 i < 9) ∧ (d 139 i = 0 ∨ d 139 i = 1)) (hr : ∀ q, 0 ≤ q → q ≤ p → yR (d 140 q)) (hp : 0 ≤ p ∧ p < 9) (h1 : fitB (d 137) (d 138) (d 139) (d 136 5) (d 140) p = true → P1 d e) (h0 : fitB (d 137) (d 138) (d 139) (d 136 5) (d 140) p = false → P0 d e) : yZ D 96 L [.ref 136, .int (xJ p)] d e P1 P0 := by
  refine yZ_of rfl rfl rfl (by omega) (yk_96_0 ?_)
  have key : ∀ (t : Nat) (i : Int), i + t = d 136 5 → 0 ≤ i → (∀ j, 0 ≤ j → j < i → max (d 137 j) (d 138 j) = p → (d 140 (d 137 j) = d 140 (d 138 j) ↔ d 139 j = 1)) → yB (D - 1) xm_c96 (yQz L P1 P0) L 2 [.ref 136, .int (xJ p), .int (xJ i)] [] d e := by
    intro t
    induction t with
    | zero =>
      intro i h2 h3 h4
      refine yk_96_2 (by omega) ⟨by omega, by omega, fun _ => h1 (fitB_t.mpr (fun j a c => h4 j a (by omega))), fun z => by omega⟩
    | succ t ih =>
      intro i h2 h3 h4
      have w := hA i h3 (by omega)
      refine yk_96_2 (by omega) ⟨by omega, by omega, fun z => by omega, fun _ => ⟨by omega, by omega, by omega, by omega, fun z => ?_, fun z => ⟨w.1, w.2.1, hr _ w.1.1 (by omega), hr _ w.2.1.1 (by omega), by omega, fun y => ?_, fun y => ?_⟩⟩⟩
      · exact ih (i + 1) (by omega) (by omega) (all_s (p := fun j => max (d 137 j) (d 138 j) = p → (d 140 (d 137 j) = d 140 (d 138 j) ↔ d 139 j = 1)) h4 (fun y => absurd y z))
      · exact ih (i + 1) (by omega) (by omega) (all_s (p := fun j => max (d 137 j) (d 138 j) = p → (d 140 (d 137 j) = d 140 (d 138 j) ↔ d 139 j = 1)) h4 (fun _ => y))
      · refine h0 ?_
        cases v : fitB (d 137) (d 138) (d 139) (d 136 5) (d 140) p
        · rfl
        · exact absurd (fitB_t.mp v i h3 (by omega) z) y
  exact key (d 136 5).toNat 0 (by omega) (by omega) (fun j a c => by omega)
theorem sq_95 (hk : 0 ≤ d 136 5 ∧ d 136 5 ≤ 12) (hA : ∀ i, 0 ≤ i → i < d 136 5 → (0 ≤ d 137 i ∧ d 137 i < 9) ∧ (0 ≤ d 138 i ∧ d 138 i < 9) ∧ (d 139 i = 0 ∨ d 139 i = 1)) (hn : 0 ≤ n ∧ n ≤ 9) (hM : 0 ≤ M ∧ M ≤ 9) : ∀ (f : Nat) (D : Nat) (u : Int) (dc : xh_D) (P1 P0 : xh_D → xd_E → Prop), f + 6 ≤ D → 0 ≤ n - (f : Int) → (0 ≤ u ∧ u ≤ 20) → (∀ q, ¬ q = 140 → dc q = d q) → (∀ q, 0 ≤ q → q < n - (f : Int) → yR (dc 140 q)) → (∀ r d', cfF (d 137) (d 138) (d 139) (d 136 5) n M f u (dc 140) = some r → (∀ q, ¬ q = 140 → d' q = d q) → (∀ q, q < n → d' 140 q = r q) → P1 d' e) → (∀ d', cfF (d 137) (d 138) (d 139) (d 136 5) n M f u (dc 140) = none → (∀ q, ¬ q = 140 → d' q = d q) → (∀ q, q < n - (f : Int) → d' 140 q = dc 140 q) → P0 d' e) → yZ D 95 L [.ref 136, .int (xJ (n - (f : Int))), .int (xJ u), .int (xJ M), .int (xJ n)] dc e P1 P0 := by
  intro f
  induction f with
  | zero =>
    intro D u dc P1 P0 hD hp hu hq hr h1 h0
    refine yZ_of rfl rfl rfl (by omega) (yk_95_0 (by omega) ⟨by omega, by omega, fun z => by omega, fun _ => ?_⟩)
    exact h1 (dc 140) dc rfl hq (fun _ _ => rfl)
  | succ f ih =>
    intro D u dc P1 P0 hD hp hu hq hr h1 h0
    rw [show n - ((f + 1 : Nat) : Int) = n - ((f : Int) + 1) by omega] at hp h0 hr ⊢
    generalize hpp : n - ((f : Int) + 1) = p at hp h0 hr ⊢
    obtain ⟨w, hw⟩ : ∃ w : Int → Option (Int → Int), w = fun c => if c < M ∧ fitB (d 137) (d 138) (d 139) (d 136 5) (upI (dc 140) p c) p = true then cfF (d 137) (d 138) (d 139) (d 136 5) n M f (max u (c + 1)) (upI (dc 140) p c) else none := ⟨_, rfl⟩
    have ew : cfF (d 137) (d 138) (d 139) (d 136 5) n M (f + 1) u (dc 140) = fT w 0 (u + 1) := by
      simp only [cfF]
      rw [hw, hpp]
    rw [ew] at h1 h0
    refine yZ_of rfl rfl rfl (by omega) (yk_95_0 (by omega) ⟨by omega, by omega, fun _ => ⟨by omega, by omega, ?_⟩, fun z => by omega⟩)
    have key : ∀ (t : Nat) (c : Int) (d2 : xh_D), c + t = min u (M - 1) + 1 → 0 ≤ c → fT w 0 (u + 1) = fT w c (u + 1) → (∀ q, ¬ q = 140 → d2 q = d q) → (∀ q, q < p → d2 140 q = dc 140 q) → yB (D - 1) xm_c95 (yQz L P1 P0) L 13 [.ref 136, .int (xJ p), .int (xJ u), .int (xJ M), .int (xJ n), .int (xJ (min u (M - 1))), .int (xJ c)] [] d2 e := by
      intro t
      induction t with
      | zero =>
        intro c d2 k1 k2 k3 k4 k5
        refine yk_95_13 (by omega) ⟨by omega, by omega, fun _ => h0 d2 ?_ k4 k5, fun z => by omega⟩
        rw [k3]
        refine fT_an (fun c' a1 a2 => ?_)
        rw [hw]
        exact if_neg (fun z => by omega)
      | succ t iht =>
        intro c d2 k1 k2 k3 k4 k5
        refine yk_95_13 (by omega) ⟨by omega, by omega, fun z => by omega, fun _ => ⟨by omega, ?_⟩⟩
        have g : ∀ q, ¬ q = 140 → xs d2 140 p c q = d q := fun q h => by rw [xs_fn, if_neg h, k4 q h]
        have g140 : xs d2 140 p c 140 = upI (d2 140) p c := xs_up
        have gu : ∀ q, q ≤ p → upI (d2 140) p c q = upI (dc 140) p c q := fun q h => by
          rw [upI_app, upI_app]
          by_cases z : q = p
          · rw [if_pos z, if_pos z]
          · rw [if_neg z, if_neg z]; exact k5 q (by omega)
        have gr : ∀ q, 0 ≤ q → q ≤ p → yR (xs d2 140 p c 140 q) := fun q a1 a2 => by
          rw [xs_app]
          by_cases z : q = p
          · rw [if_pos ⟨rfl, z⟩]; omega
          · rw [if_neg (fun y => z y.2), k5 q (by omega)]; exact hr q a1 (by omega)
        have g5 : ∀ q, q < p → xs d2 140 p c 140 q = dc 140 q := fun q h => by rw [xs_ni (by omega), k5 q h]
        refine sq_96 (by omega) (by rw [g 136 (by decide)]; exact hk) (by rw [g 136 (by decide), g 137 (by decide), g 138 (by decide), g 139 (by decide)]; exact hA) gr (by omega) (fun y => ?_) (fun y => ?_)
        · rw [g 136 (by decide), g 137 (by decide), g 138 (by decide), g 139 (by decide), g140, fitB_c gu] at y
          have wc : w c = cfF (d 137) (d 138) (d 139) (d 136 5) n M f (max u (c + 1)) (upI (dc 140) p c) := by rw [hw]; exact if_pos ⟨by omega, y⟩
          have rel := cf_c (A := d 137) (B := d 138) (S := d 139) (k := d 136 5) (n := n) (M := M) f (max u (c + 1)) (upI (d2 140) p c) (upI (dc 140) p c) (fun q h => gu q (by omega))
          rw [← wc] at rel
          refine ⟨by omega, by omega, ?_⟩
          rw [show p + 1 = n - (f : Int) by omega]
          refine ih (D - 1) (max u (c + 1)) _ _ _ (by omega) (by omega) (by omega) g (fun q a1 a2 => gr q a1 (by omega)) (fun r d' e1 e2 e3 => ?_) (fun d' e1 e2 e3 => ?_)
          · rw [g140] at e1
            rw [e1] at rel
            rcases rel with rel | ⟨r1, r2, q1, q2, q3⟩
            · exact absurd rel.1 (by simp)
            · cases q1
              refine h1 r2 d' ?_ e2 (fun q h => by rw [e3 q h, q3 q h])
              rw [k3]
              exact fT_y (by omega) q2
          · rw [g140] at e1
            rw [e1] at rel
            rcases rel with rel | ⟨r1, r2, q1, q2, q3⟩
            · refine iht (c + 1) d' (by omega) (by omega) ?_ e2 (fun q h => by rw [e3 q (by omega), g5 q h])
              rw [k3]
              exact fT_n (by omega) rel.2
            · exact absurd q1 (by simp)
        · rw [g 136 (by decide), g 137 (by decide), g 138 (by decide), g 139 (by decide), g140, fitB_c gu] at y
          have wc : w c = none := by rw [hw]; exact if_neg (fun z => by rw [y] at z; exact absurd z.2 (by decide))
          refine iht (c + 1) _ (by omega) (by omega) ?_ g g5
          rw [k3]
          exact fT_n (by omega) wc
    exact key (min u (M - 1) + 1).toNat 0 dc (by omega) (by omega) rfl hq (fun _ _ => rfl)
end COL
