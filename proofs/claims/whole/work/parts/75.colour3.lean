/-! CALLS: colours, what can be met. -/
def oR0 (n : Int) (o o' : Option (Int → Int)) : Prop := (o = none ∧ o' = none) ∨ ∃ r r', o = some r ∧ o' = some r' ∧ ∀ q, 0 ≤ q → q < n → r q = r' q
section CO3
variable {L D : Nat} {d : xh_D} {e : xd_E} {A B S : Int → Int} {k n M : Int}
theorem fT_rel0 {n : Int} {f g : Int → Option (Int → Int)} (h : ∀ c, oR0 n (f c) (g c)) : ∀ (t : Nat) (m m2 : Int), (m2 - m).toNat = t → oR0 n (fT f m m2) (fT g m m2) := by
  intro t
  induction t with
  | zero => intro m m2 ht; exact Or.inl ⟨fT_e (by omega), fT_e (by omega)⟩
  | succ t ih =>
    intro m m2 ht
    rcases h m with ⟨h1, h2⟩ | ⟨r, r', h1, h2, h3⟩
    · rw [fT_n (by omega) h1, fT_n (by omega) h2]; exact ih _ _ (by omega)
    · rw [fT_y (by omega) h1, fT_y (by omega) h2]; exact Or.inr ⟨r, r', rfl, rfl, h3⟩
theorem fitB_c0 {r r' : Int → Int} {p : Int} (hA : ∀ i, 0 ≤ i → i < k → 0 ≤ A i ∧ 0 ≤ B i) (h : ∀ q, 0 ≤ q → q ≤ p → r q = r' q) : fitB A B S k r p = fitB A B S k r' p := by
  have : fitB A B S k r p = true ↔ fitB A B S k r' p = true := by
    rw [fitB_t, fitB_t]
    constructor
    · intro w i a c hm
      have := hA i a c
      rw [← h (A i) this.1 (by omega), ← h (B i) this.2 (by omega)]; exact w i a c hm
    · intro w i a c hm
      have := hA i a c
      rw [h (A i) this.1 (by omega), h (B i) this.2 (by omega)]; exact w i a c hm
  cases h1 : fitB A B S k r p <;> cases h2 : fitB A B S k r' p <;> simp_all
theorem cf_c0 (hA : ∀ i, 0 ≤ i → i < k → 0 ≤ A i ∧ 0 ≤ B i) : ∀ (f : Nat) (u : Int) (ρ ρ' : Int → Int), (∀ q, 0 ≤ q → q < n - (f : Int) → ρ q = ρ' q) → oR0 n (cfF A B S k n M f u ρ) (cfF A B S k n M f u ρ') := by
  intro f
  induction f with
  | zero => intro u ρ ρ' h; exact Or.inr ⟨ρ, ρ', rfl, rfl, fun q h0 hq => h q h0 (by omega)⟩
  | succ f ih =>
    intro u ρ ρ' h
    simp only [cfF]
    refine fT_rel0 (fun c => ?_) _ _ _ rfl
    have hu : ∀ q, 0 ≤ q → q ≤ n - ((f : Int) + 1) → upI ρ (n - ((f : Int) + 1)) c q = upI ρ' (n - ((f : Int) + 1)) c q := fun q h0 hq => by
      rw [upI_app, upI_app]
      by_cases z : q = n - ((f : Int) + 1)
      · rw [if_pos z, if_pos z]
      · rw [if_neg z, if_neg z]; exact h q h0 (by omega)
    rw [fitB_c0 hA hu]
    by_cases w : c < M ∧ fitB A B S k (upI ρ' (n - ((f : Int) + 1)) c) (n - ((f : Int) + 1)) = true
    · rw [if_pos w, if_pos w]
      exact ih _ _ _ (fun q h0 hq => hu q h0 (by omega))
    · rw [if_neg w, if_neg w]
      exact Or.inl ⟨rfl, rfl⟩
theorem cf_sound (hA : ∀ i, 0 ≤ i → i < k → (0 ≤ A i ∧ A i < n) ∧ (0 ≤ B i ∧ B i < n)) : ∀ (f : Nat) (u : Int) (ρ r : Int → Int), cfF A B S k n M f u ρ = some r → (∀ q, q < n - (f : Int) → r q = ρ q) ∧ ∀ i, 0 ≤ i → i < k → n - (f : Int) ≤ max (A i) (B i) → (r (A i) = r (B i) ↔ S i = 1) := by
  intro f
  induction f with
  | zero =>
    intro u ρ r h
    simp only [cfF] at h
    cases h
    exact ⟨fun _ _ => rfl, fun i a c h => by have := hA i a c; omega⟩
  | succ f ih =>
    intro u ρ r h
    simp only [cfF] at h
    obtain ⟨c, h1, h2, h3⟩ := fT_some h
    by_cases w : c < M ∧ fitB A B S k (upI ρ (n - ((f : Int) + 1)) c) (n - ((f : Int) + 1)) = true
    · rw [if_pos w] at h3
      obtain ⟨g1, g2⟩ := ih _ _ _ h3
      have fb := fitB_t.mp w.2
      refine ⟨fun q hq => ?_, fun i a c' hm => ?_⟩
      · rw [g1 q (by omega), upI_app, if_neg (by omega)]
      · by_cases z : max (A i) (B i) = n - ((f : Int) + 1)
        · have := fb i a c' z
          rw [g1 (A i) (by omega), g1 (B i) (by omega)]
          exact this
        · exact g2 i a c' (by omega)
    · rw [if_neg w] at h3; exact absurd h3 (by simp)
theorem cf_ex {κ : Int → Int} (hM : n ≤ M) (hA : ∀ i, 0 ≤ i → i < k → (0 ≤ A i ∧ A i < n) ∧ (0 ≤ B i ∧ B i < n)) (hκ : ∀ i, 0 ≤ i → i < k → (κ (A i) = κ (B i) ↔ S i = 1)) : ∀ (f : Nat) (u : Int) (ρ : Int → Int), 0 ≤ n - (f : Int) → (0 ≤ u ∧ u ≤ n - (f : Int)) → (∀ q, 0 ≤ q → q < n - (f : Int) → 0 ≤ ρ q ∧ ρ q < u) → (∀ q q', 0 ≤ q → q < n - (f : Int) → 0 ≤ q' → q' < n - (f : Int) → (ρ q = ρ q' ↔ κ q = κ q')) → ¬ cfF A B S k n M f u ρ = none := by
  intro f
  induction f with
  | zero => intro u ρ _ _ _ _ h; simp only [cfF] at h; exact absurd h (by simp)
  | succ f ih =>
    intro u ρ hp hu hr hk h
    simp only [cfF] at h
    rw [show n - ((f + 1 : Nat) : Int) = n - ((f : Int) + 1) by omega] at hp hu hr hk
    generalize hpp : n - ((f : Int) + 1) = p at hp hu hr hk h
    -- the colour
    have ex : ∃ c, (0 ≤ c ∧ c ≤ u) ∧ ∀ q, 0 ≤ q → q < p → (ρ q = c ↔ κ q = κ p) := by
      by_cases w : ∃ q, 0 ≤ q ∧ q < p ∧ κ q = κ p
      · obtain ⟨q, w1, w2, w3⟩ := w
        refine ⟨ρ q, by have := hr q w1 w2; omega, fun q' a c => ?_⟩
        rw [hk q' q a c w1 w2, w3]
      · refine ⟨u, by omega, fun q a c => ⟨fun z => ?_, fun z => absurd ⟨q, a, c, z⟩ w⟩⟩
        have := hr q a c
        omega
    obtain ⟨c, hc, hcq⟩ := ex
    have up : ∀ q, 0 ≤ q → q < p → upI ρ p c q = ρ q := fun q a b => by rw [upI_app, if_neg (by omega)]
    have upp : upI ρ p c p = c := by rw [upI_app, if_pos rfl]
    have eqv : ∀ q q', 0 ≤ q → q < p + 1 → 0 ≤ q' → q' < p + 1 → (upI ρ p c q = upI ρ p c q' ↔ κ q = κ q') := fun q q' a1 a2 a3 a4 => by
      by_cases z1 : q = p
      · by_cases z2 : q' = p
        · rw [z1, z2]; simp
        · rw [z1, upp, up q' a3 (by omega)]
          have := hcq q' a3 (by omega)
          exact ⟨fun y => (this.mp y.symm).symm, fun y => (this.mpr y.symm).symm⟩
      · by_cases z2 : q' = p
        · rw [z2, upp, up q a1 (by omega)]; exact hcq q a1 (by omega)
        · rw [up q a1 (by omega), up q' a3 (by omega)]; exact hk q q' a1 (by omega) a3 (by omega)
    have hn := fT_none h c (by omega) (by omega)
    rw [if_pos ⟨by omega, fitB_t.mpr (fun i a b hm => by
      have := hA i a b
      rw [eqv (A i) (B i) (by omega) (by omega) (by omega) (by omega)]
      exact hκ i a b)⟩] at hn
    refine ih (max u (c + 1)) (upI ρ p c) (by omega) (by omega) (fun q a b => ?_) (fun q q' a1 a2 a3 a4 => eqv q q' a1 (by omega) a3 (by omega)) hn
    by_cases z : q = p
    · rw [z, upp]; omega
    · rw [up q a (by omega)]
      have := hr q a (by omega)
      omega
theorem sq_93 {a1 a2 : Int} {P : xh_D → xd_E → Prop} (hD : 2 ≤ D) (hn : 0 ≤ n ∧ n ≤ 9) (h2 : yR a2) (hr : ∀ q, 0 ≤ q → q < n → yR (d 141 q)) (h : ∀ d', (∀ q, ¬ q = 141 → d' q = d q) → (∀ q, 0 ≤ q → q < n → d' 141 q = if d 141 q = a2 then a1 else d 141 q) → P d' e) : yV D 93 L [.ref 136, .int (xJ a1), .int (xJ a2), .int (xJ n)] d e P := by
  refine yV_of rfl rfl rfl (by omega) (yk_93_0 ?_)
  refine lp_up (n := n) (X := fun i => ∀ dc, (∀ q, ¬ q = 141 → dc q = d q) → (∀ q, 0 ≤ q → q < n → dc 141 q = if q < i then (if d 141 q = a2 then a1 else d 141 q) else d 141 q) → yB (D - 1) xm_c93 (yQv L P) L 2 [.ref 136, .int (xJ a1), .int (xJ a2), .int (xJ n), .int (xJ i)] [] dc e) hn.1 ?_ ?_ d (fun _ _ => rfl) (fun q a c => by rw [if_neg (by omega)])
  · intro i a c ih dc f v
    have vi := v i a c
    rw [if_neg (by omega)] at vi
    have ri := hr i a c
    refine yk_93_2 ?_
    rw [vi]
    refine ⟨by omega, by omega, fun z => by omega, fun _ => ⟨by omega, ri, h2, fun z => ?_, fun z => ?_⟩⟩
    · refine ih dc f (fun q a1 a2 => ?_)
      rw [v q a1 a2]
      by_cases y : q = i
      · rw [y, if_neg (by omega), if_pos (by omega), if_neg z]
      · by_cases y2 : q < i
        · rw [if_pos y2, if_pos (show q < i + 1 by omega)]
        · rw [if_neg y2, if_neg (by omega)]
    · refine ih _ (fun q hq => by rw [xs_fn, if_neg hq, f q hq]) (fun q a1 a2 => ?_)
      rw [xs_app]
      by_cases y : q = i
      · rw [if_pos ⟨rfl, y⟩, if_pos (by omega), y, if_pos z]
      · rw [if_neg (fun w => y w.2), v q a1 a2]
        by_cases y2 : q < i
        · rw [if_pos y2, if_pos (show q < i + 1 by omega)]
        · rw [if_neg y2, if_neg (by omega)]
  · intro dc f v
    refine yk_93_2 ⟨by omega, by omega, fun _ => h dc f (fun q a c => by rw [v q a c, if_pos c]), fun z => by omega⟩
theorem sq_92 {P1 P0 : xh_D → xd_E → Prop} (hD : 5 ≤ D) (hn : 0 ≤ n ∧ n ≤ 9) (hk : 0 ≤ d 136 5 ∧ d 136 5 ≤ 12) (hA : ∀ i, 0 ≤ i → i < d 136 5 → (0 ≤ d 137 i ∧ d 137 i < n) ∧ (0 ≤ d 138 i ∧ d 138 i < n) ∧ (d 139 i = 0 ∨ d 139 i = 1)) (h1 : (∃ κ : Int → Int, ∀ i, 0 ≤ i → i < d 136 5 → (κ (d 137 i) = κ (d 138 i) ↔ d 139 i = 1)) → ∀ d', (∀ q, ¬ q = 141 → d' q = d q) → P1 d' e) (h0 : (∀ r : Int → Int, ¬ ∀ i, 0 ≤ i → i < d 136 5 → (r (d 137 i) = r (d 138 i) ↔ d 139 i = 1)) → ∀ d', (∀ q, ¬ q = 141 → d' q = d q) → P0 d' e) : yZ D 92 L [.ref 136, .int (xJ n)] d e P1 P0 := by
  refine yZ_of rfl rfl rfl (by omega) (yk_92_0 ?_)
  have hl := lp_up (n := n) (X := fun i => yB (D - 1) xm_c92 (yQz L P1 P0) L 2 [.ref 136, .int (xJ n), .int (xJ i)] [] (xwr d 141 i (fun q => q)) e) hn.1 ?_ ?_
  · rw [xwr_0] at hl; exact hl
  · intro i a c ih
    refine yk_92_2 ⟨by omega, by omega, fun z => by omega, fun _ => ⟨by omega, ?_⟩⟩
    rw [show xs (xwr d 141 i (fun q => q)) 141 i i = xwr d 141 (i + 1) (fun q => q) from xwr_s a]
    exact ih
  refine yk_92_2 ⟨by omega, by omega, fun _ => ?_, fun z => by omega⟩
  refine lp_up (n := d 136 5) (X := fun i => ∀ dc, (∀ q, ¬ q = 141 → dc q = d q) → (∀ q, 0 ≤ q → q < n → 0 ≤ dc 141 q ∧ dc 141 q < 9) → (∀ j, 0 ≤ j → j < i → d 139 j = 1 → dc 141 (d 137 j) = dc 141 (d 138 j)) → (∀ r : Int → Int, (∀ i, 0 ≤ i → i < d 136 5 → (r (d 137 i) = r (d 138 i) ↔ d 139 i = 1)) → ∀ q q', 0 ≤ q → q < n → 0 ≤ q' → q' < n → dc 141 q = dc 141 q' → r q = r q') → yB (D - 1) xm_c92 (yQz L P1 P0) L 14 [.ref 136, .int (xJ n), .int (xJ i)] [] dc e) hk.1 ?_ ?_ (xwr d 141 n (fun q => q)) (fun q hq => by rw [xwr_fn hq]) (fun q a c => by rw [xwr_at ⟨a, c⟩]; omega) (fun j a c => by omega) (fun r _ q q' a1 a2 a3 a4 h => by rw [xwr_at ⟨a1, a2⟩, xwr_at ⟨a3, a4⟩] at h; rw [h])
  · intro i a c ih dc f g1 g2 g3
    have w := hA i a c
    have ga := g1 _ w.1.1 w.1.2
    have gb := g1 _ w.2.1.1 w.2.1.2
    refine yk_92_14 ?_
    rw [f 136 (by decide), f 137 (by decide), f 138 (by decide), f 139 (by decide)]
    refine ⟨by omega, by omega, fun z => by omega, fun _ => ⟨by omega, by omega, fun z => ?_, fun z => ⟨by omega, by omega, ?_⟩⟩⟩
    · exact ih dc f g1 (fun j a1 a2 a3 => by
        by_cases y : j = i
        · rw [y] at a3; exact absurd a3 z
        · exact g2 j a1 (by omega) a3) g3
    · refine sq_93 (by omega) hn (by omega) (fun q a1 a2 => by have := g1 q a1 a2; omega) (fun d' f' v => ?_)
      refine ih d' (fun q hq => by rw [f' q hq, f q hq]) (fun q a1 a2 => ?_) (fun j a1 a2 a3 => ?_) (fun r hr q q' a1 a2 a3 a4 h => ?_)
      · rw [v q a1 a2]
        split
        · exact ga
        · exact g1 q a1 a2
      · have wj := hA j a1 (by omega)
        rw [v _ wj.1.1 wj.1.2, v _ wj.2.1.1 wj.2.1.2]
        by_cases y : j = i
        · rw [y]
          split
          · rw [if_pos rfl]
          · rw [if_pos rfl]
        · rw [g2 j a1 (by omega) a3]
      · have hi := (hr i a c).mpr z
        have s1 : ∀ q, 0 ≤ q → q < n → dc 141 q = dc 141 (d 138 i) → r q = r (d 137 i) := fun q b1 b2 b3 => by rw [g3 r hr q _ b1 b2 w.2.1.1 w.2.1.2 b3, hi]
        have s2 : ∀ q, 0 ≤ q → q < n → dc 141 q = dc 141 (d 137 i) → r q = r (d 137 i) := fun q b1 b2 b3 => g3 r hr q _ b1 b2 w.1.1 w.1.2 b3
        rw [v q a1 a2, v q' a3 a4] at h
        by_cases y1 : dc 141 q = dc 141 (d 138 i)
        · rw [if_pos y1] at h
          by_cases y2 : dc 141 q' = dc 141 (d 138 i)
          · rw [s1 q a1 a2 y1, s1 q' a3 a4 y2]
          · rw [if_neg y2] at h
            rw [s1 q a1 a2 y1, s2 q' a3 a4 h.symm]
        · rw [if_neg y1] at h
          by_cases y2 : dc 141 q' = dc 141 (d 138 i)
          · rw [if_pos y2] at h
            rw [s2 q a1 a2 h, s1 q' a3 a4 y2]
          · rw [if_neg y2] at h
            exact g3 r hr q q' a1 a2 a3 a4 h
  · intro dc f g1 g2 g3
    refine yk_92_14 ?_
    rw [f 136 (by decide)]
    refine ⟨by omega, by omega, fun _ => ?_, fun z => by omega⟩
    have key : ∀ (t : Nat) (i : Int), i + t = d 136 5 → 0 ≤ i → (∀ j, 0 ≤ j → j < i → (dc 141 (d 137 j) = dc 141 (d 138 j) ↔ d 139 j = 1)) → yB (D - 1) xm_c92 (yQz L P1 P0) L 45 [.ref 136, .double 0, .int (xJ i)] [] dc e := by
      intro t
      induction t with
      | zero =>
        intro i k1 k2 k3
        refine yk_92_45 (by omega) ?_
        rw [f 136 (by decide)]
        exact ⟨by omega, by omega, fun _ => h1 ⟨dc 141, fun j a c => k3 j a (by omega)⟩ dc f, fun z => by omega⟩
      | succ t iht =>
        intro i k1 k2 k3
        have w := hA i k2 (by omega)
        have ga := g1 _ w.1.1 w.1.2
        have gb := g1 _ w.2.1.1 w.2.1.2
        refine yk_92_45 (by omega) ?_
        rw [f 136 (by decide), f 137 (by decide), f 138 (by decide), f 139 (by decide)]
        refine ⟨by omega, by omega, fun z => by omega, fun _ => ⟨by omega, by omega, by omega, by omega, by omega, by omega, fun z => ?_, fun z => ?_⟩⟩
        · exact iht (i + 1) (by omega) (by omega) (all_s (p := fun j => (dc 141 (d 137 j) = dc 141 (d 138 j) ↔ d 139 j = 1)) k3 z)
        · refine h0 (fun r hr => z ⟨fun y => ?_, fun y => g2 i k2 (by omega) y⟩) dc f
          exact (hr i k2 (by omega)).mp (g3 r hr _ _ w.1.1 w.1.2 w.2.1.1 w.2.1.2 y)
    exact key (d 136 5).toNat 0 (by omega) (by omega) (fun j a c => by omega)
end CO3
