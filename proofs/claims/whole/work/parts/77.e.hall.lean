/-! TASKS: how many are wanting is the greatest want of a set of trades. -/
section TS5
variable {m n : Int} {T c tr : Int → Int} {see : Int → Bool} {σ : Int → Int}
theorem php {φ : Int → Int} {k : Int} : ∀ (n : Nat) (f g : Int → Bool), (∀ i : Int, 0 ≤ i → i < (n : Int) → f i = true → (0 ≤ φ i ∧ φ i < k) ∧ g (φ i) = true) → (∀ i i' : Int, 0 ≤ i → i < (n : Int) → 0 ≤ i' → i' < (n : Int) → f i = true → f i' = true → ¬ i = i' → ¬ φ i = φ i') → cI f n ≤ cI g k := by
  intro n
  induction n with
  | zero =>
    intro f g _ _
    rw [show ((0 : Nat) : Int) = 0 from rfl, cI_0]
    unfold cI
    omega
  | succ n ih =>
    intro f g h1 h2
    rw [show ((n + 1 : Nat) : Int) = (n : Int) + 1 from rfl]
    cases w : f n
    · rw [cI_f (by omega) w, Int.add_zero]
      exact ih f g (fun i a b => h1 i a (by omega)) (fun i i' a b a' b' => h2 i i' a (by omega) a' (by omega))
    · rw [cI_t (by omega) w]
      have hn := h1 n (by omega) (by omega) w
      have e1 := cI_one (f := fun s => g s && !decide (s = φ n)) (g := g) (s := φ n) (n := k) hn.1 (fun i _ _ v => by simp [v]) (by simp) hn.2
      have e2 := ih f (fun s => g s && !decide (s = φ n)) (fun i a b v => ?_) (fun i i' a b a' b' => h2 i i' a (by omega) a' (by omega))
      · omega
      · have hi := h1 i a (by omega) v
        have := h2 i n a (by omega) (by omega) (by omega) v w (by omega)
        refine ⟨hi.1, ?_⟩
        simp [hi.2, this]
/-- q can do a task whose trade is in U -/
def exU (m : Int) (T tr : Int → Int) (U : Int → Bool) (q : Int) : Bool := decide (0 < cI (fun j => U (T j) && hsB T tr q j) m)
def ndU (m : Int) (T c : Int → Int) (U : Int → Bool) : Int := cI (fun s => slB m c s && U (T (s / 3))) 18
def whU (m n : Int) (T tr : Int → Int) (see U : Int → Bool) : Int := cI (fun q => see q && exU m T tr U q) n
theorem cI_pos {f : Int → Bool} {n : Int} (hn : 0 ≤ n) : 0 < cI f n ↔ ∃ j, 0 ≤ j ∧ j < n ∧ f j = true := by
  constructor
  · intro h
    obtain ⟨p, a, b, c, _⟩ := cI_ex (h := f) hn ⟨Int.le_refl 0, h⟩
    exact ⟨p, a, b, c⟩
  · intro ⟨j, a, b, h⟩
    have k2 := cI_mono (h := f) (i := j + 1) (j := n) (by omega) (by omega)
    rw [cI_t a h] at k2
    have := (cI_r f a).1
    omega
theorem exU_t {U : Int → Bool} {q : Int} (hm : 0 ≤ m) : exU m T tr U q = true ↔ ∃ j, 0 ≤ j ∧ j < m ∧ U (T j) = true ∧ hsB T tr q j = true := by
  unfold exU
  rw [decide_eq_true_eq, cI_pos hm]
  simp only [Bool.and_eq_true]
theorem slB_t {s : Int} (hm : 0 ≤ m ∧ m ≤ 6) (hs : 0 ≤ s ∧ s < 18) (h : slB m c s = true) : (0 ≤ s / 3 ∧ s / 3 < m) ∧ slT c (s / 3) s := by
  unfold slB at h
  rw [decide_eq_true_eq] at h
  unfold slT
  omega
theorem cI_and {f g : Int → Bool} {n : Int} (hn : 0 ≤ n) : cI f n = cI (fun i => f i && g i) n + cI (fun i => f i && !g i) n := by
  have key : ∀ k : Nat, cI f k = cI (fun i => f i && g i) k + cI (fun i => f i && !g i) k := by
    intro k
    induction k with
    | zero => rfl
    | succ k ih =>
      rw [show ((k + 1 : Nat) : Int) = (k : Int) + 1 from rfl, cI_s _ (by omega), cI_s _ (by omega), cI_s _ (by omega), ih]
      cases f k <;> cases g k <;> simp <;> omega
  have := key n.toNat
  rwa [show ((n.toNat : Nat) : Int) = n by omega] at this
theorem hall1 (hm : 0 ≤ m ∧ m ≤ 6) (hn : 0 ≤ n ∧ n ≤ 10) (w : wtS m T c tr see n σ) (U : Int → Bool) : ndU m T c U - whU m n T tr see U ≤ cI (slB m c) 18 - flN m c σ := by
  obtain ⟨w1, w2, w3, -⟩ := w
  have e1 := cI_and (f := slB m c) (g := fun s => !decide (σ s = -1)) (n := 18) (by omega)
  have e2 := cI_and (f := fun s => slB m c s && U (T (s / 3))) (g := fun s => !decide (σ s = -1)) (n := 18) (by omega)
  have e3 := cI_imp (f := fun s => slB m c s && U (T (s / 3)) && !!decide (σ s = -1)) (g := fun s => slB m c s && !!decide (σ s = -1)) (n := 18) (fun i h => by simp at h ⊢; exact ⟨h.1.1, h.2⟩) (by omega)
  have e4 : cI (fun s => slB m c s && U (T (s / 3)) && !decide (σ s = -1)) 18 ≤ whU m n T tr see U := by
    refine php (φ := σ) (k := n) 18 _ _ (fun s a b h => ?_) (fun s s' a b a' b' h h' d => ?_)
    · simp only [Bool.and_eq_true, Bool.not_eq_true', decide_eq_false_iff_not] at h
      have sl := slB_t hm ⟨a, by omega⟩ h.1.1
      rcases w1 (s / 3) s sl.1.1 sl.1.2 sl.2 with v | v
      · exact absurd v h.2
      · have p := w3 (σ s) v.1.1 ⟨s / 3, s, sl.1, rfl, sl.2, rfl⟩
        refine ⟨by omega, ?_⟩
        rw [p.2, (exU_t hm.1).mpr ⟨s / 3, sl.1.1, sl.1.2, h.1.2, v.2⟩]
        rfl
    · simp only [Bool.and_eq_true, Bool.not_eq_true', decide_eq_false_iff_not] at h h'
      have sl := slB_t hm ⟨a, by omega⟩ h.1.1
      have sl' := slB_t hm ⟨a', by omega⟩ h'.1.1
      exact fun z => h.2 (w2 _ _ s s' sl.1 sl'.1 rfl rfl sl.2 sl'.2 d z)
  unfold ndU flN
  omega
theorem cI_impr {f g : Int → Bool} {n : Int} (hn : 0 ≤ n) (h : ∀ i, 0 ≤ i → i < n → f i = true → g i = true) : cI f n ≤ cI g n := by
  have := php (φ := fun i => i) (k := n) n.toNat f g (fun i a b w => ⟨⟨a, by omega⟩, h i a (by omega) w⟩) (fun i i' _ _ _ _ _ _ d => d)
  rwa [show ((n.toNat : Nat) : Int) = n by omega] at this
theorem hall2 (hm : 0 ≤ m ∧ m ≤ 6) (hn : 0 ≤ n ∧ n ≤ 10) (hc : ∀ j, 0 ≤ j → j < m → 1 ≤ c j ∧ c j ≤ 3) (w : wtS m T c tr see n σ) : ∃ U : Int → Bool, (∀ t, U t = true → ∃ j, 0 ≤ j ∧ j < m ∧ T j = t) ∧ cI (slB m c) 18 - flN m c σ ≤ ndU m T c U - whU m n T tr see U := by
  obtain ⟨w1, w2, w3, C, w4, w5⟩ := w
  obtain ⟨U, hU⟩ : ∃ U : Int → Bool, U = fun t => decide (0 < cI (fun j => decide (T j = t) && !C j) m) := ⟨_, rfl⟩
  have Ut : ∀ t, U t = true ↔ ∃ j, 0 ≤ j ∧ j < m ∧ T j = t ∧ C j = false := fun t => by
    rw [hU]
    simp only [decide_eq_true_eq]
    rw [cI_pos hm.1]
    simp
  refine ⟨U, fun t h => ?_, ?_⟩
  · obtain ⟨j, a, b, h1, _⟩ := (Ut t).mp h
    exact ⟨j, a, b, h1⟩
  have e1 := cI_and (f := slB m c) (g := fun s => !decide (σ s = -1)) (n := 18) (by omega)
  have e2 := cI_and (f := fun s => slB m c s && U (T (s / 3))) (g := fun s => !decide (σ s = -1)) (n := 18) (by omega)
  have e3 := cI_impr (f := fun s => slB m c s && !!decide (σ s = -1)) (g := fun s => slB m c s && U (T (s / 3)) && !!decide (σ s = -1)) (n := 18) (by omega) (fun s a b h => by
    simp at h ⊢
    have sl := slB_t hm ⟨a, by omega⟩ h.1
    refine ⟨⟨h.1, (Ut _).mpr ⟨s / 3, sl.1.1, sl.1.2, rfl, ?_⟩⟩, h.2⟩
    cases v : C (s / 3)
    · rfl
    · exact absurd h.2 (w4 (s / 3) s sl.1.1 sl.1.2 v sl.2).1)
  have e4 : whU m n T tr see U ≤ cI (fun s => slB m c s && U (T (s / 3)) && !decide (σ s = -1)) 18 := by
    have fd : ∀ q, 0 ≤ q → q < n → (see q && exU m T tr U q) = true → ∃ s, fT (fun s => if slB m c s = true ∧ σ s = q then some s else none) 0 18 = some s ∧ (0 ≤ s ∧ s < 18) ∧ σ s = q ∧ slB m c s = true ∧ U (T (s / 3)) = true := fun q a b h => by
      simp only [Bool.and_eq_true] at h
      obtain ⟨j', b1, b2, b3, b4⟩ := (exU_t hm.1).mp h.2
      obtain ⟨j, d1, d2, d3, d4⟩ := (Ut _).mp b3
      have hj : hsB T tr q j = true := by unfold hsB at b4 ⊢; rw [d3]; exact b4
      have pl : plX m c (fun _ => false) σ q := by
        rcases w5 q a b h.1 with v | v
        · exact v
        · rw [v j d1 d2 hj] at d4; exact absurd d4 (by decide)
      obtain ⟨j1, s1, f1, _, f3, f4⟩ := pl
      have sd := sl_d hc f1 f3
      have r1 : 0 ≤ s1 ∧ s1 < 18 := by unfold slT at f3; have := hc j1 f1.1 f1.2; omega
      cases v : fT (fun s => if slB m c s = true ∧ σ s = q then some s else none) 0 18 with
      | none => exact absurd (fT_none v s1 r1.1 r1.2) (by rw [if_pos ⟨sd.2, f4⟩]; simp)
      | some s =>
        obtain ⟨s', g1, g2, g3⟩ := fT_some v
        by_cases u : slB m c s' = true ∧ σ s' = q
        · rw [if_pos u] at g3
          have es := Option.some.inj g3
          rw [← es]
          have sl := slB_t hm ⟨g1, g2⟩ u.1
          refine ⟨s', rfl, ⟨g1, g2⟩, u.2, u.1, (Ut _).mpr ⟨s' / 3, sl.1.1, sl.1.2, rfl, ?_⟩⟩
          cases x : C (s' / 3)
          · rfl
          · have := (w4 (s' / 3) s' sl.1.1 sl.1.2 x sl.2).2 j d1 d2 (by rw [u.2]; exact hj)
            rw [this] at d4; exact absurd d4 (by decide)
        · rw [if_neg u] at g3; exact absurd g3 (by simp)
    have := php (φ := fun q => (fT (fun s => if slB m c s = true ∧ σ s = q then some s else none) 0 18).getD 0) (k := 18) n.toNat (fun q => see q && exU m T tr U q) (fun s => slB m c s && U (T (s / 3)) && !decide (σ s = -1)) (fun q a b h => ?_) (fun q q' a b a' b' h h' d => ?_)
    · rw [show ((n.toNat : Nat) : Int) = n by omega] at this
      exact this
    · obtain ⟨s, g1, g2, g3, g4, g5⟩ := fd q a (by omega) h
      rw [g1]
      show (0 ≤ s ∧ s < 18) ∧ _
      refine ⟨g2, ?_⟩
      show (slB m c s && U (T (s / 3)) && !decide (σ s = -1)) = true
      rw [g4, g5, g3]
      have : ¬ q = -1 := by omega
      simp [this]
    · obtain ⟨s, g1, g2, g3, g4, g5⟩ := fd q a (by omega) h
      obtain ⟨s', k1, k2, k3, k4, k5⟩ := fd q' a' (by omega) h'
      rw [g1, k1]
      exact fun z => d (by rw [← g3, ← k3]; exact congrArg σ z)
  unfold ndU flN
  unfold ndU at *
  omega
end TS5
