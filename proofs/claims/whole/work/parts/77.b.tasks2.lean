/-! TASKS: a person is put into a slot. -/
section TS2
variable {m : Int} {T c tr : Int → Int} {X : Int → Bool} {σ : Int → Int}
theorem sl_u {j j' s : Int} (hc : ∀ j, 0 ≤ j → j < m → 1 ≤ c j ∧ c j ≤ 3) (hj : 0 ≤ j ∧ j < m) (hj' : 0 ≤ j' ∧ j' < m) (h : slT c j s) (h' : slT c j' s) : j = j' := by
  rw [← (sl_d hc hj h).1, (sl_d hc hj' h').1]
theorem cI_one {f g : Int → Bool} {s n : Int} (hs : 0 ≤ s ∧ s < n) (h : ∀ i, 0 ≤ i → i < n → ¬ i = s → f i = g i) (hf : f s = false) (hg : g s = true) : cI g n = cI f n + 1 := by
  have key : ∀ k : Nat, (k : Int) ≤ n → cI g k = cI f k + if s < k then 1 else 0 := by
    intro k
    induction k with
    | zero => intro _; rw [if_neg (by omega)]; rfl
    | succ k ih =>
      intro hk
      have i1 := ih (by omega)
      rw [show ((k + 1 : Nat) : Int) = (k : Int) + 1 from rfl]
      by_cases z : (k : Int) = s
      · rw [if_neg (by omega)] at i1
        rw [if_pos (by omega), cI_t (by omega) (by rw [z]; exact hg), cI_f (f := f) (by omega) (by rw [z]; exact hf), i1]
      · have e1 := h k (by omega) (by omega) z
        rw [cI_s g (by omega), cI_s f (by omega), i1, e1]
        by_cases w : s < (k : Int)
        · rw [if_pos w, if_pos (show s < (k : Int) + 1 by omega)]; omega
        · rw [if_neg w, if_neg (show ¬ s < (k : Int) + 1 by omega)]; omega
  have := key n.toNat (by omega)
  rw [show ((n.toNat : Nat) : Int) = n by omega, if_pos hs.2] at this
  exact this
theorem plY_put {p j s : Int} (hm : 0 ≤ m ∧ m ≤ 6) (hc : ∀ j, 0 ≤ j → j < m → 1 ≤ c j ∧ c j ≤ 3) (hj : 0 ≤ j ∧ j < m) (hs : slT c j s) (hX : X j = false) (he : σ s = -1) (hp : 0 ≤ p ∧ p < 10) (hh : hsB T tr p j = true) (hv : vdS m T c tr σ) : plY m T c tr p X σ (upI σ s p) := by
  have ne : ∀ j1 s1, 0 ≤ j1 → j1 < m → slT c j1 s1 → ¬ j1 = j → ¬ s1 = s := fun j1 s1 a b h w z => w (sl_u hc ⟨a, b⟩ hj (by rw [← z]; exact h) hs)
  have ui : ∀ i, ¬ i = s → upI σ s p i = σ i := fun i h => by rw [upI_app, if_neg h]
  have us : upI σ s p s = p := by rw [upI_app, if_pos rfl]
  have sd := sl_d hc hj hs
  refine ⟨fun j1 s1 a b h1 h2 => ui _ (ne j1 s1 a b h2 (fun z => by rw [z, hX] at h1; exact absurd h1 (by decide))), fun j1 s1 a b h2 => ?_, fun hi hn => ⟨fun j1 j2 s1 s2 b1 b2 x1 x2 l1 l2 d12 h => ?_, fun q hq => ⟨fun h => ?_, fun h => ?_⟩⟩, ?_, fun C hC => ⟨fun j1 s1 a b h1 h2 => ui _ (fun z => ?_), j, hj.1, hj.2, hh, ?_⟩⟩
  · by_cases z : s1 = s
    · have : j1 = j := sl_u hc ⟨a, b⟩ hj (by rw [← z]; exact h2) hs
      rw [z, us, this]
      exact Or.inr ⟨hp, hh⟩
    · rw [ui s1 z]; exact hv j1 s1 a b h2
  · by_cases z1 : s1 = s
    · rw [z1, us, ui s2 (by omega)] at h
      exact absurd ⟨j2, s2, b2, x2, l2, h.symm⟩ hn
    · by_cases z2 : s2 = s
      · rw [z2, us, ui s1 z1] at h
        exact absurd ⟨j1, s1, b1, x1, l1, h⟩ hn
      · rw [ui s1 z1, ui s2 z2] at h
        rw [ui s1 z1]
        exact hi j1 j2 s1 s2 b1 b2 x1 x2 l1 l2 d12 h
  · obtain ⟨j1, s1, b1, x1, l1, h⟩ := h
    by_cases z : s1 = s
    · rw [z, us] at h; exact Or.inr h.symm
    · rw [ui s1 z] at h; exact Or.inl ⟨j1, s1, b1, x1, l1, h⟩
  · rcases h with ⟨j1, s1, b1, x1, l1, h⟩ | h
    · refine ⟨j1, s1, b1, x1, l1, ?_⟩
      rw [ui s1 (fun z => by rw [z, he] at h; omega)]; exact h
    · exact ⟨j, s, hj, hX, hs, by rw [us, h]⟩
  · unfold slT at hs
    have := hc j hj.1 hj.2
    unfold flN
    refine cI_one (s := s) (by omega) (fun i a b w => by rw [ui i w]) (by rw [he]; simp) ?_
    rw [sd.2, us]
    have : ¬ p = -1 := by omega
    simp [this]
  · rw [z] at h2
    exact (hC j1 s a b h1 h2).1 he
  · cases w : C j
    · rfl
    · exact absurd he (hC j s hj.1 hj.2 w hs).1
theorem plY_sw {p j s : Int} {X3 : Int → Bool} {σ2 : Int → Int} (hm : 0 ≤ m ∧ m ≤ 6) (hc : ∀ j, 0 ≤ j → j < m → 1 ≤ c j ∧ c j ≤ 3) (hj : 0 ≤ j ∧ j < m) (hs : slT c j s) (hX : X j = false) (hX3 : X3 j = true) (hXX : ∀ j, X j = true → X3 j = true) (he : ¬ σ s = -1) (hp : 0 ≤ p ∧ p < 10) (hh : hsB T tr p j = true) (hv : vdS m T c tr σ) (y : plY m T c tr (σ s) X3 σ σ2) : plY m T c tr p X σ (upI σ2 s p) := by
  have ne : ∀ j1 s1, 0 ≤ j1 → j1 < m → slT c j1 s1 → ¬ j1 = j → ¬ s1 = s := fun j1 s1 a b h w z => w (sl_u hc ⟨a, b⟩ hj (by rw [← z]; exact h) hs)
  have ui : ∀ i, ¬ i = s → upI σ2 s p i = σ2 i := fun i h => by rw [upI_app, if_neg h]
  have us : upI σ2 s p s = p := by rw [upI_app, if_pos rfl]
  have sd := sl_d hc hj hs
  obtain ⟨y1, y2, y3, y4, y5⟩ := y
  have ss : σ2 s = σ s := y1 j s hj.1 hj.2 hX3 hs
  have xf : ∀ j, X3 j = false → X j = false := fun j h => by
    cases w : X j
    · rfl
    · rw [hXX j w] at h; exact absurd h (by decide)
  have n3 : ∀ j1 s1, 0 ≤ j1 → j1 < m → slT c j1 s1 → X3 j1 = false → ¬ s1 = s := fun j1 s1 a b h w => ne j1 s1 a b h (fun z => by rw [z, hX3] at w; exact absurd w (by decide))
  have q0 : 0 ≤ σ s ∧ σ s < 10 := by
    rcases hv j s hj.1 hj.2 hs with w | w
    · exact absurd w he
    · exact w.1
  refine ⟨fun j1 s1 a b h1 h2 => ?_, fun j1 s1 a b h2 => ?_, fun hi hn => ?_, ?_, fun C hC => ?_⟩
  · rw [ui _ (ne j1 s1 a b h2 (fun z => by rw [z, hX] at h1; exact absurd h1 (by decide)))]
    exact y1 j1 s1 a b (hXX j1 h1) h2
  · by_cases z : s1 = s
    · have : j1 = j := sl_u hc ⟨a, b⟩ hj (by rw [← z]; exact h2) hs
      rw [z, us, this]
      exact Or.inr ⟨hp, hh⟩
    · rw [ui s1 z]; exact y2 j1 s1 a b h2
  · have pq : plX m c X σ (σ s) := ⟨j, s, hj, hX, hs, rfl⟩
    have i3 : ijX m c X3 σ := fun j1 j2 s1 s2 b1 b2 x1 x2 => hi j1 j2 s1 s2 b1 b2 (xf j1 x1) (xf j2 x2)
    have np : ¬ plX m c X3 σ (σ s) := fun ⟨j1, s1, b1, x1, l1, h⟩ => he (by
      have := hi j1 j s1 s b1 hj (xf j1 x1) hX l1 hs (n3 j1 s1 b1.1 b1.2 l1 x1) h
      rw [← h]; exact this)
    obtain ⟨w1, w2⟩ := y3 i3 np
    have up : ∀ q, plX m c X3 σ q → plX m c X σ q := fun q ⟨j1, s1, b1, x1, l1, h⟩ => ⟨j1, s1, b1, xf j1 x1, l1, h⟩
    -- who stands in a slot outside s, afterwards
    have cs : ∀ j1 s1, (0 ≤ j1 ∧ j1 < m) → X j1 = false → slT c j1 s1 → (X3 j1 = true ∧ σ2 s1 = σ s1) ∨ (X3 j1 = false) := fun j1 s1 b1 x1 l1 => by
      cases w : X3 j1
      · exact Or.inr rfl
      · exact Or.inl ⟨rfl, y1 j1 s1 b1.1 b1.2 w l1⟩
    have nop : ∀ j1 s1, (0 ≤ j1 ∧ j1 < m) → X j1 = false → slT c j1 s1 → ¬ σ2 s1 = p := fun j1 s1 b1 x1 l1 h => by
      rcases cs j1 s1 b1 x1 l1 with ⟨x3, h3⟩ | x3
      · rw [h3] at h; exact hn ⟨j1, s1, b1, x1, l1, h⟩
      · rcases (w2 p hp.1).mp ⟨j1, s1, b1, x3, l1, h⟩ with v | v
        · exact hn (up p v)
        · rw [← v] at pq; exact hn pq
    have mix : ∀ j1 s1 j2 s2, (0 ≤ j1 ∧ j1 < m) → (0 ≤ j2 ∧ j2 < m) → X j1 = false → slT c j1 s1 → slT c j2 s2 → ¬ s1 = s → X3 j1 = true → X3 j2 = false → σ2 s1 = σ2 s2 → σ2 s1 = -1 := fun j1 s1 j2 s2 b1 b2 x1 l1 l2 n1 x3 x4 h => by
      have h3 := y1 j1 s1 b1.1 b1.2 x3 l1
      rw [h3]
      rcases hv j1 s1 b1.1 b1.2 l1 with v | v
      · exact v
      · rcases (w2 (σ s1) v.1.1).mp ⟨j2, s2, b2, x4, l2, by rw [← h, h3]⟩ with ⟨j3, s3, b3, x5, l3, h5⟩ | u
        · exact hi j1 j3 s1 s3 b1 b3 x1 (xf j3 x5) l1 l3 (fun z => by
            have : j1 = j3 := sl_u hc b1 b3 l1 (by rw [z]; exact l3)
            rw [this, x5] at x3; exact absurd x3 (by decide)) h5.symm
        · exact hi j1 j s1 s b1 hj x1 hX l1 hs n1 u
    refine ⟨fun j1 j2 s1 s2 b1 b2 x1 x2 l1 l2 d12 h => ?_, fun q hq => ⟨fun h => ?_, fun h => ?_⟩⟩
    · by_cases z1 : s1 = s
      · rw [z1, us, ui s2 (by omega)] at h
        exact absurd h.symm (nop j2 s2 b2 x2 l2)
      · by_cases z2 : s2 = s
        · rw [z2, us, ui s1 z1] at h
          exact absurd h (nop j1 s1 b1 x1 l1)
        · rw [ui s1 z1, ui s2 z2] at h
          rw [ui s1 z1]
          rcases cs j1 s1 b1 x1 l1 with ⟨x3, h3⟩ | x3
          · rcases cs j2 s2 b2 x2 l2 with ⟨x4, h4⟩ | x4
            · rw [h3, h4] at h
              rw [h3]
              exact hi j1 j2 s1 s2 b1 b2 x1 x2 l1 l2 d12 h
            · exact mix j1 s1 j2 s2 b1 b2 x1 l1 l2 z1 x3 x4 h
          · rcases cs j2 s2 b2 x2 l2 with ⟨x4, h4⟩ | x4
            · rw [h]; exact mix j2 s2 j1 s1 b2 b1 x2 l2 l1 z2 x4 x3 h.symm
            · exact w1 j1 j2 s1 s2 b1 b2 x3 x4 l1 l2 d12 h
    · obtain ⟨j1, s1, b1, x1, l1, h⟩ := h
      by_cases z : s1 = s
      · rw [z, us] at h; exact Or.inr h.symm
      · rw [ui s1 z] at h
        rcases cs j1 s1 b1 x1 l1 with ⟨x3, h3⟩ | x3
        · rw [h3] at h; exact Or.inl ⟨j1, s1, b1, x1, l1, h⟩
        · rcases (w2 q hq).mp ⟨j1, s1, b1, x3, l1, h⟩ with v | v
          · exact Or.inl (up q v)
          · rw [v]; exact Or.inl pq
    · have back : plX m c X3 σ2 q → plX m c X (upI σ2 s p) q := fun ⟨j2, s2, b2, x2, l2, h2⟩ => ⟨j2, s2, b2, xf j2 x2, l2, by rw [ui s2 (n3 j2 s2 b2.1 b2.2 l2 x2)]; exact h2⟩
      rcases h with ⟨j1, s1, b1, x1, l1, h⟩ | h
      · rcases cs j1 s1 b1 x1 l1 with ⟨x3, h3⟩ | x3
        · by_cases z : s1 = s
          · exact back ((w2 q hq).mpr (Or.inr (by rw [← h, z])))
          · exact ⟨j1, s1, b1, x1, l1, by rw [ui s1 z, h3, h]⟩
        · exact back ((w2 q hq).mpr (Or.inl ⟨j1, s1, b1, x3, l1, h⟩))
      · exact ⟨j, s, hj, hX, hs, by rw [us, h]⟩
  · rw [← y4]
    unfold flN
    refine cI_congr (fun i a b => ?_)
    by_cases z : i = s
    · rw [z, us, ss]
      have e1 : ¬ p = -1 := by omega
      simp [e1, he]
    · rw [ui i z]
  · obtain ⟨c1, j2, c2, c3, c4, c5⟩ := y5 C hC
    have cj : C j = false := by
      cases w : C j
      · rfl
      · have := (hC j s hj.1 hj.2 w hs).2 j2 c2 c3 c4
        rw [this] at c5; exact absurd c5 (by decide)
    refine ⟨fun j1 s1 a b h1 h2 => ?_, j, hj.1, hj.2, hh, cj⟩
    rw [ui _ (ne j1 s1 a b h2 (fun z => by rw [z, cj] at h1; exact absurd h1 (by decide)))]
    exact c1 j1 s1 a b h1 h2
end TS2
