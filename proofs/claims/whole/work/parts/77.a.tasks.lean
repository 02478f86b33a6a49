/-! TASKS: what the reference's placing keeps. -/
def hsB (T tr : Int → Int) (q j : Int) : Bool := decide (xi_and (xi_shr (tr q) (T j)) 1 = 1)
/-- s is a slot of task j -/
def slT (c : Int → Int) (j s : Int) : Prop := 3 * j ≤ s ∧ s < 3 * j + c j
/-- the tasks, in the reference -/
def tkM (m : Int) (T c tr : Int → Int) (d : xh_D) : Prop := (0 ≤ m ∧ m ≤ 6) ∧ d 146 38 = m ∧ (∀ j, 0 ≤ j → j < m → d 163 (2 * j) = T j ∧ d 163 (2 * j + 1) = c j ∧ (0 ≤ T j ∧ T j < 6) ∧ (1 ≤ c j ∧ c j ≤ 3)) ∧ ∀ q, 0 ≤ q → q < 10 → d 165 q = tr q
/-- who stands in a slot can do its task -/
def vdS (m : Int) (T c tr : Int → Int) (σ : Int → Int) : Prop := ∀ j s, 0 ≤ j → j < m → slT c j s → σ s = -1 ∨ ((0 ≤ σ s ∧ σ s < 10) ∧ hsB T tr (σ s) j = true)
/-- q stands in a slot of a task that is not in X -/
def plX (m : Int) (c : Int → Int) (X : Int → Bool) (σ : Int → Int) (q : Int) : Prop := ∃ j s, (0 ≤ j ∧ j < m) ∧ X j = false ∧ slT c j s ∧ σ s = q
/-- nobody stands twice, outside X -/
def ijX (m : Int) (c : Int → Int) (X : Int → Bool) (σ : Int → Int) : Prop := ∀ j j' s s', (0 ≤ j ∧ j < m) → (0 ≤ j' ∧ j' < m) → X j = false → X j' = false → slT c j s → slT c j' s' → ¬ s = s' → σ s = σ s' → σ s = -1
/-- a closed set of tasks: full, and who stands in it has no task outside -/
def clX (m : Int) (T c tr : Int → Int) (C : Int → Bool) (σ : Int → Int) : Prop := ∀ j s, 0 ≤ j → j < m → C j = true → slT c j s → ¬ σ s = -1 ∧ ∀ j', 0 ≤ j' → j' < m → hsB T tr (σ s) j' = true → C j' = true
/-- how many slots are filled -/
def slB (m : Int) (c : Int → Int) (s : Int) : Bool := decide (s / 3 < m ∧ s % 3 < c (s / 3))
def flN (m : Int) (c : Int → Int) (σ : Int → Int) : Int := cI (fun s => slB m c s && !decide (σ s = -1)) 18
def plF (d d' : xh_D) : Prop := (∀ q, ¬ q = 146 → ¬ q = 166 → d' q = d q) ∧ ∀ j, ¬ j = 43 → d' 146 j = d 146 j
/-- placing p fails -/
def plN (m : Int) (T c tr : Int → Int) (p : Int) (X X' : Int → Bool) (σ : Int → Int) : Prop := (∀ j, X j = true → X' j = true) ∧ (∀ j s, 0 ≤ j → j < m → X' j = true → X j = false → slT c j s → ¬ σ s = -1 ∧ ∀ j', 0 ≤ j' → j' < m → hsB T tr (σ s) j' = true → X' j' = true) ∧ ∀ j, 0 ≤ j → j < m → hsB T tr p j = true → X' j = true
/-- placing p goes well -/
def plY (m : Int) (T c tr : Int → Int) (p : Int) (X : Int → Bool) (σ σ' : Int → Int) : Prop := (∀ j s, 0 ≤ j → j < m → X j = true → slT c j s → σ' s = σ s) ∧ vdS m T c tr σ' ∧ (ijX m c X σ → ¬ plX m c X σ p → ijX m c X σ' ∧ ∀ q, 0 ≤ q → (plX m c X σ' q ↔ (plX m c X σ q ∨ q = p))) ∧ flN m c σ' = flN m c σ + 1 ∧ ∀ C, clX m T c tr C σ → (∀ j s, 0 ≤ j → j < m → C j = true → slT c j s → σ' s = σ s) ∧ ∃ j, 0 ≤ j ∧ j < m ∧ hsB T tr p j = true ∧ C j = false
section TSK
variable {L D : Nat} {d : xh_D} {e : xd_E} {m : Int} {T c tr : Int → Int}
theorem plF_t {d1 d2 : xh_D} (h : plF d d1) (h2 : plF d1 d2) : plF d d2 := ⟨fun q a b => by rw [h2.1 q a b, h.1 q a b], fun j a => by rw [h2.2 j a, h.2 j a]⟩
theorem tkM_c {d' : xh_D} (h : tkM m T c tr d) (f : plF d d') : tkM m T c tr d' := by
  unfold tkM at h ⊢
  rw [f.2 38 (by decide), f.1 163 (by decide) (by decide), f.1 165 (by decide) (by decide)]
  exact h
theorem hs_t {q j : Int} (h : tkM m T c tr d) (hq : 0 ≤ q ∧ q < 10) (hj : 0 ≤ j ∧ j < m) : (xi_and (xi_shr (d 165 q) (d 163 (2 * j))) 1 = 1) ↔ hsB T tr q j = true := by
  rw [h.2.2.2 q hq.1 hq.2, (h.2.2.1 j hj.1 hj.2).1]
  unfold hsB
  simp
theorem sl_d {j s : Int} (hc : ∀ j, 0 ≤ j → j < m → 1 ≤ c j ∧ c j ≤ 3) (hj : 0 ≤ j ∧ j < m) (h : slT c j s) : s / 3 = j ∧ slB m c s = true := by
  unfold slT at h
  have := hc j hj.1 hj.2
  have e1 : s / 3 = j := by omega
  refine ⟨e1, ?_⟩
  unfold slB
  rw [e1]
  simp only [decide_eq_true_eq]
  omega
/-- the union of two closed sets is closed -/
theorem clX_or {C C' : Int → Bool} {σ : Int → Int} (h : clX m T c tr C σ) (h' : clX m T c tr C' σ) : clX m T c tr (fun j => C j || C' j) σ := by
  intro j s a b hc hs
  rcases Bool.or_eq_true_iff.mp hc with w | w
  · have := h j s a b w hs
    exact ⟨this.1, fun j' a1 a2 a3 => Bool.or_eq_true_iff.mpr (Or.inl (this.2 j' a1 a2 a3))⟩
  · have := h' j s a b w hs
    exact ⟨this.1, fun j' a1 a2 a3 => Bool.or_eq_true_iff.mpr (Or.inr (this.2 j' a1 a2 a3))⟩
/-- a closed set stays closed when placing goes well -/
theorem clX_y {p : Int} {X C : Int → Bool} {σ σ' : Int → Int} (h : clX m T c tr C σ) (y : plY m T c tr p X σ σ') : clX m T c tr C σ' := by
  intro j s a b hc hs
  rw [(y.2.2.2.2 C h).1 j s a b hc hs]
  exact h j s a b hc hs
end TSK
