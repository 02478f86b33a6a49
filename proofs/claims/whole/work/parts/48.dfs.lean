/-! GUIDES: all rows gone through, the first best kept. -/
def gdD (pr : Int → Int → Int) (n k : Int) : Nat → Int → (Int → Int) → (Int → Int) → (Int × (Int → Int)) → (Int × (Int → Int))
  | 0, sum, _, ch, st => if sum < st.1 then (sum, ch) else st
  | m + 1, sum, lead, ch, st => gdD pr n k m (sum + 1000) lead (upI ch (k - ((m + 1 : Nat) : Int)) (-1)) (fI (fun g s => if pr (k - ((m + 1 : Nat) : Int)) g = -1 ∨ 2 ≤ lead g then s else gdD pr n k m (sum + pr (k - ((m + 1 : Nat) : Int)) g) (upI lead g (lead g + 1)) (upI ch (k - ((m + 1 : Nat) : Int)) g) s) st n)
/-- one step of the loop over guides -/
def gdS (pr : Int → Int → Int) (n k : Int) (m : Nat) (i sum : Int) (lead ch : Int → Int) : Int → (Int × (Int → Int)) → (Int × (Int → Int)) := fun g s => if pr i g = -1 ∨ 2 ≤ lead g then s else gdD pr n k m (sum + pr i g) (upI lead g (lead g + 1)) (upI ch i g) s
theorem gdD_s {pr : Int → Int → Int} {n k i sum : Int} {m : Nat} {lead ch : Int → Int} {st : Int × (Int → Int)} (hi : i = k - ((m + 1 : Nat) : Int)) : gdD pr n k (m + 1) sum lead ch st = gdD pr n k m (sum + 1000) lead (upI ch i (-1)) (fI (gdS pr n k m i sum lead ch) st n) := by
  subst hi
  rfl
theorem gdD_0 {pr : Int → Int → Int} {n k sum : Int} {lead ch : Int → Int} {st : Int × (Int → Int)} : gdD pr n k 0 sum lead ch st = if sum < st.1 then (sum, ch) else st := rfl
/-- nothing better lies behind -/
theorem gdD_ge {pr : Int → Int → Int} {n k : Int} {al : Int → Int} (hn : 0 ≤ n) (h0 : 0 ≤ al k) (h1 : ∀ i g, 0 ≤ i → i < k → 0 ≤ g → g < n → ¬ pr i g = -1 → al i ≤ pr i g + al (i + 1)) (h2 : ∀ i, 0 ≤ i → i < k → al i ≤ 1000 + al (i + 1)) : ∀ (m : Nat), (m : Int) ≤ k → ∀ (sum : Int) (lead ch : Int → Int) (st : Int × (Int → Int)), st.1 ≤ sum + al (k - m) → al k = 0 → gdD pr n k m sum lead ch st = st := by
  intro m
  induction m with
  | zero =>
    intro _ sum lead ch st h hk
    rw [gdD_0, if_neg]
    rw [show k - ((0 : Nat) : Int) = k by omega] at h
    omega
  | succ m ih =>
    intro hm sum lead ch st h hk
    rw [gdD_s (i := k - ((m + 1 : Nat) : Int)) rfl]
    have e1 : k - ((m + 1 : Nat) : Int) + 1 = k - (m : Int) := by omega
    have hf : fI (gdS pr n k m (k - ((m + 1 : Nat) : Int)) sum lead ch) st n = st := by
      refine fI_inv (g := gdS pr n k m (k - ((m + 1 : Nat) : Int)) sum lead ch) (a := st) (I := fun _ s => s = st) rfl ?_ hn
      intro g s g1 g2 hs
      subst hs
      unfold gdS
      split
      · rfl
      · rename_i c
        have c1 : ¬ pr (k - ((m + 1 : Nat) : Int)) g = -1 := fun q => c (Or.inl q)
        have := h1 (k - ((m + 1 : Nat) : Int)) g (by omega) (by omega) g1 g2 c1
        rw [e1] at this
        exact ih (by omega) _ _ _ _ (by omega) hk
    rw [hf]
    have := h2 (k - ((m + 1 : Nat) : Int)) (by omega) (by omega)
    rw [e1] at this
    exact ih (by omega) _ _ _ _ (by omega) hk
theorem gdD_le {pr : Int → Int → Int} {n k : Int} (hn : 0 ≤ n) : ∀ (m : Nat) (sum : Int) (lead ch : Int → Int) (st : Int × (Int → Int)), (gdD pr n k m sum lead ch st).1 ≤ st.1 ∧ (gdD pr n k m sum lead ch st).1 ≤ sum + 1000 * m := by
  intro m
  induction m with
  | zero =>
    intro sum lead ch st
    rw [gdD_0]
    split
    · simp only []; omega
    · omega
  | succ m ih =>
    intro sum lead ch st
    rw [gdD_s (i := k - ((m + 1 : Nat) : Int)) rfl]
    have hf : (fI (gdS pr n k m (k - ((m + 1 : Nat) : Int)) sum lead ch) st n).1 ≤ st.1 := by
      refine fI_inv (g := gdS pr n k m (k - ((m + 1 : Nat) : Int)) sum lead ch) (a := st) (I := fun _ s => s.1 ≤ st.1) (Int.le_refl _) ?_ hn
      intro g s g1 g2 hs
      unfold gdS
      split
      · exact hs
      · exact Int.le_trans (ih _ _ _ _).1 hs
    have := ih (sum + 1000) lead (upI ch (k - ((m + 1 : Nat) : Int)) (-1)) (fI (gdS pr n k m (k - ((m + 1 : Nat) : Int)) sum lead ch) st n)
    refine ⟨Int.le_trans this.1 hf, ?_⟩
    have h2 := this.2
    rw [show ((m + 1 : Nat) : Int) = (m : Int) + 1 from rfl] at h2 ⊢
    omega
/-- a row of guides and what it comes to -/
def gdV (pr : Int → Int → Int) (j x : Int) : Int := if x = -1 then 1000 else pr j x
def gdG (pr : Int → Int → Int) (n i sum : Int) (ch : Int → Int) : Prop := sum = sI (fun j => gdV pr j (ch j)) i ∧ ∀ j, 0 ≤ j → j < i → ch j = -1 ∨ (0 ≤ ch j ∧ ch j < n ∧ ¬ pr j (ch j) = -1)
theorem gdG_s {pr : Int → Int → Int} {n i sum x : Int} {ch : Int → Int} (hi : 0 ≤ i) (h : gdG pr n i sum ch) (hx : x = -1 ∨ (0 ≤ x ∧ x < n ∧ ¬ pr i x = -1)) : gdG pr n (i + 1) (sum + gdV pr i x) (upI ch i x) := by
  refine ⟨?_, fun j a c => ?_⟩
  · rw [sI_s _ hi, h.1, upI_app, if_pos rfl]
    congr 1
    exact sI_congr (fun j a c => by rw [upI_app, if_neg (by omega)])
  · rw [upI_app]
    by_cases z : j = i
    · subst z; rw [if_pos rfl]; exact hx
    · rw [if_neg z]; exact h.2 j a (by omega)
theorem gdD_inv {pr : Int → Int → Int} {n k : Int} (hn : 0 ≤ n) : ∀ (m : Nat), (m : Int) ≤ k → ∀ (sum : Int) (lead ch : Int → Int) (st : Int × (Int → Int)), gdG pr n (k - m) sum ch → gdD pr n k m sum lead ch st = st ∨ gdG pr n k (gdD pr n k m sum lead ch st).1 (gdD pr n k m sum lead ch st).2 := by
  intro m
  induction m with
  | zero =>
    intro _ sum lead ch st h
    rw [gdD_0]
    split
    · rw [show k - ((0 : Nat) : Int) = k by omega] at h
      exact Or.inr h
    · exact Or.inl rfl
  | succ m ih =>
    intro hm sum lead ch st h
    rw [gdD_s (i := k - ((m + 1 : Nat) : Int)) rfl]
    have e1 : k - ((m + 1 : Nat) : Int) + 1 = k - (m : Int) := by omega
    have hf : (fI (gdS pr n k m (k - ((m + 1 : Nat) : Int)) sum lead ch) st n) = st ∨ gdG pr n k (fI (gdS pr n k m (k - ((m + 1 : Nat) : Int)) sum lead ch) st n).1 (fI (gdS pr n k m (k - ((m + 1 : Nat) : Int)) sum lead ch) st n).2 := by
      refine fI_inv (g := gdS pr n k m (k - ((m + 1 : Nat) : Int)) sum lead ch) (a := st) (I := fun _ s => s = st ∨ gdG pr n k s.1 s.2) (Or.inl rfl) ?_ hn
      intro g s g1 g2 hs
      unfold gdS
      split
      · exact hs
      · rename_i c
        have c1 : ¬ pr (k - ((m + 1 : Nat) : Int)) g = -1 := fun q => c (Or.inl q)
        have hg := gdG_s (x := g) (by omega) h (Or.inr ⟨g1, g2, c1⟩)
        rw [e1, show gdV pr (k - ((m + 1 : Nat) : Int)) g = pr (k - ((m + 1 : Nat) : Int)) g from if_neg (by omega)] at hg
        rcases ih (by omega) _ (upI lead g (lead g + 1)) _ s hg with q | q
        · rw [q]; exact hs
        · exact Or.inr q
    have hg := gdG_s (x := -1) (by omega) h (Or.inl rfl)
    rw [e1, show gdV pr (k - ((m + 1 : Nat) : Int)) (-1) = 1000 from if_pos rfl] at hg
    rcases ih (by omega) _ lead _ (fI (gdS pr n k m (k - ((m + 1 : Nat) : Int)) sum lead ch) st n) hg with q | q
    · rw [q]; exact hf
    · exact Or.inr q
/-- the best row of all -/
def gdB (pr : Int → Int → Int) (n k : Int) : Int × (Int → Int) := gdD pr n k k.toNat 0 (fun _ => 0) (fun _ => 0) (k * 1000 + 1, fun _ => 0)
theorem gdB_ok {pr : Int → Int → Int} {n k : Int} (hn : 0 ≤ n) (hk : 0 ≤ k) : gdG pr n k (gdB pr n k).1 (gdB pr n k).2 ∧ (gdB pr n k).1 ≤ k * 1000 := by
  have h1 := gdD_le (pr := pr) (k := k) hn k.toNat 0 (fun _ => 0) (fun _ => 0) (k * 1000 + 1, fun _ => 0)
  have h2 : (gdB pr n k).1 ≤ k * 1000 := by
    have := h1.2
    unfold gdB
    omega
  refine ⟨?_, h2⟩
  rcases gdD_inv (pr := pr) (k := k) hn k.toNat (by omega) 0 (fun _ => 0) (fun _ => 0) (k * 1000 + 1, fun _ => 0) ⟨by rw [show k - ((k.toNat : Nat) : Int) = 0 by omega]; rfl, fun j a c => by omega⟩ with q | q
  · unfold gdB at h2
    rw [q] at h2
    simp only [] at h2
    omega
  · exact q
/-- how many are led by nobody, and the cost of the others -/
theorem gdG_w {pr : Int → Int → Int} {n k w : Int} {ch : Int → Int} (hk : 0 ≤ k ∧ k ≤ 9) (hp : ∀ i g, 0 ≤ i → i < k → 0 ≤ g → g < n → -1 ≤ pr i g ∧ pr i g ≤ 99) (h : gdG pr n k w ch) : w / 1000 = cI (fun j => decide (ch j = -1)) k ∧ 0 ≤ w ∧ w ≤ 9900 := by
  have key : ∀ i : Nat, (i : Int) ≤ k → ∃ r, sI (fun j => gdV pr j (ch j)) i = 1000 * cI (fun j => decide (ch j = -1)) i + r ∧ 0 ≤ r ∧ r ≤ 99 * i := by
    intro i
    induction i with
    | zero => intro _; exact ⟨0, rfl, by omega, by omega⟩
    | succ i ih =>
      intro hi
      obtain ⟨r, r1, r2, r3⟩ := ih (by omega)
      rw [show ((i + 1 : Nat) : Int) = (i : Int) + 1 from rfl, sI_s _ (by omega), r1]
      rcases h.2 i (by omega) (by omega) with q | q
      · rw [cI_t (by omega) (by simp [q])]
        refine ⟨r, ?_, r2, by omega⟩
        rw [show gdV pr i (ch i) = 1000 from if_pos q]
        omega
      · rw [cI_f (by omega) (by simp; omega)]
        have := hp i (ch i) (by omega) (by omega) q.1 q.2.1
        refine ⟨r + pr i (ch i), ?_, by omega, by omega⟩
        rw [show gdV pr i (ch i) = pr i (ch i) from if_neg (by omega)]
        omega
  obtain ⟨r, r1, r2, r3⟩ := key k.toNat (by omega)
  rw [show ((k.toNat : Nat) : Int) = k by omega] at r1 r3
  have hc := cI_r (fun j => decide (ch j = -1)) hk.1
  rw [h.1, r1]
  omega
