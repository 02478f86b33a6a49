/-! TASKS: what is wanting, as one number; sets of trades as masks. -/
def tb (l t : Int) : Bool := l.toNat.testBit t.toNat
def sub (l w : Int) : Prop := xi_and l w = l
section TS7
variable {m n : Int} {T c tr : Int → Int} {see : Int → Bool} {σ : Int → Int}
theorem tb_b {l : Int} (hl : 0 ≤ l ∧ l < 64) : bI (tb l) 6 = l := by
  obtain ⟨k, rfl⟩ : ∃ k : Nat, l = k := ⟨l.toNat, by omega⟩
  unfold bI tb
  rw [show (fun i : Nat => (k : Int).toNat.testBit (i : Int).toNat) = fun i : Nat => k.testBit i from rfl, show (6 : Int).toNat = 6 from rfl, bm_of (by omega)]
theorem tb_r {f : Int → Bool} {n p : Int} (hp : 0 ≤ p ∧ p < n) : tb (bI f n) p = f p := by
  obtain ⟨k, rfl⟩ : ∃ k : Nat, p = k := ⟨p.toNat, by omega⟩
  unfold bI tb
  rw [Int.toNat_natCast, Int.toNat_natCast, bm_bit, decide_eq_true (show k < n.toNat by omega), Bool.true_and]
theorem tb_t {x t : Int} (hx : 0 ≤ x ∧ x < 64) (ht : 0 ≤ t ∧ t < 6) : (xi_and (xi_shr x t) 1 = 1) ↔ tb x t = true := by
  obtain ⟨k, rfl⟩ : ∃ k : Nat, x = k := ⟨x.toNat, by omega⟩
  obtain ⟨i, rfl⟩ : ∃ i : Nat, t = i := ⟨t.toNat, by omega⟩
  unfold tb
  rw [bt_test (by omega) (by omega), Int.toNat_natCast, Int.toNat_natCast]
  cases k.testBit i <;> simp
theorem tb_z {x t : Int} (hx : 0 ≤ x ∧ x < 64) (ht : 0 ≤ t ∧ t < 6) : (xi_and (xi_shr x t) 1 = 0) ↔ tb x t = false := by
  obtain ⟨k, rfl⟩ : ∃ k : Nat, x = k := ⟨x.toNat, by omega⟩
  obtain ⟨i, rfl⟩ : ∃ i : Nat, t = i := ⟨t.toNat, by omega⟩
  unfold tb
  rw [bt_test (by omega) (by omega), Int.toNat_natCast, Int.toNat_natCast]
  cases k.testBit i <;> simp
theorem hs_tb {q j : Int} (hx : 0 ≤ tr q ∧ tr q < 64) (ht : 0 ≤ T j ∧ T j < 6) : hsB T tr q j = tb (tr q) (T j) := by
  unfold hsB
  have := tb_t hx ht
  cases h : tb (tr q) (T j)
  · rw [h] at this; simpa using this
  · rw [h] at this; simpa using this
theorem bt_6 {x i : Nat} (hx : x < 64) (h : x.testBit i = true) : i < 6 := by
  by_cases z : i < 6
  · exact z
  · rw [Nat.testBit_lt_two_pow (Nat.lt_of_lt_of_le hx (show 2 ^ 6 ≤ 2 ^ i from Nat.pow_le_pow_right (by omega) (by omega)))] at h
    exact absurd h (by decide)
/-- two masks meet -/
theorem an_ex {x l : Int} (hx : 0 ≤ x ∧ x < 64) (hl : 0 ≤ l ∧ l < 64) : ¬ xi_and x l = 0 ↔ ∃ t, (0 ≤ t ∧ t < 6) ∧ tb x t = true ∧ tb l t = true := by
  obtain ⟨a, rfl⟩ : ∃ k : Nat, x = k := ⟨x.toNat, by omega⟩
  obtain ⟨b, rfl⟩ : ∃ k : Nat, l = k := ⟨l.toNat, by omega⟩
  rw [bt_and (by omega) (by omega)]
  unfold tb
  rw [Int.toNat_natCast, Int.toNat_natCast]
  constructor
  · intro h
    have h' : ¬ a &&& b = 0 := fun z => h (by rw [z]; rfl)
    obtain ⟨i, hi⟩ := Nat.exists_testBit_of_ne_zero h'
    rw [Nat.testBit_and, Bool.and_eq_true] at hi
    have := bt_6 (show a < 64 by omega) hi.1
    exact ⟨i, by omega, by rw [Int.toNat_natCast]; exact hi.1, by rw [Int.toNat_natCast]; exact hi.2⟩
  · intro ⟨t, _, h1, h2⟩ h
    have h' : a &&& b = 0 := by omega
    have := congrArg (fun z => z.testBit t.toNat) h'
    simp only [Nat.testBit_and, h1, h2, Nat.zero_testBit] at this
    exact absurd this (by decide)
theorem sub_t {l w : Int} (hl : 0 ≤ l ∧ l < 64) (hw : 0 ≤ w ∧ w < 64) (h : sub l w) {t : Int} (ht : tb l t = true) : tb w t = true := by
  obtain ⟨a, rfl⟩ : ∃ k : Nat, l = k := ⟨l.toNat, by omega⟩
  obtain ⟨b, rfl⟩ : ∃ k : Nat, w = k := ⟨w.toNat, by omega⟩
  unfold sub at h
  rw [bt_and (by omega) (by omega)] at h
  unfold tb at ht ⊢
  rw [Int.toNat_natCast] at ht ⊢
  have h' : a &&& b = a := by omega
  rw [← h', Nat.testBit_and, Bool.and_eq_true] at ht
  exact ht.2
theorem sub_b {f g : Int → Bool} (h : ∀ t, 0 ≤ t → t < 6 → f t = true → g t = true) : sub (bI f 6) (bI g 6) := by
  unfold sub
  rw [bI_and (by omega)]
  refine bI_congr fun t a b => ?_
  cases z : f t
  · rfl
  · rw [h t a b z]; rfl
theorem nx_n : ∀ (l w s : Nat), 0 < l → l &&& w = l → s &&& w = s → s < l → s ≤ (l - 1) &&& w := by
  intro l
  induction l using Nat.strongRecOn with
  | _ l ih =>
    intro w s h0 hl hs hlt
    have a1 : l / 2 &&& w / 2 = l / 2 := by rw [← Nat.and_div_two, hl]
    have a2 : s / 2 &&& w / 2 = s / 2 := by rw [← Nat.and_div_two, hs]
    have d1 : ((l - 1) &&& w) / 2 = (l - 1) / 2 &&& w / 2 := Nat.and_div_two
    have d2 : s % 2 = 1 → w % 2 = 1 := fun u => by
      have e : (s &&& w).testBit 0 = (s.testBit 0 && w.testBit 0) := Nat.testBit_and _ _ _
      rw [hs, Nat.testBit_zero, Nat.testBit_zero, decide_eq_true u, Bool.true_and] at e
      exact of_decide_eq_true e.symm
    have d3 : ((l - 1) &&& w) % 2 = 1 ↔ ((l - 1) % 2 = 1 ∧ w % 2 = 1) := by
      have e : ((l - 1) &&& w).testBit 0 = ((l - 1).testBit 0 && w.testBit 0) := Nat.testBit_and _ _ _
      rw [Nat.testBit_zero, Nat.testBit_zero, Nat.testBit_zero] at e
      rw [← decide_eq_true_iff (p := ((l - 1) &&& w) % 2 = 1), e, Bool.and_eq_true, decide_eq_true_iff, decide_eq_true_iff]
    by_cases p : l % 2 = 1
    · rw [show (l - 1) / 2 = l / 2 by omega, a1] at d1
      omega
    · rw [show (l - 1) / 2 = l / 2 - 1 by omega] at d1
      have i := ih (l / 2) (by omega) (w / 2) (s / 2) (by omega) a1 a2 (by omega)
      omega
theorem sub_nx {l w : Int} (hl : 0 < l ∧ l < 64) (hw : 0 ≤ w ∧ w < 64) (h : sub l w) : (0 ≤ xi_and (l - 1) w ∧ xi_and (l - 1) w < l) ∧ sub (xi_and (l - 1) w) w ∧ ∀ s, 0 ≤ s → s < 64 → sub s w → s < l → s ≤ xi_and (l - 1) w := by
  obtain ⟨a, rfl⟩ : ∃ k : Nat, l = k := ⟨l.toNat, by omega⟩
  obtain ⟨b, rfl⟩ : ∃ k : Nat, w = k := ⟨w.toNat, by omega⟩
  unfold sub at h ⊢
  rw [bt_and (by omega) (by omega)] at h
  rw [show (a : Int) - 1 = ((a - 1 : Nat) : Int) by omega, bt_and (by omega) (by omega)]
  have le : (a - 1) &&& b ≤ a - 1 := Nat.and_le_left
  refine ⟨by omega, ?_, fun s h1 h2 h3 h4 => ?_⟩
  · rw [bt_and (by omega) (by omega), Nat.and_assoc, Nat.and_self]
  · obtain ⟨k, rfl⟩ : ∃ k : Nat, s = k := ⟨s.toNat, by omega⟩
    rw [bt_and (by omega) (by omega)] at h3
    have := nx_n a b k (by omega) (by omega) (by omega) (by omega)
    omega
theorem ndU_c {U U' : Int → Bool} (hm : 0 ≤ m ∧ m ≤ 6) (h : ∀ j, 0 ≤ j → j < m → U (T j) = U' (T j)) : ndU m T c U = ndU m T c U' := by
  unfold ndU
  refine cI_congr fun s a b => ?_
  cases z : slB m c s
  · rfl
  · have := slB_t hm ⟨a, b⟩ z
    rw [h _ this.1.1 this.1.2]
theorem whU_c {U U' : Int → Bool} (h : ∀ j, 0 ≤ j → j < m → U (T j) = U' (T j)) : whU m n T tr see U = whU m n T tr see U' := by
  unfold whU
  refine cI_congr fun q _ _ => ?_
  unfold exU
  rw [cI_congr (fun j a b => by rw [h j a b])]
/-- what is wanting -/
def WN (m n : Int) (T c tr : Int → Int) (see : Int → Bool) : Int := fI (fun l x => max x (ndU m T c (tb l) - whU m n T tr see (tb l))) 0 64
theorem WN_a : 0 ≤ WN m n T c tr see ∧ (∀ l, 0 ≤ l → l < 64 → ndU m T c (tb l) - whU m n T tr see (tb l) ≤ WN m n T c tr see) ∧ ∀ w, 0 ≤ w → (∀ l, 0 ≤ l → l < 64 → ndU m T c (tb l) - whU m n T tr see (tb l) ≤ w) → WN m n T c tr see ≤ w := by
  refine fI_inv (I := fun n' x => 0 ≤ x ∧ (∀ l, 0 ≤ l → l < n' → ndU m T c (tb l) - whU m n T tr see (tb l) ≤ x) ∧ ∀ w, 0 ≤ w → (∀ l, 0 ≤ l → l < n' → ndU m T c (tb l) - whU m n T tr see (tb l) ≤ w) → x ≤ w) ⟨by omega, fun l a b => by omega, fun w a _ => a⟩ ?_ (by omega)
  intro i x a b ⟨h1, h2, h3⟩
  refine ⟨by omega, fun l a1 a2 => ?_, fun w a1 a2 => ?_⟩
  · by_cases z : l = i
    · rw [z]; omega
    · have := h2 l a1 (by omega); omega
  · have := h3 w a1 (fun l b1 b2 => a2 l b1 (by omega))
    have := a2 i a (by omega)
    omega
theorem WN_U (hm : 0 ≤ m ∧ m ≤ 6) (hT : ∀ j, 0 ≤ j → j < m → 0 ≤ T j ∧ T j < 6) (U : Int → Bool) : ndU m T c U - whU m n T tr see U ≤ WN m n T c tr see := by
  have k : ∀ j, 0 ≤ j → j < m → U (T j) = tb (bI U 6) (T j) := fun j a b => (tb_r (hT j a b)).symm
  rw [ndU_c hm k, whU_c k]
  exact WN_a.2.1 _ (bI_r U (by omega)).1 (show bI U 6 < 64 by have := bm_lt (fun k => U k) 6; unfold bI; rw [show (6 : Int).toNat = 6 from rfl]; omega)
theorem WN_eq {w : Int} (hm : 0 ≤ m ∧ m ≤ 6) (hT : ∀ j, 0 ≤ j → j < m → 0 ≤ T j ∧ T j < 6) (h : ∀ U, ndU m T c U - whU m n T tr see U ≤ w) (h2 : ∃ U, w ≤ ndU m T c U - whU m n T tr see U) : w = WN m n T c tr see := by
  have h0 : ndU m T c (fun _ => false) = 0 := by
    unfold ndU
    rw [cI_congr (g := fun _ => false) (fun i a b => by simp)]
    decide
  have e0 : whU m n T tr see (fun _ => false) = 0 := by
    unfold whU
    rw [cI_congr (g := fun _ => false) (fun i a b => by
      have : exU m T tr (fun _ => false) i = false := by
        cases z : exU m T tr (fun _ => false) i
        · rfl
        · obtain ⟨j, _, _, h, _⟩ := (exU_t hm.1).mp z
          exact absurd h (by decide)
      rw [this, Bool.and_false])]
    have key : ∀ k : Nat, cI (fun _ => false) k = 0 := fun k => by
      induction k with
      | zero => rfl
      | succ k ih => rw [show ((k + 1 : Nat) : Int) = (k : Int) + 1 from rfl, cI_f (by omega) rfl, ih]; rfl
    have := key n.toNat
    unfold cI at this ⊢
    rwa [Int.toNat_natCast] at this
  have := h (fun _ => false)
  have u := (WN_a (m := m) (n := n) (T := T) (c := c) (tr := tr) (see := see)).2.2 w (show 0 ≤ w by omega) (fun l a b => h (tb l))
  obtain ⟨U, hU⟩ := h2
  have := WN_U (c := c) (n := n) (tr := tr) (see := see) hm hT U
  omega
theorem WN_c {n' : Int} {tr' : Int → Int} {see' : Int → Bool} (h : ∀ U, whU m n T tr see U = whU m n' T tr' see' U) : WN m n T c tr see = WN m n' T c tr' see' := by
  unfold WN
  exact fI_congr fun l x _ _ => by rw [h]
theorem WN_cc {tr' : Int → Int} {see' : Int → Bool} (h : ∀ q, 0 ≤ q → q < n → see q = see' q ∧ tr q = tr' q) : WN m n T c tr see = WN m n T c tr' see' := by
  refine WN_c fun U => ?_
  unfold whU
  refine cI_congr fun q a b => ?_
  rw [(h q a b).1]
  unfold exU hsB
  rw [(h q a b).2]
theorem WN_18 (hm : 0 ≤ m ∧ m ≤ 6) : 0 ≤ WN m n T c tr see ∧ WN m n T c tr see ≤ 18 := by
  refine ⟨WN_a.1, WN_a.2.2 18 (by omega) fun l _ _ => ?_⟩
  have h1 := (cI_r (fun s => slB m c s && tb l (T (s / 3))) (n := 18) (by omega)).2
  have h2 : 0 ≤ whU m n T tr see (tb l) := by unfold whU cI; omega
  unfold ndU
  omega
theorem WN_is (hm : 0 ≤ m ∧ m ≤ 6) (hn : 0 ≤ n ∧ n ≤ 10) (hT : ∀ j, 0 ≤ j → j < m → 0 ≤ T j ∧ T j < 6) (hc : ∀ j, 0 ≤ j → j < m → 1 ≤ c j ∧ c j ≤ 3) (w : wtS m T c tr see n σ) : sI c m - flN m c σ = WN m n T c tr see := by
  rw [← sl_n hm hc]
  refine WN_eq hm hT (fun U => hall1 hm hn w U) ?_
  obtain ⟨U, _, h⟩ := hall2 hm hn hc w
  exact ⟨U, h⟩
theorem ndL_U (hm : 0 ≤ m ∧ m ≤ 6) (hc : ∀ j, 0 ≤ j → j < m → 1 ≤ c j ∧ c j ≤ 3) (U : Int → Bool) : ndU m T c U = sI (fun j => if U (T j) = true then c j else 0) m := by
  have key : ∀ k : Nat, cI (fun s => slB m c s && U (T (s / 3))) (3 * (k : Int)) = sI (fun j => if U (T j) = true then c j else 0) (min k m) := by
    intro k
    induction k with
    | zero => rw [show min ((0 : Nat) : Int) m = 0 by omega]; rfl
    | succ k ih =>
      have b : ∀ r : Int, 0 ≤ r → r < 3 → (slB m c (3 * (k : Int) + r) && U (T ((3 * (k : Int) + r) / 3))) = (decide ((k : Int) < m ∧ r < c k) && U (T k)) := fun r a1 a2 => by
        unfold slB
        rw [show (3 * (k : Int) + r) / 3 = (k : Int) by omega, show (3 * (k : Int) + r) % 3 = r by omega]
      have b0 := b 0 (by omega) (by omega)
      have b1 := b 1 (by omega) (by omega)
      have b2 := b 2 (by omega) (by omega)
      rw [Int.add_zero] at b0
      rw [show 3 * ((k + 1 : Nat) : Int) = 3 * (k : Int) + 1 + 1 + 1 by omega, cI_s _ (by omega), cI_s _ (by omega), cI_s _ (by omega), ih, show 3 * (k : Int) + 1 + 1 = 3 * (k : Int) + 2 by omega, b0, b1, b2]
      by_cases w : (k : Int) < m
      · have cc := hc k (by omega) w
        rw [show min (k : Int) m = k by omega, show min ((k + 1 : Nat) : Int) m = (k : Int) + 1 by omega, sI_s _ (by omega)]
        have : c k = 1 ∨ c k = 2 ∨ c k = 3 := by omega
        cases hu : U (T k)
        · simp
        · rcases this with h | h | h <;> rw [h] <;> simp [w] <;> omega
      · rw [show min (k : Int) m = m by omega, show min ((k + 1 : Nat) : Int) m = m by omega]
        simp [w]
  have := key 6
  rw [show min ((6 : Nat) : Int) m = m by omega] at this
  exact this
theorem whL {l x : Int} {q : Int} (hm : 0 ≤ m ∧ m ≤ 6) (hT : ∀ j, 0 ≤ j → j < m → 0 ≤ T j ∧ T j < 6) (hl : 0 ≤ l ∧ l < 64) (hx : 0 ≤ tr q ∧ tr q < 64) (ex : tr q = x) (hw : ∀ t, 0 ≤ t → t < 6 → tb l t = true → ∃ j, 0 ≤ j ∧ j < m ∧ T j = t) : (!decide (xi_and x l = 0)) = exU m T tr (tb l) q := by
  subst ex
  have h := an_ex hx hl
  have h2 := exU_t (U := tb l) (T := T) (tr := tr) (q := q) hm.1
  cases z : exU m T tr (tb l) q
  · rw [z] at h2
    have : xi_and (tr q) l = 0 := Decidable.byContradiction fun w => by
      obtain ⟨t, ht, a1, a2⟩ := h.mp w
      obtain ⟨j, b1, b2, b3⟩ := hw t ht.1 ht.2 a2
      exact absurd (h2.mpr ⟨j, b1, b2, by rw [b3]; exact a2, by rw [hs_tb hx (hT j b1 b2), b3]; exact a1⟩) (by decide)
    simp [this]
  · rw [z] at h2
    obtain ⟨j, b1, b2, b3, b4⟩ := h2.mp rfl
    have : ¬ xi_and (tr q) l = 0 := h.mpr ⟨T j, hT j b1 b2, by rw [← hs_tb hx (hT j b1 b2)]; exact b4, b3⟩
    simp [this]
end TS7
