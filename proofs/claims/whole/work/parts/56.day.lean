/-! A DAY goes by, in the class. -/
def dyS (bs hp : Int → Int) : Int → ((Int → Int) × (Int → Int) × Int) → ((Int → Int) × (Int → Int) × Int) := fun j x => if bs j = -1 then x else lrn (hp j) (bs j) x
/-- while lessons are given: ranges -/
def lsI (n w k : Int) (hp : Int → Int) (j : Int) (x : (Int → Int) × (Int → Int) × Int) : Prop := (∀ p, 0 ≤ p → p < n → 0 ≤ x.1 p ∧ x.1 p < 64) ∧ (∀ i, 0 ≤ i → i < 54 → 0 ≤ x.2.1 i ∧ x.2.1 i ≤ w + 1) ∧ (∀ i j', 0 ≤ i → i < 54 → j ≤ j' → j' < k → i / 6 = hp j' → x.2.1 i ≤ w) ∧ (∀ i, n * 6 ≤ i → i < 54 → x.2.1 i = 0) ∧ (0 ≤ x.2.2 ∧ x.2.2 ≤ j)
theorem lrn_c {p g : Int} {t l : Int → Int} {c : Int} : lrn p g (t, l, c) = ((lrn p g (t, l, 0)).1, (lrn p g (t, l, 0)).2.1, c + (lrn p g (t, l, 0)).2.2) := by
  unfold lrn
  simp only []
  split
  · simp only [Int.add_zero]
  · split
    · simp only [Int.zero_add]
    · simp only [Int.add_zero]
theorem lrn_r {n w k j : Int} {hp bs : Int → Int} {x : (Int → Int) × (Int → Int) × Int} (hn : 0 ≤ n ∧ n ≤ 9) (hj : 0 ≤ j ∧ j < k) (hh : ∀ i, 0 ≤ i → i < k → 0 ≤ hp i ∧ hp i < n) (hd : ∀ i i', 0 ≤ i → i < i' → i' < k → ¬ hp i = hp i') (hb : bs j = -1 ∨ (0 ≤ bs j ∧ bs j < n)) (h : lsI n w k hp j x) : lsI n w k hp (j + 1) (dyS bs hp j x) := by
  obtain ⟨h1, h2, h3, h4, h5⟩ := h
  have keep : lsI n w k hp (j + 1) x := ⟨h1, h2, fun i j' a c a2 c2 q => h3 i j' a c (by omega) c2 q, h4, by omega⟩
  unfold dyS
  split
  · exact keep
  · rename_i q
    have hg : 0 ≤ bs j ∧ bs j < n := by omega
    have hpj := hh j hj.1 hj.2
    have kk := ntz_k (h1 _ hg.1 hg.2) (h1 _ hpj.1 hpj.2)
    unfold lrn
    generalize hv : xi_and (x.1 (bs j)) (xi_xor (x.1 (hp j)) (-1)) = v at kk
    have lst : ∀ i, 0 ≤ i → i < 54 → 0 ≤ upI x.2.1 (hp j * 6 + xp_ntz v) (x.2.1 (hp j * 6 + xp_ntz v) + 1) i ∧ upI x.2.1 (hp j * 6 + xp_ntz v) (x.2.1 (hp j * 6 + xp_ntz v) + 1) i ≤ w + 1 := fun i a c => by
      rw [upI_app]
      split
      · have := h3 (hp j * 6 + xp_ntz v) j (by omega) (by omega) (Int.le_refl _) hj.2 (by omega)
        have := h2 (hp j * 6 + xp_ntz v) (by omega) (by omega)
        omega
      · exact h2 i a c
    have ls3 : ∀ i j', 0 ≤ i → i < 54 → j + 1 ≤ j' → j' < k → i / 6 = hp j' → upI x.2.1 (hp j * 6 + xp_ntz v) (x.2.1 (hp j * 6 + xp_ntz v) + 1) i ≤ w := fun i j' a c a2 c2 z => by
      have := hd j j' hj.1 (by omega) c2
      rw [upI_app, if_neg (by omega)]
      exact h3 i j' a c (by omega) c2 z
    have ls4 : ∀ i, n * 6 ≤ i → i < 54 → upI x.2.1 (hp j * 6 + xp_ntz v) (x.2.1 (hp j * 6 + xp_ntz v) + 1) i = 0 := fun i a c => by
      rw [upI_app, if_neg (by omega)]
      exact h4 i a c
    split
    · exact keep
    · split
      · refine ⟨fun p a c => ?_, lst, ls3, ls4, by simp only []; omega⟩
        simp only [upI_app]
        split
        · exact kk.2.2
        · exact h1 p a c
      · exact ⟨h1, lst, ls3, ls4, by simp only []; omega⟩
theorem lsI_f {n w k : Int} {hp bs : Int → Int} {t l : Int → Int} (hn : 0 ≤ n ∧ n ≤ 9) (hh : ∀ i, 0 ≤ i → i < k → 0 ≤ hp i ∧ hp i < n) (hd : ∀ i i', 0 ≤ i → i < i' → i' < k → ¬ hp i = hp i') (hb : ∀ j, 0 ≤ j → j < k → bs j = -1 ∨ (0 ≤ bs j ∧ bs j < n)) (h1 : ∀ p, 0 ≤ p → p < n → 0 ≤ t p ∧ t p < 64) (h2 : ∀ i, 0 ≤ i → i < 54 → 0 ≤ l i ∧ l i ≤ w) (h4 : ∀ i, n * 6 ≤ i → i < 54 → l i = 0) {j : Int} (hj : 0 ≤ j ∧ j ≤ k) : lsI n w k hp j (fI (dyS bs hp) (t, l, 0) j) := by
  refine fI_inv (n := j) (g := dyS bs hp) (a := (t, l, 0)) (I := fun j x => lsI n w k hp j x) ⟨h1, fun i a c => by have := h2 i a c; simp only []; omega, fun i _ a c _ _ _ => (h2 i a c).2, h4, by simp only []; omega⟩ ?_ hj.1
  intro i x a c hx
  exact lrn_r hn (by omega) hh hd (hb i a (by omega)) hx
def sL (p : Nat) (i : Int) : Bool := p == 126 || (p == 118 && (decide (i = 2) || decide (i = 4)))
section DAY
variable {L D : Nat} {d : xh_D} {e : xd_E}
theorem sq_87_11 {n w k : Int} {hf : Int → Bool} {hp bs : Int → Int} {P : xh_D → xd_E → Prop} (hD : 4 ≤ D) (hn : 0 ≤ n ∧ n ≤ 9) (hk : cI hf n = k) (hpx : hpX hf hp n) (h6 : d 119 6 = k) (h120 : ∀ j, 0 ≤ j → j < k → d 120 j = hp j) (h121 : ∀ j, 0 ≤ j → j < k → d 121 j = bs j) (hb : ∀ j, 0 ≤ j → j < k → bs j = -1 ∨ (0 ≤ bs j ∧ bs j < n)) (hw : d 11 5 = w ∧ 0 ≤ w ∧ w < 1900000000) (ht : ∀ p, 0 ≤ p → p < n → 0 ≤ d 14 p ∧ d 14 p < 64) (hl : ∀ i, 0 ≤ i → i < 54 → 0 ≤ d 15 i ∧ d 15 i ≤ w) (hl0 : ∀ i, n * 6 ≤ i → i < 54 → d 15 i = 0) (hpg : ∀ p, 0 ≤ p → p < 9 → xp_ent (e 16 (w % 30).toNat) p = if p < n then 10 else 11) (h : ∀ d' e', (∀ q, ¬ q = 14 → ¬ q = 15 → ¬ q = 118 → ¬ q = 126 → d' q = d q) → (∀ i, ¬ i = 2 → ¬ i = 4 → d' 118 i = d 118 i) → d' 14 = (fI (dyS bs hp) (d 14, d 15, 0) k).1 → d' 15 = (fI (dyS bs hp) (d 14, d 15, 0) k).2.1 → d' 118 4 = d 118 4 + (fI (dyS bs hp) (d 14, d 15, 0) k).2.2 → d' 118 2 = d 118 2 + cI (fun j => !decide (bs j = -1)) k → (∀ g, 0 ≤ g → g < 9 → d' 126 g = d 126 g + cI (fun j => decide (bs j = g)) k) → (∀ q, ¬ q = 16 → e' q = e q) → (∀ j, ¬ j = (w % 30).toNat → e' 16 j = e 16 j) → (∀ p, 0 ≤ p → p < 9 → xp_ent (e' 16 (w % 30).toNat) p = if p < n then cvF hf bs p else 11) → P d' e') : yV D 87 L [.ref 118, .ref 11] d e P := by
  have kr := cI_r hf hn.1
  rw [hk] at kr
  have hh : ∀ j, 0 ≤ j → j < k → 0 ≤ hp j ∧ hp j < n ∧ hf (hp j) = true ∧ cI hf (hp j) = j := by rw [← hk]; exact hpx.2
  have hd : ∀ i i', 0 ≤ i → i < i' → i' < k → ¬ hp i = hp i' := fun i i' a c c2 q => by
    have h1 := (hh i a (by omega)).2.2.2
    have h2 := (hh i' (by omega) c2).2.2.2
    rw [q, h2] at h1
    omega
  have li := fun j (hj : 0 ≤ j ∧ j ≤ k) => lsI_f (n := n) (w := w) (k := k) (hp := hp) (bs := bs) (t := d 14) (l := d 15) hn (fun i a c => ⟨(hh i a c).1, (hh i a c).2.1⟩) hd hb ht hl hl0 hj
  generalize hS : dyS bs hp = S at h li
  have hSj : ∀ j x, S j x = if bs j = -1 then x else lrn (hp j) (bs j) x := fun j x => by rw [← hS]; rfl
  refine yV_of rfl rfl rfl (by omega) (yk_87_11_0 ?_)
  refine lp_up (n := k) (X := fun j => ∀ dc ec, (∀ q, ¬ q = 14 → ¬ q = 15 → ¬ q = 118 → ¬ q = 126 → dc q = d q) → (∀ i, ¬ i = 2 → ¬ i = 4 → dc 118 i = d 118 i) → dc 14 = (fI S (d 14, d 15, 0) j).1 → dc 15 = (fI S (d 14, d 15, 0) j).2.1 → dc 118 4 = d 118 4 + (fI S (d 14, d 15, 0) j).2.2 → dc 118 2 = d 118 2 + cI (fun j => !decide (bs j = -1)) j → (∀ g, 0 ≤ g → g < 9 → dc 126 g = d 126 g + cI (fun j => decide (bs j = g)) j) → (∀ q, ¬ q = 16 → ec q = e q) → (∀ j, ¬ j = (w % 30).toNat → ec 16 j = e 16 j) → (∀ p, 0 ≤ p → p < 9 → xp_ent (ec 16 (w % 30).toNat) p = if p < n then (if hf p = true ∧ cI hf p < j then cvF hf bs p else 10) else 11) → yB (D - 1) xm_c87 (yQv L P) L 2 [.ref 118, .ref 11, .int (xJ j), .double 0, .double 0] [] dc ec) kr.1 ?_ ?_ d e (fun _ _ _ _ _ => rfl) (fun _ _ _ => rfl) rfl rfl (Int.add_zero _).symm (by rw [cI_0]; omega) (fun g _ _ => by rw [cI_0]; omega) (fun _ _ => rfl) (fun _ _ => rfl) (fun p a c => by
    rw [hpg p a c]
    by_cases z : p < n
    · have := cI_r hf a
      rw [if_pos z, if_pos z, if_neg (by omega)]
    · rw [if_neg z, if_neg z])
  · intro j a c ih dc ec q1 q2 q3 q4 q5 q6 q7 q8 q9 q10
    have hj := hh j a c
    have lj := li j ⟨a, by omega⟩
    have w5 : dc 11 5 = w := by rw [q1 11 (by decide) (by decide) (by decide) (by decide)]; exact hw.1
    have b := hb j a c
    have ent10 : xp_ent (ec 16 (w % 30).toNat) (hp j) = 10 := by rw [q10 _ hj.1 (by omega), if_pos hj.2.1, if_neg (by omega)]
    rw [fI_s _ _ a, hSj] at ih
    refine yk_87_11_2 ?_
    rw [q1 119 (by decide) (by decide) (by decide) (by decide), h6, q1 120 (by decide) (by decide) (by decide) (by decide), q1 121 (by decide) (by decide) (by decide) (by decide), h120 j a c, h121 j a c]
    have pg : ∀ (x : Int), 0 ≤ x ∧ x ≤ 9 → cvF hf bs (hp j) = x → ∀ p, 0 ≤ p → p < 9 → xp_ent (va_up ec 16 (vp_updL (ec 16) (w % 30).toNat ((ec 16 (w % 30).toNat) ^^^ ((xJ (xi_xor 10 x)).toInt64 <<< ((xJ (hp j * 4)).toInt64 &&& 63)))) 16 (w % 30).toNat) p = if p < n then (if hf p = true ∧ cI hf p < j + 1 then cvF hf bs p else 10) else 11 := fun x hx hxe p a2 c2 => by
      have : va_up ec 16 (vp_updL (ec 16) (w % 30).toNat ((ec 16 (w % 30).toNat) ^^^ ((xJ (xi_xor 10 x)).toInt64 <<< ((xJ (hp j * 4)).toInt64 &&& 63)))) 16 (w % 30).toNat = (ec 16 (w % 30).toNat) ^^^ ((xJ (xi_xor 10 x)).toInt64 <<< ((xJ (hp j * 4)).toInt64 &&& 63)) := by simp [va_up, vp_updL]
      rw [this, ent_w _ (by omega) hx ⟨a2, c2⟩ ent10, q10 p a2 c2]
      by_cases z : p = hp j
      · rw [if_pos z, z, if_pos hj.2.1, if_pos ⟨hj.2.2.1, by omega⟩, hxe]
      · rw [if_neg z]
        by_cases z2 : p < n
        · rw [if_pos z2, if_pos z2]
          by_cases z3 : hf p = true
          · have : ¬ cI hf p = j := fun q => z (cI_inj a2 hj.1 z3 hj.2.2.1 (by rw [q, hj.2.2.2]))
            by_cases z4 : cI hf p < j
            · rw [if_pos ⟨z3, z4⟩, if_pos ⟨z3, by omega⟩]
            · rw [if_neg (fun q => z4 q.2), if_neg (fun q => by omega)]
          · rw [if_neg (fun q => z3 q.1), if_neg (fun q => z3 q.1)]
        · rw [if_neg z2, if_neg z2]
    have cv : cvF hf bs (hp j) = if bs j = -1 then 9 else bs j := by unfold cvF; rw [if_pos hj.2.2.1, hj.2.2.2]
    have e1 : ∀ (v : Int64) q, ¬ q = 16 → va_up ec 16 (vp_updL (ec 16) (w % 30).toNat v) q = e q := fun v q hq => by rw [← q8 q hq]; simp [va_up, hq]
    have e2 : ∀ (v : Int64) i, ¬ i = (w % 30).toNat → va_up ec 16 (vp_updL (ec 16) (w % 30).toNat v) 16 i = e 16 i := fun v i hi => by rw [← q9 i hi]; simp [va_up, vp_updL, hi]
    refine ⟨by omega, by omega, fun z => by omega, fun _ => ⟨by omega, by omega, fun z => ?_, fun z => ?_⟩⟩
    · refine yV_of rfl rfl rfl (by omega) (yk_60_11_0 (by omega) ?_)
      rw [w5, Int.sub_zero]
      refine ⟨by omega, by omega, ?_⟩
      refine sq_56_11 (by omega) (by omega) (by omega) ⟨by rw [q3]; exact lj.1 _ hj.1 hj.2.1, by rw [q3]; exact lj.1 _ (by omega) (by omega)⟩ (fun i a2 c2 => by rw [q4]; have := lj.2.1 i a2 c2; omega) (fun d8 c8 f8 l8 => ?_)
      rw [if_neg z] at ih
      have lc := lrn_c (p := hp j) (g := bs j) (t := (fI S (d 14, d 15, 0) j).1) (l := (fI S (d 14, d 15, 0) j).2.1) (c := (fI S (d 14, d 15, 0) j).2.2)
      rw [q3, q4] at l8
      rw [← l8] at lc
      have lcx : lrn (hp j) (bs j) (fI S (d 14, d 15, 0) j) = (d8 14, d8 15, (fI S (d 14, d 15, 0) j).2.2 + c8) := lc
      rw [lcx] at ih
      refine ⟨by omega, ?_⟩
      refine ih _ _ (fun q h1 h2 h3 h4 => ?_) (fun i h1 h2 => ?_) ?_ ?_ ?_ ?_ (fun g a2 c2 => ?_) (e1 _) (e2 _) (pg (bs j) (by omega) (by rw [cv, if_neg z]))
      · rw [xs_fn, if_neg h3, xs_fn, if_neg h4, xs_fn, if_neg h3, f8 q h1 h2, q1 q h1 h2 h3 h4]
      · rw [xs_ni h1, xs_np (by decide), xs_ni h2, f8 118 (by decide) (by decide), q2 i h1 h2]
      · rw [xs_fn, if_neg (by decide), xs_fn, if_neg (by decide), xs_fn, if_neg (by decide)]
      · rw [xs_fn, if_neg (by decide), xs_fn, if_neg (by decide), xs_fn, if_neg (by decide)]
      · rw [xs_ni (by decide), xs_np (by decide), xs_eq, q5]; simp only []; omega
      · rw [xs_eq, f8 118 (by decide) (by decide), q6, cI_t a (by simp [z])]; omega
      · rw [xs_np (by decide), xs_app, f8 126 (by decide) (by decide)]
        by_cases z2 : g = bs j
        · rw [if_pos ⟨rfl, z2⟩, ← z2, q7 g a2 c2, cI_t a (by simp [z2])]; omega
        · rw [if_neg (fun q => z2 q.2), xs_np (by decide), f8 126 (by decide) (by decide), q7 g a2 c2, cI_f a (by simp; exact fun q => z2 q.symm)]; omega
    · refine yV_of rfl rfl rfl (by omega) (yk_60_11_0 (by omega) ?_)
      rw [w5, Int.sub_zero]
      refine ⟨by omega, by omega, ?_⟩
      rw [if_pos z] at ih
      refine ih _ _ q1 q2 q3 q4 q5 ?_ (fun g a2 c2 => ?_) (e1 _) (e2 _) (pg 9 (by omega) (by rw [cv, if_pos z]))
      · rw [q6, cI_f a (by simp [z])]; omega
      · rw [q7 g a2 c2, cI_f a (by simp; omega)]; omega
  · intro dc ec q1 q2 q3 q4 q5 q6 q7 q8 q9 q10
    refine yk_87_11_2 ?_
    rw [q1 119 (by decide) (by decide) (by decide) (by decide), h6]
    refine ⟨by omega, by omega, fun _ => h dc ec q1 q2 q3 q4 q5 q6 q7 q8 q9 (fun p a c => ?_), fun z => by omega⟩
    rw [q10 p a c]
    by_cases z : p < n
    · rw [if_pos z, if_pos z]
      by_cases z2 : hf p = true
      · have := cI_mono (h := hf) (i := p + 1) (j := n) (by omega) (by omega)
        rw [cI_t a z2, hk] at this
        rw [if_pos ⟨z2, by omega⟩]
      · rw [if_neg (fun q => z2 q.1)]
        unfold cvF
        rw [if_neg z2]
    · rw [if_neg z, if_neg z]
theorem sq_87_17 {n w k : Int} {hf : Int → Bool} {hp bs : Int → Int} {P : xh_D → xd_E → Prop} (hD : 4 ≤ D) (hn : 0 ≤ n ∧ n ≤ 9) (hk : cI hf n = k) (hpx : hpX hf hp n) (h6 : d 119 6 = k) (h120 : ∀ j, 0 ≤ j → j < k → d 120 j = hp j) (h121 : ∀ j, 0 ≤ j → j < k → d 121 j = bs j) (hb : ∀ j, 0 ≤ j → j < k → bs j = -1 ∨ (0 ≤ bs j ∧ bs j < n)) (hw : d 17 5 = w ∧ 0 ≤ w ∧ w < 1900000000) (ht : ∀ p, 0 ≤ p → p < n → 0 ≤ d 20 p ∧ d 20 p < 64) (hl : ∀ i, 0 ≤ i → i < 54 → 0 ≤ d 21 i ∧ d 21 i ≤ w) (hl0 : ∀ i, n * 6 ≤ i → i < 54 → d 21 i = 0) (hpg : ∀ p, 0 ≤ p → p < 9 → xp_ent (e 22 (w % 30).toNat) p = if p < n then 10 else 11) (h : ∀ d' e', (∀ q, ¬ q = 20 → ¬ q = 21 → ¬ q = 118 → ¬ q = 126 → d' q = d q) → (∀ i, ¬ i = 2 → ¬ i = 4 → d' 118 i = d 118 i) → d' 20 = (fI (dyS bs hp) (d 20, d 21, 0) k).1 → d' 21 = (fI (dyS bs hp) (d 20, d 21, 0) k).2.1 → d' 118 4 = d 118 4 + (fI (dyS bs hp) (d 20, d 21, 0) k).2.2 → d' 118 2 = d 118 2 + cI (fun j => !decide (bs j = -1)) k → (∀ g, 0 ≤ g → g < 9 → d' 126 g = d 126 g + cI (fun j => decide (bs j = g)) k) → (∀ q, ¬ q = 22 → e' q = e q) → (∀ j, ¬ j = (w % 30).toNat → e' 22 j = e 22 j) → (∀ p, 0 ≤ p → p < 9 → xp_ent (e' 22 (w % 30).toNat) p = if p < n then cvF hf bs p else 11) → P d' e') : yV D 87 L [.ref 118, .ref 17] d e P := by
  have kr := cI_r hf hn.1
  rw [hk] at kr
  have hh : ∀ j, 0 ≤ j → j < k → 0 ≤ hp j ∧ hp j < n ∧ hf (hp j) = true ∧ cI hf (hp j) = j := by rw [← hk]; exact hpx.2
  have hd : ∀ i i', 0 ≤ i → i < i' → i' < k → ¬ hp i = hp i' := fun i i' a c c2 q => by
    have h1 := (hh i a (by omega)).2.2.2
    have h2 := (hh i' (by omega) c2).2.2.2
    rw [q, h2] at h1
    omega
  have li := fun j (hj : 0 ≤ j ∧ j ≤ k) => lsI_f (n := n) (w := w) (k := k) (hp := hp) (bs := bs) (t := d 20) (l := d 21) hn (fun i a c => ⟨(hh i a c).1, (hh i a c).2.1⟩) hd hb ht hl hl0 hj
  generalize hS : dyS bs hp = S at h li
  have hSj : ∀ j x, S j x = if bs j = -1 then x else lrn (hp j) (bs j) x := fun j x => by rw [← hS]; rfl
  refine yV_of rfl rfl rfl (by omega) (yk_87_17_0 ?_)
  refine lp_up (n := k) (X := fun j => ∀ dc ec, (∀ q, ¬ q = 20 → ¬ q = 21 → ¬ q = 118 → ¬ q = 126 → dc q = d q) → (∀ i, ¬ i = 2 → ¬ i = 4 → dc 118 i = d 118 i) → dc 20 = (fI S (d 20, d 21, 0) j).1 → dc 21 = (fI S (d 20, d 21, 0) j).2.1 → dc 118 4 = d 118 4 + (fI S (d 20, d 21, 0) j).2.2 → dc 118 2 = d 118 2 + cI (fun j => !decide (bs j = -1)) j → (∀ g, 0 ≤ g → g < 9 → dc 126 g = d 126 g + cI (fun j => decide (bs j = g)) j) → (∀ q, ¬ q = 22 → ec q = e q) → (∀ j, ¬ j = (w % 30).toNat → ec 22 j = e 22 j) → (∀ p, 0 ≤ p → p < 9 → xp_ent (ec 22 (w % 30).toNat) p = if p < n then (if hf p = true ∧ cI hf p < j then cvF hf bs p else 10) else 11) → yB (D - 1) xm_c87 (yQv L P) L 2 [.ref 118, .ref 17, .int (xJ j), .double 0, .double 0] [] dc ec) kr.1 ?_ ?_ d e (fun _ _ _ _ _ => rfl) (fun _ _ _ => rfl) rfl rfl (Int.add_zero _).symm (by rw [cI_0]; omega) (fun g _ _ => by rw [cI_0]; omega) (fun _ _ => rfl) (fun _ _ => rfl) (fun p a c => by
    rw [hpg p a c]
    by_cases z : p < n
    · have := cI_r hf a
      rw [if_pos z, if_pos z, if_neg (by omega)]
    · rw [if_neg z, if_neg z])
  · intro j a c ih dc ec q1 q2 q3 q4 q5 q6 q7 q8 q9 q10
    have hj := hh j a c
    have lj := li j ⟨a, by omega⟩
    have w5 : dc 17 5 = w := by rw [q1 17 (by decide) (by decide) (by decide) (by decide)]; exact hw.1
    have b := hb j a c
    have ent10 : xp_ent (ec 22 (w % 30).toNat) (hp j) = 10 := by rw [q10 _ hj.1 (by omega), if_pos hj.2.1, if_neg (by omega)]
    rw [fI_s _ _ a, hSj] at ih
    refine yk_87_17_2 ?_
    rw [q1 119 (by decide) (by decide) (by decide) (by decide), h6, q1 120 (by decide) (by decide) (by decide) (by decide), q1 121 (by decide) (by decide) (by decide) (by decide), h120 j a c, h121 j a c]
    have pg : ∀ (x : Int), 0 ≤ x ∧ x ≤ 9 → cvF hf bs (hp j) = x → ∀ p, 0 ≤ p → p < 9 → xp_ent (va_up ec 22 (vp_updL (ec 22) (w % 30).toNat ((ec 22 (w % 30).toNat) ^^^ ((xJ (xi_xor 10 x)).toInt64 <<< ((xJ (hp j * 4)).toInt64 &&& 63)))) 22 (w % 30).toNat) p = if p < n then (if hf p = true ∧ cI hf p < j + 1 then cvF hf bs p else 10) else 11 := fun x hx hxe p a2 c2 => by
      have : va_up ec 22 (vp_updL (ec 22) (w % 30).toNat ((ec 22 (w % 30).toNat) ^^^ ((xJ (xi_xor 10 x)).toInt64 <<< ((xJ (hp j * 4)).toInt64 &&& 63)))) 22 (w % 30).toNat = (ec 22 (w % 30).toNat) ^^^ ((xJ (xi_xor 10 x)).toInt64 <<< ((xJ (hp j * 4)).toInt64 &&& 63)) := by simp [va_up, vp_updL]
      rw [this, ent_w _ (by omega) hx ⟨a2, c2⟩ ent10, q10 p a2 c2]
      by_cases z : p = hp j
      · rw [if_pos z, z, if_pos hj.2.1, if_pos ⟨hj.2.2.1, by omega⟩, hxe]
      · rw [if_neg z]
        by_cases z2 : p < n
        · rw [if_pos z2, if_pos z2]
          by_cases z3 : hf p = true
          · have : ¬ cI hf p = j := fun q => z (cI_inj a2 hj.1 z3 hj.2.2.1 (by rw [q, hj.2.2.2]))
            by_cases z4 : cI hf p < j
            · rw [if_pos ⟨z3, z4⟩, if_pos ⟨z3, by omega⟩]
            · rw [if_neg (fun q => z4 q.2), if_neg (fun q => by omega)]
          · rw [if_neg (fun q => z3 q.1), if_neg (fun q => z3 q.1)]
        · rw [if_neg z2, if_neg z2]
    have cv : cvF hf bs (hp j) = if bs j = -1 then 9 else bs j := by unfold cvF; rw [if_pos hj.2.2.1, hj.2.2.2]
    have e1 : ∀ (v : Int64) q, ¬ q = 22 → va_up ec 22 (vp_updL (ec 22) (w % 30).toNat v) q = e q := fun v q hq => by rw [← q8 q hq]; simp [va_up, hq]
    have e2 : ∀ (v : Int64) i, ¬ i = (w % 30).toNat → va_up ec 22 (vp_updL (ec 22) (w % 30).toNat v) 22 i = e 22 i := fun v i hi => by rw [← q9 i hi]; simp [va_up, vp_updL, hi]
    refine ⟨by omega, by omega, fun z => by omega, fun _ => ⟨by omega, by omega, fun z => ?_, fun z => ?_⟩⟩
    · refine yV_of rfl rfl rfl (by omega) (yk_60_17_0 (by omega) ?_)
      rw [w5, Int.sub_zero]
      refine ⟨by omega, by omega, ?_⟩
      refine sq_56_17 (by omega) (by omega) (by omega) ⟨by rw [q3]; exact lj.1 _ hj.1 hj.2.1, by rw [q3]; exact lj.1 _ (by omega) (by omega)⟩ (fun i a2 c2 => by rw [q4]; have := lj.2.1 i a2 c2; omega) (fun d8 c8 f8 l8 => ?_)
      rw [if_neg z] at ih
      have lc := lrn_c (p := hp j) (g := bs j) (t := (fI S (d 20, d 21, 0) j).1) (l := (fI S (d 20, d 21, 0) j).2.1) (c := (fI S (d 20, d 21, 0) j).2.2)
      rw [q3, q4] at l8
      rw [← l8] at lc
      have lcx : lrn (hp j) (bs j) (fI S (d 20, d 21, 0) j) = (d8 20, d8 21, (fI S (d 20, d 21, 0) j).2.2 + c8) := lc
      rw [lcx] at ih
      refine ⟨by omega, ?_⟩
      refine ih _ _ (fun q h1 h2 h3 h4 => ?_) (fun i h1 h2 => ?_) ?_ ?_ ?_ ?_ (fun g a2 c2 => ?_) (e1 _) (e2 _) (pg (bs j) (by omega) (by rw [cv, if_neg z]))
      · rw [xs_fn, if_neg h3, xs_fn, if_neg h4, xs_fn, if_neg h3, f8 q h1 h2, q1 q h1 h2 h3 h4]
      · rw [xs_ni h1, xs_np (by decide), xs_ni h2, f8 118 (by decide) (by decide), q2 i h1 h2]
      · rw [xs_fn, if_neg (by decide), xs_fn, if_neg (by decide), xs_fn, if_neg (by decide)]
      · rw [xs_fn, if_neg (by decide), xs_fn, if_neg (by decide), xs_fn, if_neg (by decide)]
      · rw [xs_ni (by decide), xs_np (by decide), xs_eq, q5]; simp only []; omega
      · rw [xs_eq, f8 118 (by decide) (by decide), q6, cI_t a (by simp [z])]; omega
      · rw [xs_np (by decide), xs_app, f8 126 (by decide) (by decide)]
        by_cases z2 : g = bs j
        · rw [if_pos ⟨rfl, z2⟩, ← z2, q7 g a2 c2, cI_t a (by simp [z2])]; omega
        · rw [if_neg (fun q => z2 q.2), xs_np (by decide), f8 126 (by decide) (by decide), q7 g a2 c2, cI_f a (by simp; exact fun q => z2 q.symm)]; omega
    · refine yV_of rfl rfl rfl (by omega) (yk_60_17_0 (by omega) ?_)
      rw [w5, Int.sub_zero]
      refine ⟨by omega, by omega, ?_⟩
      rw [if_pos z] at ih
      refine ih _ _ q1 q2 q3 q4 q5 ?_ (fun g a2 c2 => ?_) (e1 _) (e2 _) (pg 9 (by omega) (by rw [cv, if_pos z]))
      · rw [q6, cI_f a (by simp [z])]; omega
      · rw [q7 g a2 c2, cI_f a (by simp; omega)]; omega
  · intro dc ec q1 q2 q3 q4 q5 q6 q7 q8 q9 q10
    refine yk_87_17_2 ?_
    rw [q1 119 (by decide) (by decide) (by decide) (by decide), h6]
    refine ⟨by omega, by omega, fun _ => h dc ec q1 q2 q3 q4 q5 q6 q7 q8 q9 (fun p a c => ?_), fun z => by omega⟩
    rw [q10 p a c]
    by_cases z : p < n
    · rw [if_pos z, if_pos z]
      by_cases z2 : hf p = true
      · have := cI_mono (h := hf) (i := p + 1) (j := n) (by omega) (by omega)
        rw [cI_t a z2, hk] at this
        rw [if_pos ⟨z2, by omega⟩]
      · rw [if_neg (fun q => z2 q.1)]
        unfold cvF
        rw [if_neg z2]
    · rw [if_neg z, if_neg z]
end DAY
