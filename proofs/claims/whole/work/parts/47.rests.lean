/-! RINGS till there is none. -/
def rsF (lk : Int → Int) (n : Int) : Nat → (Int → Int) → Int × (Int → Int)
  | 0, h => (0, h)
  | k + 1, h => match rgF (wF lk h) n with
    | none => (0, h)
    | some (len, rg) => ((rsF lk n k (trn rg len h)).1 + 1, (rsF lk n k (trn rg len h)).2)
theorem rsF_r {lk : Int → Int} {n : Int} : ∀ (k : Nat) (h : Int → Int), 0 ≤ (rsF lk n k h).1 ∧ (rsF lk n k h).1 ≤ k
  | 0, h => by unfold rsF; omega
  | k + 1, h => by
    unfold rsF
    split
    · simp only []; omega
    · have := rsF_r (lk := lk) (n := n) k
      rename_i len rg _
      have := this (trn rg len h)
      simp only []
      omega
theorem rsF_h {lk : Int → Int} {n : Int} : ∀ (k : Nat) (h : Int → Int), (∀ p, 0 ≤ p → p < n → 0 ≤ h p ∧ h p < 9) → ∀ p, 0 ≤ p → p < n → 0 ≤ (rsF lk n k h).2 p ∧ (rsF lk n k h).2 p < 9
  | 0, h, hh => hh
  | k + 1, h, hh => by
    unfold rsF
    split
    · exact hh
    · rename_i len rg g
      obtain ⟨o1, o2, -⟩ := rgF_ok g
      exact rsF_h k _ (trn_all (Q := fun x => 0 ≤ x ∧ x < 9) o1.1 o2 hh)
theorem rsF_n {lk : Int → Int} {n : Int} (k : Nat) {h : Int → Int} (g : rgF (wF lk h) n = none) : rsF lk n k h = (0, h) := by
  cases k with
  | zero => rfl
  | succ k => unfold rsF; rw [g]
theorem rsF_s {lk : Int → Int} {n len : Int} {rg : Int → Int} (k : Nat) {h : Int → Int} (g : rgF (wF lk h) n = some (len, rg)) : rsF lk n (k + 1) h = ((rsF lk n k (trn rg len h)).1 + 1, (rsF lk n k (trn rg len h)).2) := by
  rw [rsF, g]
section RST
variable {R : xR} {b : Int} {L D : Nat} {d : xh_D} {e : xd_E}
theorem rgX_h {a : Nat} {lk h : Int → Int} {n : Int} (h6 : d 6 4 = n) (hn : 0 ≤ n ∧ n ≤ 9) (h8 : d 8 = lk) (hl : ∀ i, 0 ≤ i → i < 81 → 0 ≤ lk i ∧ lk i ≤ 9) (hh : ∀ p, 0 ≤ p → p < n → 0 ≤ h p ∧ h p < 9) (ha : ∀ p, 0 ≤ p → p < n → d a p = h p) : rgX a (wF lk h) n d := by
  refine ⟨h6, hn, fun p a c => by rw [ha p a c]; exact hh p a c, by rw [h8]; exact hl, fun p q a c a2 c2 => ?_⟩
  unfold wF
  rw [decide_eq_true_iff, ha p a c, ha q a2 c2, h8]
theorem rgM_h {a : Nat} {lk h : Int → Int} {n : Int} (h6 : d 146 1 = n) (hn : 0 ≤ n ∧ n ≤ 9) (h8 : ∀ p x, 0 ≤ p → p < n → 0 ≤ x → x < 9 → d 149 (9 * p + x) = lk (p * 9 + x)) (hl : ∀ i, 0 ≤ i → i < 81 → 0 ≤ lk i ∧ lk i ≤ 9) (hh : ∀ p, 0 ≤ p → p < n → 0 ≤ h p ∧ h p < 9) (ha : ∀ p, 0 ≤ p → p < n → d a p = h p) : rgM a (wF lk h) n d := by
  refine ⟨h6, hn, fun p a c => by rw [ha p a c]; exact hh p a c, fun p x a c a2 c2 => by rw [h8 p x a c a2 c2]; exact hl _ (by omega) (by omega), fun p q a c a2 c2 => ?_⟩
  have h1 := hh p a c
  have h2 := hh q a2 c2
  unfold wF
  rw [decide_eq_true_iff, ha p a c, ha q a2 c2, h8 p _ a c h1.1 h1.2, h8 p _ a c h2.1 h2.2]
/-- the class: from the loop's head on -/
theorem sx_155 {lk : Int → Int} {n : Int} {P : Int → xh_D → xd_E → Prop} {e1 : xd_E} (hD : 9 ≤ D) (hn : 0 ≤ n ∧ n ≤ 9) (hl : ∀ i, 0 ≤ i → i < 81 → 0 ≤ lk i ∧ lk i ≤ 9) (h6 : d 6 4 = n) (h8 : d 8 = lk) : ∀ (k : Nat) (h : Int → Int) (dc : xh_D) (i : Int), (k : Int) + i = 81 → 0 ≤ i → (∀ p, 0 ≤ p → p < n → 0 ≤ h p ∧ h p < 9) → Fk sx d dc → (∀ p, 0 ≤ p → p < n → dc 18 p = h p) → (∀ (l : Int), (∀ d3, Fk sx d d3 → (∀ p, 0 ≤ p → p < n → d3 18 p = (rsF lk n k h).2 p) → P (i + (rsF lk n k h).1) (xs (xwr d3 5 n (d3 18)) 4 1 n) e1) → ((∃ rg, rgF (wF lk h) n = some (l, rg) ∧ ∀ j, 0 ≤ j → j < l → dc 9 j = rg j) ∨ (l = 0 ∧ rgF (wF lk h) n = none)) → yB D xm_c155 (yQi L P) L 16 [.ref 1, .int (xJ i), .int (xJ l), .int (xJ i)] [] dc e1) := by
  -- the end
  have fin : ∀ (r : Int) (h : Int → Int) (dc : xh_D), (∀ p, 0 ≤ p → p < n → 0 ≤ h p ∧ h p < 9) → Fk sx d dc → (∀ p, 0 ≤ p → p < n → dc 18 p = h p) → P r (xs (xwr dc 5 n (dc 18)) 4 1 n) e1 → yB D xm_c155 (yQi L P) L 43 [.ref 1, .int (xJ r), .double 0, .int (xJ 0)] [] (xs dc 4 1 0) e1 := by
    intro r h dc hh f h18 hp
    have hlp := lp_up (n := n) (X := fun i => yB D xm_c155 (yQi L P) L 43 [.ref 1, .int (xJ r), .double 0, .int (xJ i)] [] (xs (xwr dc 5 i (dc 18)) 4 1 i) e1) hn.1 ?_ ?_
    · rw [xwr_0] at hlp; exact hlp
    · intro i i1 i2 ih
      refine yk_155_43 (by omega) ?_
      rw [xs_eq, show xs (xwr dc 5 i (dc 18)) 4 1 i 6 = dc 6 by rw [xs_fn, if_neg (by decide), xwr_fn (by decide)], Fk_p f (p := 6) (fun _ => rfl), h6, show xs (xwr dc 5 i (dc 18)) 4 1 i 18 = dc 18 by rw [xs_fn, if_neg (by decide), xwr_fn (by decide)], xs_row (by decide) i1 rfl]
      exact ⟨by omega, by omega, fun c => by omega, fun _ => ⟨by omega, by omega, ih⟩⟩
    · refine yk_155_43 (by omega) ?_
      rw [show xs (xwr dc 5 n (dc 18)) 4 1 n 6 = dc 6 by rw [xs_fn, if_neg (by decide), xwr_fn (by decide)], Fk_p f (p := 6) (fun _ => rfl), h6]
      exact ⟨by omega, by omega, fun _ => hp, fun c => by omega⟩
  intro k
  induction k with
  | zero =>
    intro h dc i hk i0 hh f h18 l hp hr
    refine yk_155_16 (by omega) ⟨by omega, fun _ => fin i h dc hh f h18 ?_, fun c => by omega⟩
    have := hp dc f h18
    rw [show i + (rsF lk n 0 h).1 = i from Int.add_zero i] at this
    exact this
  | succ k ih =>
    intro h dc i hk i0 hh f h18 l hp hr
    rcases hr with ⟨rg, g, hr⟩ | ⟨hl0, g⟩
    · obtain ⟨o1, o2, -⟩ := rgF_ok g
      rw [rsF_s k g] at hp
      refine yk_155_16 (by omega) ⟨by omega, fun c => by omega, fun _ => ⟨by omega, fun c => by omega, fun _ => ?_⟩⟩
      refine sq_28_18 (rg := rg) (by omega) o1 (fun j a c => ⟨hr j a c, by have := o2 j a c; omega⟩) ?_
      generalize hd1 : xpl dc 18 (trn rg l (dc 18)) = d1
      have f1 : Fk sx d d1 := by rw [← hd1]; exact Fk_pl f (fun _ => rfl)
      have h18' : ∀ p, 0 ≤ p → p < n → d1 18 p = trn rg l h p := fun p a c => by rw [← hd1, xpl_at]; exact trn_congr o1.1 o2 h18 p a c
      have hh' := trn_all (Q := fun x => 0 ≤ x ∧ x < 9) o1.1 o2 hh
      have nx : ∀ (l2 : Int) (d2 : xh_D), Fk s9 d1 d2 → ((∃ rg2, rgF (wF lk (trn rg l h)) n = some (l2, rg2) ∧ ∀ j, 0 ≤ j → j < l2 → d2 9 j = rg2 j) ∨ (l2 = 0 ∧ rgF (wF lk (trn rg l h)) n = none)) → yB D xm_c155 (yQi L P) L 16 [.ref 1, .int (xJ (i + 1)), .int (xJ l2), .int (xJ (i + 1))] [] d2 e1 := fun l2 d2 f2 hr2 => by
        have f2' : Fk sx d1 d2 := Fk_mono f2 (fun p i q => by
          by_cases z : p = 9
          · subst z; exact absurd (show true = false from q) (by decide)
          · simp [s9, z])
        refine ih (trn rg l h) d2 (i + 1) (by omega) (by omega) hh' (Fk_trans f1 f2') (fun p a c => ?_) l2 (fun d3 f3 h3 => ?_) hr2
        · rw [Fk_p f2 (p := 18) (fun _ => rfl)]; exact h18' p a c
        · have := hp d3 f3 h3
          rw [show i + 1 + (rsF lk n k (trn rg l h)).1 = i + ((rsF lk n k (trn rg l h)).1 + 1) by omega]
          exact this
      refine sq_24_18 (by omega) (rgX_h (by rw [Fk_p f1 (p := 6) (fun _ => rfl), h6]) hn (by rw [Fk_p f1 (p := 8) (fun _ => rfl), h8]) hl hh' h18') (fun l2 rg2 d2 g2 f2 hr2 => nx l2 d2 f2 (Or.inl ⟨rg2, g2, hr2⟩)) (fun d2 g2 f2 => nx 0 d2 f2 (Or.inr ⟨rfl, g2⟩))
    · subst hl0
      rw [rsF_n (k + 1) g] at hp
      refine yk_155_16 (by omega) ⟨by omega, fun c => by omega, fun _ => ⟨by omega, fun _ => fin i h dc hh f h18 ?_, fun c => by omega⟩⟩
      have := hp dc f h18
      rw [show i + ((0, h) : Int × (Int → Int)).1 = i from Int.add_zero i] at this
      exact this
/-- the reference -/
theorem sm_273 {lk : Int → Int} {n : Int} {P : Int → xh_D → xd_E → Prop} {e1 : xd_E} (hD : 9 ≤ D) (hn : 0 ≤ n ∧ n ≤ 9) (hl : ∀ i, 0 ≤ i → i < 81 → 0 ≤ lk i ∧ lk i ≤ 9) (h6 : d 146 1 = n) (h8 : ∀ p x, 0 ≤ p → p < n → 0 ≤ x → x < 9 → d 149 (9 * p + x) = lk (p * 9 + x)) : ∀ (k : Nat) (h : Int → Int) (dc : xh_D) (i : Int), 81 ≤ (k : Int) + sI (fun p => lk (p * 9 + h p)) n → (0 ≤ i ∧ i + k ≤ 81) → (∀ p, 0 ≤ p → p < n → 0 ≤ h p ∧ h p < 9) → Fk sm d dc → (∀ p, 0 ≤ p → p < n → dc 162 p = h p) → (∀ d3, Fk sm d d3 → (∀ p, 0 ≤ p → p < n → d3 162 p = (rsF lk n k h).2 p) → P (i + (rsF lk n k h).1) (xs (xwr d3 151 n (d3 162)) 146 7 n) e1) → yB D xm_c273 (yQi L P) L 11 [.ref 146, .int (xJ i), .double 0] [] dc e1 := by
  have f171 : ∀ {d1 d2 : xh_D}, Fk s171 d1 d2 → Fk sm d1 d2 := fun f => Fk_mono f (fun p i q => by
    by_cases z : p = 171
    · subst z; exact absurd (show true = false from q) (by decide)
    · by_cases z2 : p = 146 ∧ i = 51
      · rw [z2.1, z2.2] at q; exact absurd q (by decide)
      · have : (p == 146 && decide (i = 51)) = false := by
          by_cases z3 : p = 146
          · simp [z3]; exact fun c => z2 ⟨z3, c⟩
          · simp [z3]
        simp only [s171, this]
        simp [z])
  have fin : ∀ (r : Int) (h : Int → Int) (dc : xh_D), (∀ p, 0 ≤ p → p < n → 0 ≤ h p ∧ h p < 9) → Fk sm d dc → (∀ p, 0 ≤ p → p < n → dc 162 p = h p) → P r (xs (xwr dc 151 n (dc 162)) 146 7 n) e1 → yB D xm_c273 (yQi L P) L 27 [.ref 146, .int (xJ r), .int (xJ 0)] [] (xs dc 146 7 0) e1 := by
    intro r h dc hh f h18 hp
    have hlp := lp_up (n := n) (X := fun i => yB D xm_c273 (yQi L P) L 27 [.ref 146, .int (xJ r), .int (xJ i)] [] (xs (xwr dc 151 i (dc 162)) 146 7 i) e1) hn.1 ?_ ?_
    · rw [xwr_0] at hlp; exact hlp
    · intro i i1 i2 ih
      refine yk_273_27 (by omega) ?_
      rw [xs_eq, xs_ni (i := 1) (by decide), xwr_fn (p := 146) (by decide), f 146 1 rfl, h6, show xs (xwr dc 151 i (dc 162)) 146 7 i 162 = dc 162 by rw [xs_fn, if_neg (by decide), xwr_fn (by decide)], xs_row (by decide) i1 rfl]
      exact ⟨by omega, by omega, fun c => by omega, fun _ => ⟨by omega, by omega, ih⟩⟩
    · refine yk_273_27 (by omega) ?_
      rw [xs_ni (i := 1) (by decide), xwr_fn (p := 146) (by decide), f 146 1 rfl, h6]
      exact ⟨by omega, by omega, fun _ => hp, fun c => by omega⟩
  have sb : ∀ h : Int → Int, (∀ p, 0 ≤ p → p < n → 0 ≤ h p ∧ h p < 9) → sI (fun p => lk (p * 9 + h p)) n ≤ 81 := fun h hh => by
    have := (sI_b (f := fun p => lk (p * 9 + h p)) (n := n) (lo := 0) (hi := 9) hn.1 (fun p a c => by have := hh p a c; exact hl _ (by omega) (by omega))).2
    omega
  intro k
  induction k with
  | zero =>
    intro h dc i hk hi hh f h18 hp
    refine yk_273_11 (sq_268_162 (by omega) (rgM_h (by rw [f 146 1 rfl, h6]) hn (by rw [Fk_p f (p := 149) (fun _ => rfl)]; exact h8) hl hh h18) (fun l rg d1 g f1 h51 hr => ?_) (fun d1 g f1 => ?_))
    · exfalso
      obtain ⟨o1, o2, -⟩ := rgF_ok g
      have s1 := trn_sum g
      have s2 := sb _ (trn_all (Q := fun x => 0 ≤ x ∧ x < 9) o1.1 o2 hh)
      omega
    · have f1' := Fk_trans f (f171 f1)
      have h18' : ∀ p, 0 ≤ p → p < n → d1 162 p = h p := fun p a c => by rw [Fk_p f1 (p := 162) (fun _ => rfl)]; exact h18 p a c
      refine fin i h d1 hh f1' h18' ?_
      have := hp d1 f1' h18'
      rw [show i + (rsF lk n 0 h).1 = i from Int.add_zero i] at this
      exact this
  | succ k ih =>
    intro h dc i hk hi hh f h18 hp
    refine yk_273_11 (sq_268_162 (by omega) (rgM_h (by rw [f 146 1 rfl, h6]) hn (by rw [Fk_p f (p := 149) (fun _ => rfl)]; exact h8) hl hh h18) (fun l rg d1 g f1 h51 hr => ?_) (fun d1 g f1 => ?_))
    · obtain ⟨o1, o2, -⟩ := rgF_ok g
      have s1 := trn_sum g
      rw [rsF_s k g] at hp
      refine sq_269_162 (rg := rg) (len := l) (by omega) o1 h51 (fun j a c => ⟨hr j a c, by have := o2 j a c; omega⟩) ?_
      have f1' := Fk_trans f (f171 f1)
      have h18' : ∀ p, 0 ≤ p → p < n → d1 162 p = h p := fun p a c => by rw [Fk_p f1 (p := 162) (fun _ => rfl)]; exact h18 p a c
      refine ih (trn rg l h) _ (i + 1) (by omega) (by omega) (trn_all (Q := fun x => 0 ≤ x ∧ x < 9) o1.1 o2 hh) (Fk_pl f1' (fun _ => rfl)) (fun p a c => ?_) (fun d3 f3 h3 => ?_)
      · rw [xpl_at]; exact trn_congr o1.1 o2 h18' p a c
      · have := hp d3 f3 h3
        rw [show i + 1 + (rsF lk n k (trn rg l h)).1 = i + ((rsF lk n k (trn rg l h)).1 + 1) by omega]
        exact this
    · have f1' := Fk_trans f (f171 f1)
      have h18' : ∀ p, 0 ≤ p → p < n → d1 162 p = h p := fun p a c => by rw [Fk_p f1 (p := 162) (fun _ => rfl)]; exact h18 p a c
      rw [rsF_n (k + 1) g] at hp
      refine fin i h d1 hh f1' h18' ?_
      have := hp d1 f1' h18'
      rw [show i + ((0, h) : Int × (Int → Int)).1 = i from Int.add_zero i] at this
      exact this
theorem op_rests (hI : Inv R b d e) : Op R b b L 155 273 [] d e := by
  have hI0 := hI
  obtain ⟨hP, hT, hW, hL, hS, hU, hK, hR, hQ, hV, hH, hG⟩ := hI
  have hn := hP.1
  have p2 := hP.2.1
  have hh := iS_h hS
  have hl : ∀ i, 0 ≤ i → i < 81 → 0 ≤ d 8 i ∧ d 8 i ≤ 9 := fun i a c => (hL i a c).2.1
  have hml : ∀ q x, 0 ≤ q → q < d 6 4 → 0 ≤ x → x < 9 → d 149 (9 * q + x) = d 8 (q * 9 + x) := fun q x a c a2 c2 => by
    have := (hL (q * 9 + x) (by omega) (by omega)).2.2.2.2.1 (by omega)
    rw [show 9 * q + x = q * 9 + x by omega]
    exact this
  have hm : ∀ p, 0 ≤ p → p < d 6 4 → d 147 p = d 12 p := fun p a c => (hS.1 p a c).2.2.2.1
  have sn : 0 ≤ sI (fun p => d 8 (p * 9 + d 12 p)) (d 6 4) := by
    have := (sI_b (f := fun p => d 8 (p * 9 + d 12 p)) (n := d 6 4) (lo := 0) (hi := 9) hn.1 (fun p a c => by have := hh p a c; exact hl _ (by omega) (by omega))).1
    omega
  refine yC_of rfl rfl rfl (by omega) (yk_155_0 ?_)
  refine sc_50 rfl rfl (by decide) (by omega) (fun d1 e1 x => ?_)
  have ek : Ek e e1 := fun p h1 _ => x.2.1 p h1
  have f1 : Fk sx d d1 := fun p i q => by
    have c : ¬ (17 ≤ p ∧ p ≤ 21) := fun c => by
      have : p = 17 ∨ p = 18 ∨ p = 19 ∨ p = 20 ∨ p = 21 := by omega
      rcases this with rfl | rfl | rfl | rfl | rfl <;> exact absurd (show true = false from q) (by decide)
    rw [x.1 p (by omega)]
  have f9 : ∀ {d1 d2 : xh_D}, Fk s9 d1 d2 → Fk sx d1 d2 := fun f => Fk_mono f (fun p i q => by
    by_cases z : p = 9
    · subst z; exact absurd (show true = false from q) (by decide)
    · simp [s9, z])
  have h18 : ∀ p, 0 ≤ p → p < d 6 4 → d1 18 p = d 12 p := fun p a c => x.2.2.1 p a (by omega)
  -- the reference, behind the class's end
  have mm : ∀ d3, Fk sx d d3 → (∀ p, 0 ≤ p → p < d 6 4 → d3 18 p = (rsF (d 8) (d 6 4) 81 (d 12)).2 p) → yC 150 273 L [.ref 146] (xs (xwr d3 5 (d 6 4) (d3 18)) 4 1 (d 6 4)) e1 (fun r2 d2 e2 => 0 + (rsF (d 8) (d 6 4) 81 (d 12)).1 = r2 ∧ Inv R b d2 e2) := by
    intro d3 f3 h3
    refine yC_of rfl rfl rfl (by omega) (yk_273_0 ?_)
    generalize hdx : xs (xs (xwr d3 5 (d 6 4) (d3 18)) 4 1 (d 6 4)) 146 8 0 = dx
    have y : ∀ p, ¬ p = 4 → ¬ p = 5 → ¬ p = 146 → dx p = d3 p := fun p h1 h2 h4 => by rw [← hdx, xs_fn, if_neg h4, xs_fn, if_neg h1, xwr_fn h2]
    have ym : ∀ i, ¬ i = 8 → dx 146 i = d 146 i := fun i h1 => by rw [← hdx, xs_ni h1, xs_np (by decide), xwr_fn (by decide), f3 146 i rfl]
    refine sc_225_147_162 (by omega) (by omega) ?_
    generalize hdy : xwo dx 162 0 353 (dx 147) = dy
    have f4 : Fk sm dx dy := by
      rw [← hdy]
      intro p i q
      by_cases z : p = 162
      · subst z; exact absurd (show true = false from q) (by decide)
      · rw [xwo_np z]
    refine sm_273 (d := dx) (lk := d 8) (n := d 6 4) (by omega) hn hl (by rw [ym 1 (by decide), p2]) (by rw [y 149 (by decide) (by decide) (by decide), Fk_p f3 (p := 149) (fun _ => rfl)]; exact hml) 81 (d 12) dy 0 (by omega) (by omega) hh f4 (fun p a c => ?_) (fun d5 f5 h5 => ⟨rfl, ?_⟩)
    · rw [← hdy, xwo_at (by omega), y 147 (by decide) (by decide) (by decide), Fk_p f3 (p := 147) (fun _ => rfl), show p - 0 = p by omega]
      exact hm p a c
    · have fa : Fk sr d dx := by rw [← hdx]; exact Fk_xs (Fk_xs (Fk_wr (Fk_x f3) (fun _ => rfl)) rfl) rfl
      refine Inv_fk hI0 (Fk_xs (Fk_wr (Fk_trans fa (Fk_m f5)) (fun _ => rfl)) rfl) ek ?_
      have z4 : xs (xwr d5 151 (d 6 4) (d5 162)) 146 7 (d 6 4) 4 1 = d 6 4 := by rw [xs_np (by decide), xwr_fn (by decide), f5 4 1 rfl, ← hdx, xs_np (by decide), xs_eq]
      refine ⟨by omega, by rw [xs_eq, z4], fun j a c => ?_⟩
      rw [z4] at c
      rw [xs_np (by decide), xwr_at ⟨a, c⟩, xs_np (by decide), xwr_fn (p := 5) (by decide), Fk_p f5 (p := 5) (fun _ => rfl), ← hdx, xs_np (by decide), xs_np (by decide), xwr_at ⟨a, c⟩, h5 j a c, h3 j a c]
  have go : ∀ (l2 : Int) (d2 : xh_D), Fk s9 d1 d2 → ((∃ rg2, rgF (wF (d 8) (d 12)) (d 6 4) = some (l2, rg2) ∧ ∀ j, 0 ≤ j → j < l2 → d2 9 j = rg2 j) ∨ (l2 = 0 ∧ rgF (wF (d 8) (d 12)) (d 6 4) = none)) → yB (150 - 1) xm_c155 (yQi L (fun r1 d1 e1 => yC 150 273 L [.ref 146] d1 e1 (fun r2 d2 e2 => r1 = r2 ∧ Inv R b d2 e2))) L 16 [.ref 1, .int (xJ 0), .int (xJ l2), .int (xJ 0)] [] d2 e1 := fun l2 d2 f2 hr2 =>
    sx_155 (d := d) (lk := d 8) (n := d 6 4) (by omega) hn hl rfl rfl 81 (d 12) d2 0 (by omega) (by omega) hh (Fk_trans f1 (f9 f2)) (fun p a c => by rw [Fk_p f2 (p := 18) (fun _ => rfl)]; exact h18 p a c) l2 mm hr2
  exact sq_24_18 (by omega) (rgX_h (by rw [Fk_p f1 (p := 6) (fun _ => rfl)]) hn (Fk_p f1 (p := 8) (fun _ => rfl)) hl hh h18) (fun l2 rg2 d2 g2 f2 hr2 => go l2 d2 f2 (Or.inl ⟨rg2, g2, hr2⟩)) (fun d2 g2 f2 => go 0 d2 f2 (Or.inr ⟨rfl, g2⟩))
end RST
