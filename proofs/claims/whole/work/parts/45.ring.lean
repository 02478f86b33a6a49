/-! RINGS: found and turned. -/
def fS {α : Type} (f : Int → Option α) : Nat → Int → Option α
  | 0, _ => none
  | k + 1, p => match f p with
    | some a => some a
    | none => fS f k (p + 1)
/-- the first that is found -/
def fT {α : Type} (f : Int → Option α) (m n : Int) : Option α := fS f (n - m).toNat m
theorem fT_e {α : Type} {f : Int → Option α} {m n : Int} (h : n ≤ m) : fT f m n = none := by
  unfold fT
  rw [show (n - m).toNat = 0 by omega]
  rfl
theorem fT_s {α : Type} {f : Int → Option α} {m n : Int} (h : m < n) : fT f m n = match f m with
    | some a => some a
    | none => fT f (m + 1) n := by
  unfold fT
  rw [show (n - m).toNat = (n - (m + 1)).toNat + 1 by omega]
  rfl
theorem fT_n {α : Type} {f : Int → Option α} {m n : Int} (h : m < n) (hf : f m = none) : fT f m n = fT f (m + 1) n := by rw [fT_s h, hf]
theorem fT_y {α : Type} {f : Int → Option α} {m n : Int} {a : α} (h : m < n) (hf : f m = some a) : fT f m n = some a := by rw [fT_s h, hf]
theorem fT_some {α : Type} {f : Int → Option α} {m n : Int} {a : α} (h : fT f m n = some a) : ∃ p, m ≤ p ∧ p < n ∧ f p = some a := by
  have key : ∀ (k : Nat) (m : Int), (n - m).toNat = k → fT f m n = some a → ∃ p, m ≤ p ∧ p < n ∧ f p = some a := by
    intro k
    induction k with
    | zero => intro m hk hm; rw [fT_e (by omega)] at hm; exact absurd hm (by simp)
    | succ k ih =>
      intro m hk hm
      cases hf : f m with
      | some b => rw [fT_y (by omega) hf] at hm; exact ⟨m, by omega, by omega, by rw [hf]; exact hm⟩
      | none =>
        rw [fT_n (by omega) hf] at hm
        obtain ⟨p, h1, h2, h3⟩ := ih (m + 1) (by omega) hm
        exact ⟨p, by omega, h2, h3⟩
  exact key _ m rfl h
def inR (rg : Int → Int) (k p : Int) : Bool := !(aI (fun j => !decide (rg j = p)) k)
theorem inR_t {rg : Int → Int} {k p j : Int} (hk : 0 ≤ k) (h : 0 ≤ j ∧ j < k) (hj : rg j = p) : inR rg k p = true := by
  unfold inR
  cases q : aI (fun j => !decide (rg j = p)) k
  · rfl
  · have := (aI_iff hk).mp q j h.1 h.2
    rw [decide_eq_true hj] at this
    exact absurd this (by decide)
theorem inR_f {rg : Int → Int} {k p : Int} (hk : 0 ≤ k) (h : ∀ j, 0 ≤ j → j < k → ¬ rg j = p) : inR rg k p = false := by
  unfold inR
  rw [(aI_iff hk).mpr (fun j a c => by rw [decide_eq_false (h j a c)]; rfl)]
  rfl
theorem inR_n {rg : Int → Int} {k p : Int} (hk : 0 ≤ k) (h : inR rg k p = false) : ∀ j, 0 ≤ j → j < k → ¬ rg j = p := fun j a c q => by
  rw [inR_t hk ⟨a, c⟩ q] at h
  exact absurd h (by decide)
def grT (w : Int → Int → Bool) (n len : Int) : Nat → (Int → Int) → Option (Int → Int)
  | 0, rg => if w (rg (len - 1)) (rg 0) = true then some rg else none
  | m + 1, rg => fT (fun p => if inR rg (len - ((m + 1 : Nat) : Int)) p = false ∧ w (rg (len - ((m + 1 : Nat) : Int) - 1)) p = true then grT w n len m (upI rg (len - ((m + 1 : Nat) : Int)) p) else none) (rg 0 + 1) n
theorem grT_ok {w : Int → Int → Bool} {n len : Int} : ∀ (m : Nat) {rg rg' : Int → Int}, 1 ≤ len - m → grT w n len m rg = some rg' → (∀ j, 0 ≤ j → j < len - m → rg' j = rg j) ∧ (∀ j, len - m ≤ j → j < len → rg 0 < rg' j ∧ rg' j < n ∧ (∀ k, 0 ≤ k → k < j → ¬ rg' k = rg' j) ∧ w (rg' (j - 1)) (rg' j) = true) ∧ w (rg' (len - 1)) (rg' 0) = true := by
  intro m
  induction m with
  | zero =>
    intro rg rg' h1 h
    unfold grT at h
    split at h
    · rename_i c
      cases h
      exact ⟨fun _ _ _ => rfl, fun j a c => by omega, c⟩
    · exact absurd h (by simp)
  | succ m ih =>
    intro rg rg' h1 h
    unfold grT at h
    obtain ⟨p, p1, p2, p3⟩ := fT_some h
    split at p3
    · rename_i c
      obtain ⟨q1, q2, q3⟩ := ih (by omega) p3
      have e0 : upI rg (len - ((m + 1 : Nat) : Int)) p 0 = rg 0 := by rw [upI_app, if_neg (by omega)]
      have ej : ∀ j, 0 ≤ j → j < len - ((m + 1 : Nat) : Int) → rg' j = rg j := fun j a c => by rw [q1 j a (by omega), upI_app, if_neg (by omega)]
      have ep : rg' (len - ((m + 1 : Nat) : Int)) = p := by rw [q1 _ (by omega) (by omega), upI_app, if_pos rfl]
      refine ⟨ej, fun j a c2 => ?_, q3⟩
      by_cases hj : j = len - ((m + 1 : Nat) : Int)
      · subst hj
        rw [ep, ej _ (by omega) (by omega)]
        refine ⟨by omega, p2, fun k a2 c3 => ?_, c.2⟩
        rw [ej k a2 c3]
        exact inR_n (by omega) c.1 k a2 c3
      · have := q2 j (by omega) c2
        rw [e0] at this
        exact this
    · exact absurd p3 (by simp)
def s9 (p : Nat) (_ : Int) : Bool := p == 9
def s171 (p : Nat) (i : Int) : Bool := p == 171 || (p == 146 && decide (i = 51))
/-- what a look for rings needs -/
def rgX (a : Nat) (w : Int → Int → Bool) (n : Int) (d : xh_D) : Prop := d 6 4 = n ∧ (0 ≤ n ∧ n ≤ 9) ∧ (∀ p, 0 ≤ p → p < n → 0 ≤ d a p ∧ d a p < 9) ∧ (∀ i, 0 ≤ i → i < 81 → 0 ≤ d 8 i ∧ d 8 i ≤ 9) ∧ (∀ p q, 0 ≤ p → p < n → 0 ≤ q → q < n → (w p q = true ↔ d 8 (p * 9 + d a p) < d 8 (p * 9 + d a q)))
def rgM (a : Nat) (w : Int → Int → Bool) (n : Int) (d : xh_D) : Prop := d 146 1 = n ∧ (0 ≤ n ∧ n ≤ 9) ∧ (∀ p, 0 ≤ p → p < n → 0 ≤ d a p ∧ d a p < 9) ∧ (∀ p x, 0 ≤ p → p < n → 0 ≤ x → x < 9 → 0 ≤ d 149 (9 * p + x) ∧ d 149 (9 * p + x) ≤ 9) ∧ (∀ p q, 0 ≤ p → p < n → 0 ≤ q → q < n → (w p q = true ↔ d 149 (9 * p + d a p) < d 149 (9 * p + d a q)))
theorem rgX_fk {a : Nat} {w : Int → Int → Bool} {n : Int} {d d' : xh_D} (ha : ¬ a = 9) (h : rgX a w n d) (f : Fk s9 d d') : rgX a w n d' := by
  unfold rgX at h ⊢
  rw [Fk_p f (p := 6) (fun _ => rfl), Fk_p f (p := 8) (fun _ => rfl), Fk_p f (p := a) (fun _ => by simp [s9, ha])]
  exact h
theorem rgM_fk {a : Nat} {w : Int → Int → Bool} {n : Int} {d d' : xh_D} (ha : ¬ a = 171) (hb : ¬ a = 146) (h : rgM a w n d) (f : Fk s171 d d') : rgM a w n d' := by
  unfold rgM at h ⊢
  rw [f 146 1 rfl, Fk_p f (p := 149) (fun _ => rfl), Fk_p f (p := a) (fun _ => by simp [s171, ha, hb])]
  exact h
section RNG
variable {L D : Nat} {d : xh_D} {e : xd_E} {P1 P0 : xh_D → xd_E → Prop}
theorem sq_26 {p k : Int} {rg : Int → Int} (hD : 1 ≤ D) (hk : 0 ≤ k ∧ k ≤ 4) (hp : yR p) (hr : ∀ j, 0 ≤ j → j < k → d 9 j = rg j ∧ yR (rg j)) (h1 : inR rg k p = true → P1 d e) (h0 : inR rg k p = false → P0 d e) : yZ D 26 L [.ref 6, .int (xJ p), .int (xJ k)] d e P1 P0 := by
  refine yZ_of rfl rfl rfl (by omega) (yk_26_0 ?_)
  have key : ∀ i, 0 ≤ i → i ≤ k → (∀ j, 0 ≤ j → j < i → ¬ rg j = p) → yB (D - 1) xm_c26 (yQz L P1 P0) L 2 [.ref 6, .int (xJ p), .int (xJ k), .int (xJ i)] [] d e := by
    intro i i1 i2
    revert i1
    refine lp_from (m := i) (n := k) (X := fun i => 0 ≤ i → (∀ j, 0 ≤ j → j < i → ¬ rg j = p) → yB (D - 1) xm_c26 (yQz L P1 P0) L 2 [.ref 6, .int (xJ p), .int (xJ k), .int (xJ i)] [] d e) i2 ?_ ?_
    · intro j _ j2 ih j1 hj
      have := hr j j1 j2
      refine yk_26_2 ?_
      rw [this.1]
      exact ⟨by omega, by omega, fun c => by omega, fun _ => ⟨by omega, this.2, hp, fun c => ih (by omega) (all_s (p := fun j => ¬ rg j = p) hj c), fun c => h1 (inR_t hk.1 ⟨j1, j2⟩ c)⟩⟩
    · intro j1 hj
      exact yk_26_2 ⟨by omega, by omega, fun _ => h0 (inR_f hk.1 hj), fun c => by omega⟩
  exact key 0 (by omega) hk.1 (fun j a c => by omega)
theorem sq_25_12 {w : Int → Int → Bool} {n len : Int} (hl : 2 ≤ len ∧ len ≤ 4) : ∀ (m : Nat) {D : Nat} {d : xh_D} {rg : Int → Int} {P1 P0 : xh_D → xd_E → Prop}, 1 ≤ len - m → m + 3 ≤ D → rgX 12 w n d → (∀ j, 0 ≤ j → j < len - m → d 9 j = rg j ∧ 0 ≤ rg j ∧ rg j < n) → (∀ rg' d', grT w n len m rg = some rg' → Fk s9 d d' → (∀ j, 0 ≤ j → j < len → d' 9 j = rg' j) → P1 d' e) → (∀ d', grT w n len m rg = none → Fk s9 d d' → (∀ j, 0 ≤ j → j < len - m → d' 9 j = rg j) → P0 d' e) → yZ D 25 L [.ref 6, .ref 12, .int (xJ (len - m)), .int (xJ len)] d e P1 P0 := by
  intro m
  induction m with
  | zero =>
    intro D d rg P1 P0 h1 hD hx hr hs hn
    obtain ⟨x1, x2, x3, x4, x5⟩ := id hx
    have a0 := hr 0 (by omega) (by omega)
    have a1 := hr (len - 1) (by omega) (by omega)
    have b0 := x3 _ a0.2.1 a0.2.2
    have b1 := x3 _ a1.2.1 a1.2.2
    have c0 := x4 (rg (len - 1) * 9 + d 12 (rg (len - 1))) (by omega) (by omega)
    have c1 := x4 (rg (len - 1) * 9 + d 12 (rg 0)) (by omega) (by omega)
    have w5 := x5 _ _ a1.2.1 a1.2.2 a0.2.1 a0.2.2
    refine yZ_of rfl rfl rfl (by omega) (yk_25_12_0 (by omega) ?_)
    rw [a0.1, a1.1]
    refine ⟨by omega, by omega, fun c => by omega, fun _ => ⟨by omega, by omega, by omega, by omega, by omega, by omega, by omega, fun c => ?_, fun c => ?_⟩⟩
    · exact hs rg d (by unfold grT; rw [if_pos (w5.mpr c)]) Fk_refl (fun j a c2 => (hr j a (by omega)).1)
    · exact hn d (by unfold grT; rw [if_neg (fun q => c (w5.mp q))]) Fk_refl (fun j a c2 => (hr j a c2).1)
  | succ m ih =>
    intro D d rg P1 P0 h1 hD hx hr hs hn
    have x2 := hx.2.1
    have a0 := hr 0 (by omega) (by omega)
    generalize hk : len - ((m + 1 : Nat) : Int) = k at h1 hr hn
    refine yZ_of rfl rfl rfl (by omega) (yk_25_12_0 (by omega) ⟨by omega, by omega, fun _ => ?_, fun c => by omega⟩)
    rw [a0.1]
    have hgr : grT w n len (m + 1) rg = fT (fun p => if inR rg k p = false ∧ w (rg (k - 1)) p = true then grT w n len m (upI rg k p) else none) (rg 0 + 1) n := by rw [← hk]; rfl
    rw [hgr] at hs hn
    generalize hf : (fun p => if inR rg k p = false ∧ w (rg (k - 1)) p = true then grT w n len m (upI rg k p) else none) = f at hs hn
    have key : ∀ p, rg 0 + 1 ≤ p → ∀ dc, (p ≤ n ∨ p = rg 0 + 1) → Fk s9 d dc → (∀ j, 0 ≤ j → j < k → dc 9 j = rg j) → fT f (rg 0 + 1) n = fT f p n → yB (D - 1) xm_c25 (yQz L P1 P0) L 24 [.ref 6, .ref 12, .int (xJ k), .int (xJ len), .int (xJ p)] [] dc e := by
      intro p hp dc hpn
      revert dc
      refine lp_from (m := p) (n := max n p) (X := fun p => ∀ dc, Fk s9 d dc → (∀ j, 0 ≤ j → j < k → dc 9 j = rg j) → fT f (rg 0 + 1) n = fT f p n → yB (D - 1) xm_c25 (yQz L P1 P0) L 24 [.ref 6, .ref 12, .int (xJ k), .int (xJ len), .int (xJ p)] [] dc e) (by omega) ?_ ?_
      · intro q q1 q2 ihq dc fc hc hq
        have hxc := rgX_fk (by decide) hx fc
        obtain ⟨y1, y2, y3, y4, y5⟩ := id hxc
        have aq := hr (k - 1) (by omega) (by omega)
        have hcq := hc (k - 1) (by omega) (by omega)
        have b1 := y3 _ aq.2.1 aq.2.2
        have b2 := y3 q (by omega) (by omega)
        have c0 := y4 (rg (k - 1) * 9 + dc 12 (rg (k - 1))) (by omega) (by omega)
        have c1 := y4 (rg (k - 1) * 9 + dc 12 q) (by omega) (by omega)
        have w5 := y5 _ q aq.2.1 aq.2.2 (by omega) (by omega)
        have hfq : f q = if inR rg k q = false ∧ w (rg (k - 1)) q = true then grT w n len m (upI rg k q) else none := by rw [← hf]
        have go : ∀ dn, f q = none → Fk s9 d dn → (∀ j, 0 ≤ j → j < k → dn 9 j = rg j) → yB (D - 1) xm_c25 (yQz L P1 P0) L 24 [.ref 6, .ref 12, .int (xJ k), .int (xJ len), .int (xJ (q + 1))] [] dn e := fun dn h2 h3 h4 => ihq dn h3 h4 (by rw [hq, fT_n (by omega) h2])
        refine yk_25_12_24 (by omega) ?_
        rw [y1]
        refine ⟨by omega, by omega, fun c => by omega, fun _ => ?_⟩
        refine sq_26 (by omega) (by omega) (by omega) (fun j a c => ⟨hc j a c, by have := hr j a c; omega⟩) (fun g => go _ (by rw [hfq, if_neg (by simp [g])]) fc hc) (fun g => ?_)
        rw [hcq]
        refine ⟨by omega, by omega, by omega, by omega, by omega, by omega, by omega, fun c => ⟨by omega, ?_⟩, fun c => go _ (by rw [hfq, if_neg (fun z => c (w5.mp z.2))]) fc hc⟩
        rw [if_pos ⟨g, w5.mpr c⟩] at hfq
        have fx : Fk s9 d (xs dc 9 k q) := Fk_xs fc rfl
        have hm := @ih (D - 1) (xs dc 9 k q) (upI rg k q) P1 (fun d13 e14 => yB (D - 1) xm_c25 (yQz L P1 P0) L 24 [.ref 6, .ref 12, .int (xJ k), .int (xJ len), .int (xJ (q + 1))] [] d13 e14) (by omega) (by omega) (rgX_fk (by decide) hx fx) (fun j a c2 => ?_) (fun rg' d' g1 g2 g3 => ?_) (fun d' g1 g2 g3 => ?_)
        · rw [show len - (m : Int) = k + 1 by omega] at hm
          exact hm
        · by_cases z : j = k
          · subst z
            rw [xs_eq, upI_app, if_pos rfl]
            omega
          · rw [xs_ni z, upI_app, if_neg z, hc j a (by omega)]
            have := hr j a (by omega)
            omega
        · exact hs rg' d' (by rw [hq, fT_y (by omega) (by rw [hfq]; exact g1)]) (Fk_trans fx g2) g3
        · refine go d' (by rw [hfq]; exact g1) (Fk_trans fx g2) (fun j a c2 => ?_)
          rw [g3 j a (by omega), upI_app, if_neg (by omega)]
      · intro dc fc hc hq
        have y1 : dc 6 4 = n := (rgX_fk (by decide) hx fc).1
        refine yk_25_12_24 (by omega) ?_
        rw [y1]
        refine ⟨by omega, by omega, fun _ => hn dc ?_ fc hc, fun c => by omega⟩
        rw [hq, fT_e (by omega)]
    exact key _ (Int.le_refl _) d (Or.inr rfl) Fk_refl (fun j a c => (hr j a c).1) rfl
theorem sq_25_18 {w : Int → Int → Bool} {n len : Int} (hl : 2 ≤ len ∧ len ≤ 4) : ∀ (m : Nat) {D : Nat} {d : xh_D} {rg : Int → Int} {P1 P0 : xh_D → xd_E → Prop}, 1 ≤ len - m → m + 3 ≤ D → rgX 18 w n d → (∀ j, 0 ≤ j → j < len - m → d 9 j = rg j ∧ 0 ≤ rg j ∧ rg j < n) → (∀ rg' d', grT w n len m rg = some rg' → Fk s9 d d' → (∀ j, 0 ≤ j → j < len → d' 9 j = rg' j) → P1 d' e) → (∀ d', grT w n len m rg = none → Fk s9 d d' → (∀ j, 0 ≤ j → j < len - m → d' 9 j = rg j) → P0 d' e) → yZ D 25 L [.ref 6, .ref 18, .int (xJ (len - m)), .int (xJ len)] d e P1 P0 := by
  intro m
  induction m with
  | zero =>
    intro D d rg P1 P0 h1 hD hx hr hs hn
    obtain ⟨x1, x2, x3, x4, x5⟩ := id hx
    have a0 := hr 0 (by omega) (by omega)
    have a1 := hr (len - 1) (by omega) (by omega)
    have b0 := x3 _ a0.2.1 a0.2.2
    have b1 := x3 _ a1.2.1 a1.2.2
    have c0 := x4 (rg (len - 1) * 9 + d 18 (rg (len - 1))) (by omega) (by omega)
    have c1 := x4 (rg (len - 1) * 9 + d 18 (rg 0)) (by omega) (by omega)
    have w5 := x5 _ _ a1.2.1 a1.2.2 a0.2.1 a0.2.2
    refine yZ_of rfl rfl rfl (by omega) (yk_25_18_0 (by omega) ?_)
    rw [a0.1, a1.1]
    refine ⟨by omega, by omega, fun c => by omega, fun _ => ⟨by omega, by omega, by omega, by omega, by omega, by omega, by omega, fun c => ?_, fun c => ?_⟩⟩
    · exact hs rg d (by unfold grT; rw [if_pos (w5.mpr c)]) Fk_refl (fun j a c2 => (hr j a (by omega)).1)
    · exact hn d (by unfold grT; rw [if_neg (fun q => c (w5.mp q))]) Fk_refl (fun j a c2 => (hr j a c2).1)
  | succ m ih =>
    intro D d rg P1 P0 h1 hD hx hr hs hn
    have x2 := hx.2.1
    have a0 := hr 0 (by omega) (by omega)
    generalize hk : len - ((m + 1 : Nat) : Int) = k at h1 hr hn
    refine yZ_of rfl rfl rfl (by omega) (yk_25_18_0 (by omega) ⟨by omega, by omega, fun _ => ?_, fun c => by omega⟩)
    rw [a0.1]
    have hgr : grT w n len (m + 1) rg = fT (fun p => if inR rg k p = false ∧ w (rg (k - 1)) p = true then grT w n len m (upI rg k p) else none) (rg 0 + 1) n := by rw [← hk]; rfl
    rw [hgr] at hs hn
    generalize hf : (fun p => if inR rg k p = false ∧ w (rg (k - 1)) p = true then grT w n len m (upI rg k p) else none) = f at hs hn
    have key : ∀ p, rg 0 + 1 ≤ p → ∀ dc, (p ≤ n ∨ p = rg 0 + 1) → Fk s9 d dc → (∀ j, 0 ≤ j → j < k → dc 9 j = rg j) → fT f (rg 0 + 1) n = fT f p n → yB (D - 1) xm_c25 (yQz L P1 P0) L 24 [.ref 6, .ref 18, .int (xJ k), .int (xJ len), .int (xJ p)] [] dc e := by
      intro p hp dc hpn
      revert dc
      refine lp_from (m := p) (n := max n p) (X := fun p => ∀ dc, Fk s9 d dc → (∀ j, 0 ≤ j → j < k → dc 9 j = rg j) → fT f (rg 0 + 1) n = fT f p n → yB (D - 1) xm_c25 (yQz L P1 P0) L 24 [.ref 6, .ref 18, .int (xJ k), .int (xJ len), .int (xJ p)] [] dc e) (by omega) ?_ ?_
      · intro q q1 q2 ihq dc fc hc hq
        have hxc := rgX_fk (by decide) hx fc
        obtain ⟨y1, y2, y3, y4, y5⟩ := id hxc
        have aq := hr (k - 1) (by omega) (by omega)
        have hcq := hc (k - 1) (by omega) (by omega)
        have b1 := y3 _ aq.2.1 aq.2.2
        have b2 := y3 q (by omega) (by omega)
        have c0 := y4 (rg (k - 1) * 9 + dc 18 (rg (k - 1))) (by omega) (by omega)
        have c1 := y4 (rg (k - 1) * 9 + dc 18 q) (by omega) (by omega)
        have w5 := y5 _ q aq.2.1 aq.2.2 (by omega) (by omega)
        have hfq : f q = if inR rg k q = false ∧ w (rg (k - 1)) q = true then grT w n len m (upI rg k q) else none := by rw [← hf]
        have go : ∀ dn, f q = none → Fk s9 d dn → (∀ j, 0 ≤ j → j < k → dn 9 j = rg j) → yB (D - 1) xm_c25 (yQz L P1 P0) L 24 [.ref 6, .ref 18, .int (xJ k), .int (xJ len), .int (xJ (q + 1))] [] dn e := fun dn h2 h3 h4 => ihq dn h3 h4 (by rw [hq, fT_n (by omega) h2])
        refine yk_25_18_24 (by omega) ?_
        rw [y1]
        refine ⟨by omega, by omega, fun c => by omega, fun _ => ?_⟩
        refine sq_26 (by omega) (by omega) (by omega) (fun j a c => ⟨hc j a c, by have := hr j a c; omega⟩) (fun g => go _ (by rw [hfq, if_neg (by simp [g])]) fc hc) (fun g => ?_)
        rw [hcq]
        refine ⟨by omega, by omega, by omega, by omega, by omega, by omega, by omega, fun c => ⟨by omega, ?_⟩, fun c => go _ (by rw [hfq, if_neg (fun z => c (w5.mp z.2))]) fc hc⟩
        rw [if_pos ⟨g, w5.mpr c⟩] at hfq
        have fx : Fk s9 d (xs dc 9 k q) := Fk_xs fc rfl
        have hm := @ih (D - 1) (xs dc 9 k q) (upI rg k q) P1 (fun d13 e14 => yB (D - 1) xm_c25 (yQz L P1 P0) L 24 [.ref 6, .ref 18, .int (xJ k), .int (xJ len), .int (xJ (q + 1))] [] d13 e14) (by omega) (by omega) (rgX_fk (by decide) hx fx) (fun j a c2 => ?_) (fun rg' d' g1 g2 g3 => ?_) (fun d' g1 g2 g3 => ?_)
        · rw [show len - (m : Int) = k + 1 by omega] at hm
          exact hm
        · by_cases z : j = k
          · subst z
            rw [xs_eq, upI_app, if_pos rfl]
            omega
          · rw [xs_ni z, upI_app, if_neg z, hc j a (by omega)]
            have := hr j a (by omega)
            omega
        · exact hs rg' d' (by rw [hq, fT_y (by omega) (by rw [hfq]; exact g1)]) (Fk_trans fx g2) g3
        · refine go d' (by rw [hfq]; exact g1) (Fk_trans fx g2) (fun j a c2 => ?_)
          rw [g3 j a (by omega), upI_app, if_neg (by omega)]
      · intro dc fc hc hq
        have y1 : dc 6 4 = n := (rgX_fk (by decide) hx fc).1
        refine yk_25_18_24 (by omega) ?_
        rw [y1]
        refine ⟨by omega, by omega, fun _ => hn dc ?_ fc hc, fun c => by omega⟩
        rw [hq, fT_e (by omega)]
    exact key _ (Int.le_refl _) d (Or.inr rfl) Fk_refl (fun j a c => (hr j a c).1) rfl
/-- the first ring -/
def rgF (w : Int → Int → Bool) (n : Int) : Option (Int × (Int → Int)) := fT (fun len => fT (fun p => (grT w n len (len - 1).toNat (fun _ => p)).map (fun rg => (len, rg))) 0 n) 2 5
theorem sq_24_12 {w : Int → Int → Bool} {n : Int} {P : Int → xh_D → xd_E → Prop} (hD : 7 ≤ D) (hx : rgX 12 w n d) (hs : ∀ len rg d', rgF w n = some (len, rg) → Fk s9 d d' → (∀ j, 0 ≤ j → j < len → d' 9 j = rg j) → P len d' e) (hn : ∀ d', rgF w n = none → Fk s9 d d' → P 0 d' e) : yC D 24 L [.ref 6, .ref 12] d e P := by
  have x2 := hx.2.1
  refine yC_of rfl rfl rfl (by omega) (yk_24_12_0 ?_)
  unfold rgF at hs hn
  generalize hf : (fun len => fT (fun p => (grT w n len (len - 1).toNat (fun _ => p)).map (fun rg => (len, rg))) 0 n) = f at hs hn
  refine lp_from (m := 2) (n := 5) (X := fun len => ∀ dc, Fk s9 d dc → fT f 2 5 = fT f len 5 → yB (D - 1) xm_c24 (yQi L P) L 2 [.ref 6, .ref 12, .int (xJ len), .double 0] [] dc e) (by omega) ?_ ?_ d Fk_refl rfl
  · intro len l1 l2 ihl dc fc hq
    refine yk_24_12_2 ⟨by omega, fun c => by omega, fun _ => ?_⟩
    have hfl : f len = fT (fun p => (grT w n len (len - 1).toNat (fun _ => p)).map (fun rg => (len, rg))) 0 n := by rw [← hf]
    generalize hg : (fun p => (grT w n len (len - 1).toNat (fun _ => p)).map (fun rg => (len, rg))) = g at hfl
    refine lp_up (n := n) (X := fun p => ∀ dc, Fk s9 d dc → fT g 0 n = fT g p n → yB (D - 1) xm_c24 (yQi L P) L 7 [.ref 6, .ref 12, .int (xJ len), .int (xJ p)] [] dc e) x2.1 ?_ ?_ dc fc rfl
    · intro p p1 p2 ihp dc fc hp
      have hgp : g p = (grT w n len (len - 1).toNat (fun _ => p)).map (fun rg => (len, rg)) := by rw [← hg]
      refine yk_24_12_7 ?_
      rw [(rgX_fk (by decide) hx fc).1]
      refine ⟨by omega, by omega, fun c => by omega, fun _ => ?_⟩
      have fx : Fk s9 d (xs dc 9 0 p) := Fk_xs fc rfl
      have hm := @sq_25_12 L e w n len (by omega) (len - 1).toNat (D - 1) (xs dc 9 0 p) (fun _ => p) (fun d3 e4 => P len d3 e4) (fun d3 e4 => yB (D - 1) xm_c24 (yQi L P) L 7 [.ref 6, .ref 12, .int (xJ len), .int (xJ (p + 1))] [] d3 e4) (by omega) (by omega) (rgX_fk (by decide) hx fx) (fun j a c2 => ?_) (fun rg' d' g1 g2 g3 => ?_) (fun d' g1 g2 g3 => ?_)
      · rw [show len - ((len - 1).toNat : Int) = 1 by omega] at hm
        exact hm
      · have : j = 0 := by omega
        subst this
        rw [xs_eq]
        omega
      · refine hs len rg' d' ?_ (Fk_trans fx g2) g3
        rw [hq, fT_y (by omega) (by rw [hfl, hp, fT_y p2 (by rw [hgp, g1]; rfl)])]
      · exact ihp d' (Fk_trans fx g2) (by rw [hp, fT_n p2 (by rw [hgp, g1]; rfl)])
    · intro dc fc hp
      refine yk_24_12_7 ?_
      rw [(rgX_fk (by decide) hx fc).1]
      refine ⟨by omega, by omega, fun _ => ihl dc fc ?_, fun c => by omega⟩
      rw [hq, fT_n (by omega) (by rw [hfl, hp, fT_e (Int.le_refl _)])]
  · intro dc fc hq
    exact yk_24_12_2 ⟨by omega, fun _ => hn dc (by rw [hq, fT_e (by omega)]) fc, fun c => by omega⟩
theorem sq_24_18 {w : Int → Int → Bool} {n : Int} {P : Int → xh_D → xd_E → Prop} (hD : 7 ≤ D) (hx : rgX 18 w n d) (hs : ∀ len rg d', rgF w n = some (len, rg) → Fk s9 d d' → (∀ j, 0 ≤ j → j < len → d' 9 j = rg j) → P len d' e) (hn : ∀ d', rgF w n = none → Fk s9 d d' → P 0 d' e) : yC D 24 L [.ref 6, .ref 18] d e P := by
  have x2 := hx.2.1
  refine yC_of rfl rfl rfl (by omega) (yk_24_18_0 ?_)
  unfold rgF at hs hn
  generalize hf : (fun len => fT (fun p => (grT w n len (len - 1).toNat (fun _ => p)).map (fun rg => (len, rg))) 0 n) = f at hs hn
  refine lp_from (m := 2) (n := 5) (X := fun len => ∀ dc, Fk s9 d dc → fT f 2 5 = fT f len 5 → yB (D - 1) xm_c24 (yQi L P) L 2 [.ref 6, .ref 18, .int (xJ len), .double 0] [] dc e) (by omega) ?_ ?_ d Fk_refl rfl
  · intro len l1 l2 ihl dc fc hq
    refine yk_24_18_2 ⟨by omega, fun c => by omega, fun _ => ?_⟩
    have hfl : f len = fT (fun p => (grT w n len (len - 1).toNat (fun _ => p)).map (fun rg => (len, rg))) 0 n := by rw [← hf]
    generalize hg : (fun p => (grT w n len (len - 1).toNat (fun _ => p)).map (fun rg => (len, rg))) = g at hfl
    refine lp_up (n := n) (X := fun p => ∀ dc, Fk s9 d dc → fT g 0 n = fT g p n → yB (D - 1) xm_c24 (yQi L P) L 7 [.ref 6, .ref 18, .int (xJ len), .int (xJ p)] [] dc e) x2.1 ?_ ?_ dc fc rfl
    · intro p p1 p2 ihp dc fc hp
      have hgp : g p = (grT w n len (len - 1).toNat (fun _ => p)).map (fun rg => (len, rg)) := by rw [← hg]
      refine yk_24_18_7 ?_
      rw [(rgX_fk (by decide) hx fc).1]
      refine ⟨by omega, by omega, fun c => by omega, fun _ => ?_⟩
      have fx : Fk s9 d (xs dc 9 0 p) := Fk_xs fc rfl
      have hm := @sq_25_18 L e w n len (by omega) (len - 1).toNat (D - 1) (xs dc 9 0 p) (fun _ => p) (fun d3 e4 => P len d3 e4) (fun d3 e4 => yB (D - 1) xm_c24 (yQi L P) L 7 [.ref 6, .ref 18, .int (xJ len), .int (xJ (p + 1))] [] d3 e4) (by omega) (by omega) (rgX_fk (by decide) hx fx) (fun j a c2 => ?_) (fun rg' d' g1 g2 g3 => ?_) (fun d' g1 g2 g3 => ?_)
      · rw [show len - ((len - 1).toNat : Int) = 1 by omega] at hm
        exact hm
      · have : j = 0 := by omega
        subst this
        rw [xs_eq]
        omega
      · refine hs len rg' d' ?_ (Fk_trans fx g2) g3
        rw [hq, fT_y (by omega) (by rw [hfl, hp, fT_y p2 (by rw [hgp, g1]; rfl)])]
      · exact ihp d' (Fk_trans fx g2) (by rw [hp, fT_n p2 (by rw [hgp, g1]; rfl)])
    · intro dc fc hp
      refine yk_24_18_7 ?_
      rw [(rgX_fk (by decide) hx fc).1]
      refine ⟨by omega, by omega, fun _ => ihl dc fc ?_, fun c => by omega⟩
      rw [hq, fT_n (by omega) (by rw [hfl, hp, fT_e (Int.le_refl _)])]
  · intro dc fc hq
    exact yk_24_18_2 ⟨by omega, fun _ => hn dc (by rw [hq, fT_e (by omega)]) fc, fun c => by omega⟩
theorem sq_267_147 {w : Int → Int → Bool} {n len : Int} (hl : 2 ≤ len ∧ len ≤ 4) : ∀ (m : Nat) {D : Nat} {d : xh_D} {rg : Int → Int} {P1 P0 : xh_D → xd_E → Prop}, 1 ≤ len - m → m + 3 ≤ D → rgM 147 w n d → (∀ j, 0 ≤ j → j < len - m → d 171 j = rg j ∧ 0 ≤ rg j ∧ rg j < n) → (∀ rg' d', grT w n len m rg = some rg' → Fk s171 d d' → d' 146 51 = d 146 51 → (∀ j, 0 ≤ j → j < len → d' 171 j = rg' j) → P1 d' e) → (∀ d', grT w n len m rg = none → Fk s171 d d' → d' 146 51 = d 146 51 → (∀ j, 0 ≤ j → j < len - m → d' 171 j = rg j) → P0 d' e) → yZ D 267 L [.ref 146, .ref 147, .int (xJ (len - m)), .int (xJ len)] d e P1 P0 := by
  intro m
  induction m with
  | zero =>
    intro D d rg P1 P0 h1 hD hx hr hs hn
    obtain ⟨x1, x2, x3, x4, x5⟩ := id hx
    have a0 := hr 0 (by omega) (by omega)
    have a1 := hr (len - 1) (by omega) (by omega)
    have b0 := x3 _ a0.2.1 a0.2.2
    have b1 := x3 _ a1.2.1 a1.2.2
    have c0 := x4 (rg (len - 1)) (d 147 (rg (len - 1))) a1.2.1 a1.2.2 b1.1 b1.2
    have c1 := x4 (rg (len - 1)) (d 147 (rg 0)) a1.2.1 a1.2.2 b0.1 b0.2
    have w5 := x5 _ _ a1.2.1 a1.2.2 a0.2.1 a0.2.2
    refine yZ_of rfl rfl rfl (by omega) (yk_267_147_0 (by omega) ?_)
    rw [show len - ((0 : Nat) : Int) - 1 = len - 1 by omega, a0.1, a1.1]
    refine ⟨by omega, by omega, fun c => by omega, fun _ => ⟨by omega, by omega, by omega, by omega, by omega, by omega, by omega, fun c => ?_, fun c => ?_⟩⟩
    · exact hs rg d (by unfold grT; rw [if_pos (w5.mpr c)]) Fk_refl rfl (fun j a c2 => (hr j a (by omega)).1)
    · exact hn d (by unfold grT; rw [if_neg (fun q => c (w5.mp q))]) Fk_refl rfl (fun j a c2 => (hr j a c2).1)
  | succ m ih =>
    intro D d rg P1 P0 h1 hD hx hr hs hn
    have x2 := hx.2.1
    have a0 := hr 0 (by omega) (by omega)
    generalize hk : len - ((m + 1 : Nat) : Int) = k at h1 hr hn
    refine yZ_of rfl rfl rfl (by omega) (yk_267_147_0 (by omega) ⟨by omega, by omega, fun _ => ?_, fun c => by omega⟩)
    rw [a0.1]
    have hgr : grT w n len (m + 1) rg = fT (fun p => if inR rg k p = false ∧ w (rg (k - 1)) p = true then grT w n len m (upI rg k p) else none) (rg 0 + 1) n := by rw [← hk]; rfl
    rw [hgr] at hs hn
    generalize hf : (fun p => if inR rg k p = false ∧ w (rg (k - 1)) p = true then grT w n len m (upI rg k p) else none) = f at hs hn
    have key : ∀ p, rg 0 + 1 ≤ p → ∀ dc, (p ≤ n ∨ p = rg 0 + 1) → Fk s171 d dc → dc 146 51 = d 146 51 → (∀ j, 0 ≤ j → j < k → dc 171 j = rg j) → fT f (rg 0 + 1) n = fT f p n → yB (D - 1) xm_c267 (yQz L P1 P0) L 24 [.ref 146, .ref 147, .int (xJ k), .int (xJ len), .int (xJ p), .double 0, .double 0] [] dc e := by
      intro p hp dc hpn
      revert dc
      refine lp_from (m := p) (n := max n p) (X := fun p => ∀ dc, Fk s171 d dc → dc 146 51 = d 146 51 → (∀ j, 0 ≤ j → j < k → dc 171 j = rg j) → fT f (rg 0 + 1) n = fT f p n → yB (D - 1) xm_c267 (yQz L P1 P0) L 24 [.ref 146, .ref 147, .int (xJ k), .int (xJ len), .int (xJ p), .double 0, .double 0] [] dc e) (by omega) ?_ ?_
      · intro q q1 q2 ihq dc fc f51 hc hq
        have hxc := rgM_fk (by decide) (by decide) hx fc
        obtain ⟨y1, y2, y3, y4, y5⟩ := id hxc
        have aq := hr (k - 1) (by omega) (by omega)
        have hcq := hc (k - 1) (by omega) (by omega)
        have b1 := y3 _ aq.2.1 aq.2.2
        have b2 := y3 q (by omega) (by omega)
        have c0 := y4 (rg (k - 1)) (dc 147 (rg (k - 1))) aq.2.1 aq.2.2 b1.1 b1.2
        have c1 := y4 (rg (k - 1)) (dc 147 q) aq.2.1 aq.2.2 b2.1 b2.2
        have w5 := y5 _ q aq.2.1 aq.2.2 (by omega) (by omega)
        have hfq : f q = if inR rg k q = false ∧ w (rg (k - 1)) q = true then grT w n len m (upI rg k q) else none := by rw [← hf]
        have go : ∀ dn, f q = none → Fk s171 d dn → dn 146 51 = d 146 51 → (∀ j, 0 ≤ j → j < k → dn 171 j = rg j) → yB (D - 1) xm_c267 (yQz L P1 P0) L 24 [.ref 146, .ref 147, .int (xJ k), .int (xJ len), .int (xJ (q + 1)), .double 0, .double 0] [] dn e := fun dn h2 h3 h5 h4 => ihq dn h3 h5 h4 (by rw [hq, fT_n (by omega) h2])
        refine yk_267_147_24 ?_
        rw [y1]
        refine ⟨by omega, by omega, fun c => by omega, fun _ => ?_⟩
        have hlp := lp_up (n := k) (X := fun j => yB (D - 1) xm_c267 (yQz L P1 P0) L 32 [.ref 146, .ref 147, .int (xJ k), .int (xJ len), .int (xJ q), .int (xJ (if inR rg j q = true then 1 else 0)), .int (xJ j)] [] dc e) (by omega) ?_ ?_
        · exact hlp
        · intro j j1 j2 jh
          have := hr j j1 j2
          have hin : inR rg (j + 1) q = (inR rg j q || decide (rg j = q)) := by
            unfold inR
            rw [aI_s _ j1]
            simp
          rw [hin] at jh
          refine yk_267_147_32 (by omega) ?_
          rw [hc j j1 j2]
          refine ⟨by omega, by omega, fun c => by omega, fun _ => ⟨by split <;> omega, fun c => ?_, fun c => ⟨by omega, by omega, by omega, fun c2 => ?_, fun c2 => ?_⟩⟩⟩
          · have : inR rg j q = true := by
              cases z : inR rg j q
              · rw [z] at c; exact absurd rfl c
              · rfl
            rw [this] at jh
            exact jh
          · have : inR rg j q = false := by
              cases z : inR rg j q
              · rfl
              · rw [z] at c; exact absurd c (by decide)
            rw [this, decide_eq_false c2] at jh
            exact jh
          · rw [decide_eq_true c2, Bool.or_true] at jh
            exact jh
        · refine yk_267_147_32 (by omega) ?_
          rw [hcq]
          refine ⟨by omega, by omega, fun _ => ⟨by split <;> omega, fun g => ?_, fun g => ?_⟩, fun c => by omega⟩
          · have : inR rg k q = true := by
              cases z : inR rg k q
              · rw [z] at g; exact absurd rfl g
              · rfl
            exact go _ (by rw [hfq, if_neg (by simp [this])]) fc f51 hc
          · have gz : inR rg k q = false := by
              cases z : inR rg k q
              · rfl
              · rw [z] at g; exact absurd g (by decide)
            refine ⟨by omega, by omega, by omega, by omega, by omega, by omega, by omega, fun c => ⟨by omega, ?_⟩, fun c => go _ (by rw [hfq, if_neg (fun z => c (w5.mp z.2))]) fc f51 hc⟩
            rw [if_pos ⟨gz, w5.mpr c⟩] at hfq
            have fx : Fk s171 d (xs dc 171 k q) := Fk_xs fc rfl
            have x51 : xs dc 171 k q 146 51 = d 146 51 := by rw [xs_np (by decide), f51]
            have hm := @ih (D - 1) (xs dc 171 k q) (upI rg k q) P1 (fun d13 e14 => yB (D - 1) xm_c267 (yQz L P1 P0) L 24 [.ref 146, .ref 147, .int (xJ k), .int (xJ len), .int (xJ (q + 1)), .double 0, .double 0] [] d13 e14) (by omega) (by omega) (rgM_fk (by decide) (by decide) hx fx) (fun j a c2 => ?_) (fun rg' d' g1 g2 g4 g3 => ?_) (fun d' g1 g2 g4 g3 => ?_)
            · rw [show len - (m : Int) = k + 1 by omega] at hm
              exact hm
            · by_cases z : j = k
              · subst z
                rw [xs_eq, upI_app, if_pos rfl]
                omega
              · rw [xs_ni z, upI_app, if_neg z, hc j a (by omega)]
                have := hr j a (by omega)
                omega
            · exact hs rg' d' (by rw [hq, fT_y (by omega) (by rw [hfq]; exact g1)]) (Fk_trans fx g2) (by rw [g4, x51]) g3
            · refine go d' (by rw [hfq]; exact g1) (Fk_trans fx g2) (by rw [g4, x51]) (fun j a c2 => ?_)
              rw [g3 j a (by omega), upI_app, if_neg (by omega)]
      · intro dc fc f51 hc hq
        have y1 : dc 146 1 = n := (rgM_fk (by decide) (by decide) hx fc).1
        refine yk_267_147_24 ?_
        rw [y1]
        refine ⟨by omega, by omega, fun _ => hn dc ?_ fc f51 hc, fun c => by omega⟩
        rw [hq, fT_e (by omega)]
    exact key _ (Int.le_refl _) d (Or.inr rfl) Fk_refl rfl (fun j a c => (hr j a c).1) rfl
theorem sq_268_147 {w : Int → Int → Bool} {n : Int} (hD : 7 ≤ D) (hx : rgM 147 w n d) (hs : ∀ len rg d', rgF w n = some (len, rg) → Fk s171 d d' → d' 146 51 = len → (∀ j, 0 ≤ j → j < len → d' 171 j = rg j) → P1 d' e) (hn : ∀ d', rgF w n = none → Fk s171 d d' → P0 d' e) : yZ D 268 L [.ref 146, .ref 147] d e P1 P0 := by
  have x2 := hx.2.1
  refine yZ_of rfl rfl rfl (by omega) (yk_268_147_0 ?_)
  unfold rgF at hs hn
  generalize hf : (fun len => fT (fun p => (grT w n len (len - 1).toNat (fun _ => p)).map (fun rg => (len, rg))) 0 n) = f at hs hn
  refine lp_from (m := 2) (n := 5) (X := fun len => ∀ dc, Fk s171 d dc → fT f 2 5 = fT f len 5 → yB (D - 1) xm_c268 (yQz L P1 P0) L 2 [.ref 146, .ref 147, .int (xJ len), .double 0] [] dc e) (by omega) ?_ ?_ d Fk_refl rfl
  · intro len l1 l2 ihl dc fc hq
    refine yk_268_147_2 ⟨by omega, fun c => by omega, fun _ => ?_⟩
    have hfl : f len = fT (fun p => (grT w n len (len - 1).toNat (fun _ => p)).map (fun rg => (len, rg))) 0 n := by rw [← hf]
    generalize hg : (fun p => (grT w n len (len - 1).toNat (fun _ => p)).map (fun rg => (len, rg))) = g at hfl
    refine lp_up (n := n) (X := fun p => ∀ dc, Fk s171 d dc → dc 146 51 = len → fT g 0 n = fT g p n → yB (D - 1) xm_c268 (yQz L P1 P0) L 10 [.ref 146, .ref 147, .int (xJ len), .int (xJ p)] [] dc e) x2.1 ?_ ?_ _ (Fk_xs fc rfl) xs_eq rfl
    · intro p p1 p2 ihp dc fc f51 hp
      have hgp : g p = (grT w n len (len - 1).toNat (fun _ => p)).map (fun rg => (len, rg)) := by rw [← hg]
      refine yk_268_147_10 ?_
      rw [(rgM_fk (by decide) (by decide) hx fc).1]
      refine ⟨by omega, by omega, fun c => by omega, fun _ => ?_⟩
      have fx : Fk s171 d (xs dc 171 0 p) := Fk_xs fc rfl
      have x51 : xs dc 171 0 p 146 51 = len := by rw [xs_np (by decide), f51]
      have hm := @sq_267_147 L e w n len (by omega) (len - 1).toNat (D - 1) (xs dc 171 0 p) (fun _ => p) (fun d3 e4 => P1 d3 e4) (fun d3 e4 => yB (D - 1) xm_c268 (yQz L P1 P0) L 10 [.ref 146, .ref 147, .int (xJ len), .int (xJ (p + 1))] [] d3 e4) (by omega) (by omega) (rgM_fk (by decide) (by decide) hx fx) (fun j a c2 => ?_) (fun rg' d' g1 g2 g4 g3 => ?_) (fun d' g1 g2 g4 g3 => ?_)
      · rw [show len - ((len - 1).toNat : Int) = 1 by omega] at hm
        exact hm
      · have : j = 0 := by omega
        subst this
        rw [xs_eq]
        omega
      · refine hs len rg' d' ?_ (Fk_trans fx g2) (by rw [g4, x51]) g3
        rw [hq, fT_y (by omega) (by rw [hfl, hp, fT_y p2 (by rw [hgp, g1]; rfl)])]
      · exact ihp d' (Fk_trans fx g2) (by rw [g4, x51]) (by rw [hp, fT_n p2 (by rw [hgp, g1]; rfl)])
    · intro dc fc f51 hp
      refine yk_268_147_10 ?_
      rw [(rgM_fk (by decide) (by decide) hx fc).1]
      refine ⟨by omega, by omega, fun _ => ihl dc fc ?_, fun c => by omega⟩
      rw [hq, fT_n (by omega) (by rw [hfl, hp, fT_e (Int.le_refl _)])]
  · intro dc fc hq
    exact yk_268_147_2 ⟨by omega, fun _ => hn dc (by rw [hq, fT_e (by omega)]) fc, fun c => by omega⟩
theorem sq_267_162 {w : Int → Int → Bool} {n len : Int} (hl : 2 ≤ len ∧ len ≤ 4) : ∀ (m : Nat) {D : Nat} {d : xh_D} {rg : Int → Int} {P1 P0 : xh_D → xd_E → Prop}, 1 ≤ len - m → m + 3 ≤ D → rgM 162 w n d → (∀ j, 0 ≤ j → j < len - m → d 171 j = rg j ∧ 0 ≤ rg j ∧ rg j < n) → (∀ rg' d', grT w n len m rg = some rg' → Fk s171 d d' → d' 146 51 = d 146 51 → (∀ j, 0 ≤ j → j < len → d' 171 j = rg' j) → P1 d' e) → (∀ d', grT w n len m rg = none → Fk s171 d d' → d' 146 51 = d 146 51 → (∀ j, 0 ≤ j → j < len - m → d' 171 j = rg j) → P0 d' e) → yZ D 267 L [.ref 146, .ref 162, .int (xJ (len - m)), .int (xJ len)] d e P1 P0 := by
  intro m
  induction m with
  | zero =>
    intro D d rg P1 P0 h1 hD hx hr hs hn
    obtain ⟨x1, x2, x3, x4, x5⟩ := id hx
    have a0 := hr 0 (by omega) (by omega)
    have a1 := hr (len - 1) (by omega) (by omega)
    have b0 := x3 _ a0.2.1 a0.2.2
    have b1 := x3 _ a1.2.1 a1.2.2
    have c0 := x4 (rg (len - 1)) (d 162 (rg (len - 1))) a1.2.1 a1.2.2 b1.1 b1.2
    have c1 := x4 (rg (len - 1)) (d 162 (rg 0)) a1.2.1 a1.2.2 b0.1 b0.2
    have w5 := x5 _ _ a1.2.1 a1.2.2 a0.2.1 a0.2.2
    refine yZ_of rfl rfl rfl (by omega) (yk_267_162_0 (by omega) ?_)
    rw [show len - ((0 : Nat) : Int) - 1 = len - 1 by omega, a0.1, a1.1]
    refine ⟨by omega, by omega, fun c => by omega, fun _ => ⟨by omega, by omega, by omega, by omega, by omega, by omega, by omega, fun c => ?_, fun c => ?_⟩⟩
    · exact hs rg d (by unfold grT; rw [if_pos (w5.mpr c)]) Fk_refl rfl (fun j a c2 => (hr j a (by omega)).1)
    · exact hn d (by unfold grT; rw [if_neg (fun q => c (w5.mp q))]) Fk_refl rfl (fun j a c2 => (hr j a c2).1)
  | succ m ih =>
    intro D d rg P1 P0 h1 hD hx hr hs hn
    have x2 := hx.2.1
    have a0 := hr 0 (by omega) (by omega)
    generalize hk : len - ((m + 1 : Nat) : Int) = k at h1 hr hn
    refine yZ_of rfl rfl rfl (by omega) (yk_267_162_0 (by omega) ⟨by omega, by omega, fun _ => ?_, fun c => by omega⟩)
    rw [a0.1]
    have hgr : grT w n len (m + 1) rg = fT (fun p => if inR rg k p = false ∧ w (rg (k - 1)) p = true then grT w n len m (upI rg k p) else none) (rg 0 + 1) n := by rw [← hk]; rfl
    rw [hgr] at hs hn
    generalize hf : (fun p => if inR rg k p = false ∧ w (rg (k - 1)) p = true then grT w n len m (upI rg k p) else none) = f at hs hn
    have key : ∀ p, rg 0 + 1 ≤ p → ∀ dc, (p ≤ n ∨ p = rg 0 + 1) → Fk s171 d dc → dc 146 51 = d 146 51 → (∀ j, 0 ≤ j → j < k → dc 171 j = rg j) → fT f (rg 0 + 1) n = fT f p n → yB (D - 1) xm_c267 (yQz L P1 P0) L 24 [.ref 146, .ref 162, .int (xJ k), .int (xJ len), .int (xJ p), .double 0, .double 0] [] dc e := by
      intro p hp dc hpn
      revert dc
      refine lp_from (m := p) (n := max n p) (X := fun p => ∀ dc, Fk s171 d dc → dc 146 51 = d 146 51 → (∀ j, 0 ≤ j → j < k → dc 171 j = rg j) → fT f (rg 0 + 1) n = fT f p n → yB (D - 1) xm_c267 (yQz L P1 P0) L 24 [.ref 146, .ref 162, .int (xJ k), .int (xJ len), .int (xJ p), .double 0, .double 0] [] dc e) (by omega) ?_ ?_
      · intro q q1 q2 ihq dc fc f51 hc hq
        have hxc := rgM_fk (by decide) (by decide) hx fc
        obtain ⟨y1, y2, y3, y4, y5⟩ := id hxc
        have aq := hr (k - 1) (by omega) (by omega)
        have hcq := hc (k - 1) (by omega) (by omega)
        have b1 := y3 _ aq.2.1 aq.2.2
        have b2 := y3 q (by omega) (by omega)
        have c0 := y4 (rg (k - 1)) (dc 162 (rg (k - 1))) aq.2.1 aq.2.2 b1.1 b1.2
        have c1 := y4 (rg (k - 1)) (dc 162 q) aq.2.1 aq.2.2 b2.1 b2.2
        have w5 := y5 _ q aq.2.1 aq.2.2 (by omega) (by omega)
        have hfq : f q = if inR rg k q = false ∧ w (rg (k - 1)) q = true then grT w n len m (upI rg k q) else none := by rw [← hf]
        have go : ∀ dn, f q = none → Fk s171 d dn → dn 146 51 = d 146 51 → (∀ j, 0 ≤ j → j < k → dn 171 j = rg j) → yB (D - 1) xm_c267 (yQz L P1 P0) L 24 [.ref 146, .ref 162, .int (xJ k), .int (xJ len), .int (xJ (q + 1)), .double 0, .double 0] [] dn e := fun dn h2 h3 h5 h4 => ihq dn h3 h5 h4 (by rw [hq, fT_n (by omega) h2])
        refine yk_267_162_24 ?_
        rw [y1]
        refine ⟨by omega, by omega, fun c => by omega, fun _ => ?_⟩
        have hlp := lp_up (n := k) (X := fun j => yB (D - 1) xm_c267 (yQz L P1 P0) L 32 [.ref 146, .ref 162, .int (xJ k), .int (xJ len), .int (xJ q), .int (xJ (if inR rg j q = true then 1 else 0)), .int (xJ j)] [] dc e) (by omega) ?_ ?_
        · exact hlp
        · intro j j1 j2 jh
          have := hr j j1 j2
          have hin : inR rg (j + 1) q = (inR rg j q || decide (rg j = q)) := by
            unfold inR
            rw [aI_s _ j1]
            simp
          rw [hin] at jh
          refine yk_267_162_32 (by omega) ?_
          rw [hc j j1 j2]
          refine ⟨by omega, by omega, fun c => by omega, fun _ => ⟨by split <;> omega, fun c => ?_, fun c => ⟨by omega, by omega, by omega, fun c2 => ?_, fun c2 => ?_⟩⟩⟩
          · have : inR rg j q = true := by
              cases z : inR rg j q
              · rw [z] at c; exact absurd rfl c
              · rfl
            rw [this] at jh
            exact jh
          · have : inR rg j q = false := by
              cases z : inR rg j q
              · rfl
              · rw [z] at c; exact absurd c (by decide)
            rw [this, decide_eq_false c2] at jh
            exact jh
          · rw [decide_eq_true c2, Bool.or_true] at jh
            exact jh
        · refine yk_267_162_32 (by omega) ?_
          rw [hcq]
          refine ⟨by omega, by omega, fun _ => ⟨by split <;> omega, fun g => ?_, fun g => ?_⟩, fun c => by omega⟩
          · have : inR rg k q = true := by
              cases z : inR rg k q
              · rw [z] at g; exact absurd rfl g
              · rfl
            exact go _ (by rw [hfq, if_neg (by simp [this])]) fc f51 hc
          · have gz : inR rg k q = false := by
              cases z : inR rg k q
              · rfl
              · rw [z] at g; exact absurd g (by decide)
            refine ⟨by omega, by omega, by omega, by omega, by omega, by omega, by omega, fun c => ⟨by omega, ?_⟩, fun c => go _ (by rw [hfq, if_neg (fun z => c (w5.mp z.2))]) fc f51 hc⟩
            rw [if_pos ⟨gz, w5.mpr c⟩] at hfq
            have fx : Fk s171 d (xs dc 171 k q) := Fk_xs fc rfl
            have x51 : xs dc 171 k q 146 51 = d 146 51 := by rw [xs_np (by decide), f51]
            have hm := @ih (D - 1) (xs dc 171 k q) (upI rg k q) P1 (fun d13 e14 => yB (D - 1) xm_c267 (yQz L P1 P0) L 24 [.ref 146, .ref 162, .int (xJ k), .int (xJ len), .int (xJ (q + 1)), .double 0, .double 0] [] d13 e14) (by omega) (by omega) (rgM_fk (by decide) (by decide) hx fx) (fun j a c2 => ?_) (fun rg' d' g1 g2 g4 g3 => ?_) (fun d' g1 g2 g4 g3 => ?_)
            · rw [show len - (m : Int) = k + 1 by omega] at hm
              exact hm
            · by_cases z : j = k
              · subst z
                rw [xs_eq, upI_app, if_pos rfl]
                omega
              · rw [xs_ni z, upI_app, if_neg z, hc j a (by omega)]
                have := hr j a (by omega)
                omega
            · exact hs rg' d' (by rw [hq, fT_y (by omega) (by rw [hfq]; exact g1)]) (Fk_trans fx g2) (by rw [g4, x51]) g3
            · refine go d' (by rw [hfq]; exact g1) (Fk_trans fx g2) (by rw [g4, x51]) (fun j a c2 => ?_)
              rw [g3 j a (by omega), upI_app, if_neg (by omega)]
      · intro dc fc f51 hc hq
        have y1 : dc 146 1 = n := (rgM_fk (by decide) (by decide) hx fc).1
        refine yk_267_162_24 ?_
        rw [y1]
        refine ⟨by omega, by omega, fun _ => hn dc ?_ fc f51 hc, fun c => by omega⟩
        rw [hq, fT_e (by omega)]
    exact key _ (Int.le_refl _) d (Or.inr rfl) Fk_refl rfl (fun j a c => (hr j a c).1) rfl
theorem sq_268_162 {w : Int → Int → Bool} {n : Int} (hD : 7 ≤ D) (hx : rgM 162 w n d) (hs : ∀ len rg d', rgF w n = some (len, rg) → Fk s171 d d' → d' 146 51 = len → (∀ j, 0 ≤ j → j < len → d' 171 j = rg j) → P1 d' e) (hn : ∀ d', rgF w n = none → Fk s171 d d' → P0 d' e) : yZ D 268 L [.ref 146, .ref 162] d e P1 P0 := by
  have x2 := hx.2.1
  refine yZ_of rfl rfl rfl (by omega) (yk_268_162_0 ?_)
  unfold rgF at hs hn
  generalize hf : (fun len => fT (fun p => (grT w n len (len - 1).toNat (fun _ => p)).map (fun rg => (len, rg))) 0 n) = f at hs hn
  refine lp_from (m := 2) (n := 5) (X := fun len => ∀ dc, Fk s171 d dc → fT f 2 5 = fT f len 5 → yB (D - 1) xm_c268 (yQz L P1 P0) L 2 [.ref 146, .ref 162, .int (xJ len), .double 0] [] dc e) (by omega) ?_ ?_ d Fk_refl rfl
  · intro len l1 l2 ihl dc fc hq
    refine yk_268_162_2 ⟨by omega, fun c => by omega, fun _ => ?_⟩
    have hfl : f len = fT (fun p => (grT w n len (len - 1).toNat (fun _ => p)).map (fun rg => (len, rg))) 0 n := by rw [← hf]
    generalize hg : (fun p => (grT w n len (len - 1).toNat (fun _ => p)).map (fun rg => (len, rg))) = g at hfl
    refine lp_up (n := n) (X := fun p => ∀ dc, Fk s171 d dc → dc 146 51 = len → fT g 0 n = fT g p n → yB (D - 1) xm_c268 (yQz L P1 P0) L 10 [.ref 146, .ref 162, .int (xJ len), .int (xJ p)] [] dc e) x2.1 ?_ ?_ _ (Fk_xs fc rfl) xs_eq rfl
    · intro p p1 p2 ihp dc fc f51 hp
      have hgp : g p = (grT w n len (len - 1).toNat (fun _ => p)).map (fun rg => (len, rg)) := by rw [← hg]
      refine yk_268_162_10 ?_
      rw [(rgM_fk (by decide) (by decide) hx fc).1]
      refine ⟨by omega, by omega, fun c => by omega, fun _ => ?_⟩
      have fx : Fk s171 d (xs dc 171 0 p) := Fk_xs fc rfl
      have x51 : xs dc 171 0 p 146 51 = len := by rw [xs_np (by decide), f51]
      have hm := @sq_267_162 L e w n len (by omega) (len - 1).toNat (D - 1) (xs dc 171 0 p) (fun _ => p) (fun d3 e4 => P1 d3 e4) (fun d3 e4 => yB (D - 1) xm_c268 (yQz L P1 P0) L 10 [.ref 146, .ref 162, .int (xJ len), .int (xJ (p + 1))] [] d3 e4) (by omega) (by omega) (rgM_fk (by decide) (by decide) hx fx) (fun j a c2 => ?_) (fun rg' d' g1 g2 g4 g3 => ?_) (fun d' g1 g2 g4 g3 => ?_)
      · rw [show len - ((len - 1).toNat : Int) = 1 by omega] at hm
        exact hm
      · have : j = 0 := by omega
        subst this
        rw [xs_eq]
        omega
      · refine hs len rg' d' ?_ (Fk_trans fx g2) (by rw [g4, x51]) g3
        rw [hq, fT_y (by omega) (by rw [hfl, hp, fT_y p2 (by rw [hgp, g1]; rfl)])]
      · exact ihp d' (Fk_trans fx g2) (by rw [g4, x51]) (by rw [hp, fT_n p2 (by rw [hgp, g1]; rfl)])
    · intro dc fc f51 hp
      refine yk_268_162_10 ?_
      rw [(rgM_fk (by decide) (by decide) hx fc).1]
      refine ⟨by omega, by omega, fun _ => ihl dc fc ?_, fun c => by omega⟩
      rw [hq, fT_n (by omega) (by rw [hfl, hp, fT_e (Int.le_refl _)])]
  · intro dc fc hq
    exact yk_268_162_2 ⟨by omega, fun _ => hn dc (by rw [hq, fT_e (by omega)]) fc, fun c => by omega⟩
theorem rgF_ok {w : Int → Int → Bool} {n len : Int} {rg : Int → Int} (h : rgF w n = some (len, rg)) : (2 ≤ len ∧ len ≤ 4) ∧ (∀ j, 0 ≤ j → j < len → 0 ≤ rg j ∧ rg j < n) ∧ (∀ j k, 0 ≤ k → k < j → j < len → ¬ rg k = rg j) ∧ (∀ j, 1 ≤ j → j < len → w (rg (j - 1)) (rg j) = true) ∧ w (rg (len - 1)) (rg 0) = true := by
  unfold rgF at h
  obtain ⟨l, l1, l2, h1⟩ := fT_some h
  obtain ⟨p, p1, p2, h2⟩ := fT_some h1
  cases hg : grT w n l (l - 1).toNat (fun _ => p) with
  | none => rw [hg] at h2; exact absurd h2 (by simp)
  | some r =>
    rw [hg] at h2
    have h3 : (l, r) = (len, rg) := Option.some.inj h2
    have e1 : l = len := congrArg Prod.fst h3
    have e2 : r = rg := congrArg Prod.snd h3
    subst e1
    subst e2
    obtain ⟨q1, q2, q3⟩ := grT_ok (l - 1).toNat (by omega) hg
    have e0 : r 0 = p := q1 0 (by omega) (by omega)
    refine ⟨by omega, fun j a c => ?_, fun j k a c c2 => (q2 j (by omega) c2).2.2.1 k a c, fun j a c => (q2 j (by omega) c).2.2.2, q3⟩
    by_cases z : j = 0
    · subst z; omega
    · have := q2 j (by omega) c
      omega
end RNG
