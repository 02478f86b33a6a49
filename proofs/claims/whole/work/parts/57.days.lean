/-! DAYS go by, on both sides. -/
abbrev dT : Type := (Int → Int) × (Int → Int) × Int × (Int → Int → Int)
abbrev dZT : Type := Int × Int × Int × (Int → Int)
def dyB (F : (Int → Int) → Int) (tr h s : Int → Int) (n : Int) (X : dT) : Int × (Int → Int) := gB F tr h s X.1 n X.2.2.1
def dyK (h : Int → Int) (n : Int) (X : dT) : Int := cI (hfF h X.2.2.1) n
def dyY (F : (Int → Int) → Int) (tr h s : Int → Int) (n : Int) (X : dT) : (Int → Int) × (Int → Int) × Int := fI (dyS (dyB F tr h s n X).2 (hpC (hfF h X.2.2.1) n)) (X.1, X.2.1, 0) (dyK h n X)
def dN (F : (Int → Int) → Int) (tr h s : Int → Int) (n : Int) (X : dT) : dT := ((dyY F tr h s n X).1, (dyY F tr h s n X).2.1, X.2.2.1 + 1, fun j p => if j = X.2.2.1 % 30 then cvF (hfF h X.2.2.1) (dyB F tr h s n X).2 p else X.2.2.2 j p)
def dA (F : (Int → Int) → Int) (tr h s : Int → Int) (n : Int) (X : dT) (Z : dZT) : dZT := (Z.1 + (dyK h n X - (dyB F tr h s n X).1 / 1000), Z.2.1 + (dyB F tr h s n X).1 % 1000, Z.2.2.1 + (dyY F tr h s n X).2.2, fun g => Z.2.2.2 g + cI (fun j => decide ((dyB F tr h s n X).2 j = g)) (dyK h n X))
def dF (F : (Int → Int) → Int) (tr h s : Int → Int) (n : Int) : Int → dT × dZT → dT × dZT := fun _ x => (dN F tr h s n x.1, dA F tr h s n x.1 x.2)
def okD (b n : Int) (h s : Int → Int) (X : dT) : Prop := (0 ≤ n ∧ n ≤ 9) ∧ (∀ p, 0 ≤ p → p < n → (0 ≤ h p ∧ h p < 9) ∧ (0 ≤ s p ∧ s p < 9) ∧ (0 ≤ X.1 p ∧ X.1 p < 64)) ∧ (∀ i, 0 ≤ i → i < 54 → 0 ≤ X.2.1 i ∧ X.2.1 i ≤ X.2.2.1) ∧ (∀ i, n * 6 ≤ i → i < 54 → X.2.1 i = 0) ∧ (0 ≤ X.2.2.1 ∧ X.2.2.1 ≤ b)
theorem hpC_d {hf : Int → Bool} {n : Int} (hn : 0 ≤ n) : ∀ i i', 0 ≤ i → i < i' → i' < cI hf n → ¬ hpC hf n i = hpC hf n i' := fun i i' a c c2 q => by
  have hx := (hpC_ok (hf := hf) hn).2
  have h1 := (hx i a (by omega)).2.2.2
  have h2 := (hx i' (by omega) c2).2.2.2
  rw [q, h2] at h1
  omega
theorem okD_l {F : (Int → Int) → Int} {tr h s : Int → Int} {b n : Int} {X : dT} (ok : okD b n h s X) {j : Int} (hj : 0 ≤ j ∧ j ≤ dyK h n X) : lsI n X.2.2.1 (dyK h n X) (hpC (hfF h X.2.2.1) n) j (fI (dyS (dyB F tr h s n X).2 (hpC (hfF h X.2.2.1) n)) (X.1, X.2.1, 0) j) := by
  have hx := (hpC_ok (hf := hfF h X.2.2.1) ok.1.1).2
  exact lsI_f ok.1 (fun i a c => ⟨(hx i a c).1, (hx i a c).2.1⟩) (hpC_d ok.1.1) (gB_ok ok.1).2.2 (fun p a c => (ok.2.1 p a c).2.2) ok.2.2.1 ok.2.2.2.1 hj
theorem okD_s {F : (Int → Int) → Int} {tr h s : Int → Int} {b n : Int} {X : dT} (ok : okD b n h s X) : okD (b + 1) n h s (dN F tr h s n X) := by
  have kr := cI_r (hfF h X.2.2.1) ok.1.1
  have l := okD_l (F := F) (tr := tr) ok (j := dyK h n X) ⟨kr.1, Int.le_refl _⟩
  refine ⟨ok.1, fun p a c => ⟨(ok.2.1 p a c).1, (ok.2.1 p a c).2.1, l.1 p a c⟩, l.2.1, l.2.2.2.1, ?_⟩
  have := ok.2.2.2.2
  show 0 ≤ X.2.2.1 + 1 ∧ X.2.2.1 + 1 ≤ b + 1
  omega
theorem okD_mono {b b' n : Int} {h s : Int → Int} {X : dT} (ok : okD b n h s X) (hb : b ≤ b') : okD b' n h s X := ⟨ok.1, ok.2.1, ok.2.2.1, ok.2.2.2.1, by have := ok.2.2.2.2; omega⟩
theorem okD_i {F : (Int → Int) → Int} {tr h s : Int → Int} {b n : Int} {X : dT} {Z : dZT} (ok : okD b n h s X) {m : Int} (hm : 0 ≤ m) : okD (b + m) n h s (fI (dF F tr h s n) (X, Z) m).1 := by
  refine fI_inv (g := dF F tr h s n) (a := (X, Z)) (I := fun m x => okD (b + m) n h s x.1) (by rw [Int.add_zero]; exact ok) ?_ hm
  intro i x a c hx
  rw [show b + (i + 1) = b + i + 1 by omega]
  exact okD_s hx
theorem cI_not {f : Int → Bool} {n : Int} (hn : 0 ≤ n) : cI (fun j => !f j) n = n - cI f n := by
  have key : ∀ k : Nat, cI (fun j => !f j) k = k - cI f k := by
    intro k
    induction k with
    | zero => rfl
    | succ k ih =>
      rw [show ((k + 1 : Nat) : Int) = (k : Int) + 1 from rfl, cI_s _ (by omega), cI_s _ (by omega), ih]
      cases f k <;> simp <;> omega
  have := key n.toNat
  rwa [show ((n.toNat : Nat) : Int) = n by omega] at this
/-- the class's state is X, its walk Z -/
def clD (S : Nat) (n : Int) (h s : Int → Int) (X : dT) (Z : dZT) (d : xh_D) (e : xd_E) : Prop := d (S + 1) = h ∧ d (S + 2) = s ∧ d (S + 3) = X.1 ∧ d (S + 4) = X.2.1 ∧ d S 5 = X.2.2.1 ∧ (∀ j p, 0 ≤ j → j < 30 → j < X.2.2.1 → 0 ≤ p → p < 9 → xp_ent (e (S + 5) j.toNat) p = if p < n then X.2.2.2 j p else 11) ∧ d 118 2 = Z.1 ∧ d 118 3 = Z.2.1 ∧ d 118 4 = Z.2.2.1 ∧ ∀ g, 0 ≤ g → g < n → d 126 g = Z.2.2.2 g
def sD (S : Nat) (p : Nat) (i : Int) : Bool := sF p i || p == 118 || p == 126 || (p == S && decide (i = 5)) || p == S + 3 || p == S + 4
section DYS
variable {L D : Nat} {d : xh_D} {e : xd_E}
theorem sq_86_11 {F : (Int → Int) → Int} {h s : Int → Int} {b n m : Int} {X : dT} {Z : dZT} {P : xh_D → xd_E → Prop} (hD : 16 ≤ D) (hX : rX F (d 111 6) (d 112)) (hn6 : d 6 4 = n) (ht : ∀ i, 0 ≤ i → i < 81 → 0 ≤ d 7 i ∧ d 7 i ≤ 9) (ok : okD b n h s X) (hm : 0 ≤ m ∧ m ≤ 1000) (hb : b < 1800000000) (cl : clD 11 n h s X Z d e) (hP : ∀ d' e', Fk (sD 11) d d' → (∀ q, ¬ q = 16 → e' q = e q) → clD 11 n h s (fI (dF F (d 7) h s n) (X, Z) m).1 (fI (dF F (d 7) h s n) (X, Z) m).2 d' e' → P d' e') : yV D 86 L [.ref 118, .ref 6, .ref 111, .ref 11, .int (xJ m)] d e P := by
  have hn := ok.1
  refine yV_of rfl rfl rfl (by omega) (yk_86_11_0 ?_)
  refine lp_up (n := m) (X := fun i => ∀ dc ec, Fk (sD 11) d dc → (∀ q, ¬ q = 16 → ec q = e q) → clD 11 n h s (fI (dF F (d 7) h s n) (X, Z) i).1 (fI (dF F (d 7) h s n) (X, Z) i).2 dc ec → yB (D - 1) xm_c86 (yQv L P) L 2 [.ref 118, .ref 6, .ref 111, .ref 11, .int (xJ m), .int (xJ i)] [] dc ec) hm.1 ?_ ?_ d e Fk_refl (fun _ _ => rfl) cl
  · intro i a c ih dc ec fc fe cl
    have oki := okD_i (F := F) (tr := d 7) (Z := Z) ok a
    rw [fI_s _ _ a] at ih
    generalize hx : fI (dF F (d 7) h s n) (X, Z) i = x at ih cl oki
    obtain ⟨Xi, Zi⟩ := x
    obtain ⟨c1, c2, c3, c4, c5, c6, c7, c8, c9, c10⟩ := id cl
    simp only [] at c1 c2 c3 c4 c5 c6 c7 c8 c9 c10 oki
    have c7' : dc 7 = d 7 := Fk_p fc (p := 7) (fun _ => rfl)
    have wr := oki.2.2.2.2
    have okx : okX n 12 13 14 dc := ⟨by rw [Fk_p fc (p := 6) (fun _ => rfl)]; exact hn6, hn, fun p a2 c2' => by rw [c1, c2, c3]; exact oki.2.1 p a2 c2', by rw [c7']; exact ht⟩
    refine yk_86_11_2 (by omega) ⟨by omega, by omega, fun z => by omega, fun _ => ?_⟩
    rw [c5]
    refine sg_8_11 (F := F) (n := n) (by omega) (by rw [fc 111 6 rfl, Fk_p fc (p := 112) (fun _ => rfl)]; exact hX) okx (by omega) (fun d1 f1 y6 y7 y8 y120 y121 _ => ?_)
    rw [c1, c2, c3, c7'] at y8 y121
    rw [c1] at y6 y120
    have g : ∀ p, (∀ i, sF p i = false) → d1 p = dc p := fun p hp => Fk_p f1 hp
    have gok := gB_ok (F := F) (tr := d 7) (h := h) (s := s) (t := Xi.1) (day := Xi.2.2.1) hn
    have n1 : d1 6 4 = n := by rw [g 6 (fun _ => rfl), Fk_p fc (p := 6) (fun _ => rfl)]; exact hn6
    rw [n1]
    refine sq_59_11 (by omega) hn (by rw [g 11 (fun _ => rfl), c5]; omega) ?_
    rw [g 11 (fun _ => rfl), c5]
    refine sq_87_11 (n := n) (w := Xi.2.2.1) (k := dyK h n Xi) (hf := hfF h Xi.2.2.1) (hp := hpC (hfF h Xi.2.2.1) n) (bs := (dyB F (d 7) h s n Xi).2) (by omega) hn rfl (hpC_ok hn.1) y6 y120 y121 gok.2.2 ⟨by rw [g 11 (fun _ => rfl), c5], by omega, by omega⟩ (by rw [g 14 (fun _ => rfl), c3]; exact fun p a c => (oki.2.1 p a c).2.2) (by rw [g 15 (fun _ => rfl), c4]; exact oki.2.2.1) (by rw [g 15 (fun _ => rfl), c4]; exact oki.2.2.2.1) (fun p a2 c2' => ?_) (fun d2 e2 z1 z2 z3 z4 z5 z6 z7 z8 z9 z10 => ?_)
    · have : va_up ec 16 (vp_updL (ec 16) (Xi.2.2.1 % 30).toNat (pgF n 9 0)) 16 (Xi.2.2.1 % 30).toNat = pgF n 9 0 := by simp [va_up, vp_updL]
      rw [this]
      exact pgF_ent hn ⟨a2, c2'⟩
    · have w8 : d2 119 8 = (dyB F (d 7) h s n Xi).1 := by rw [z1 119 (by decide) (by decide) (by decide) (by decide), y8]; rfl
      have gk : 0 ≤ (dyB F (d 7) h s n Xi).1 ∧ (dyB F (d 7) h s n Xi).1 ≤ 9900 := gok.1
      rw [w8]
      refine ⟨by omega, ?_⟩
      have d5 : d2 11 5 = Xi.2.2.1 := by rw [z1 11 (by decide) (by decide) (by decide) (by decide), g 11 (fun _ => rfl), c5]
      rw [d5]
      have y3 : d1 14 = Xi.1 := by rw [g 14 (fun _ => rfl), c3]
      have y4 : d1 15 = Xi.2.1 := by rw [g 15 (fun _ => rfl), c4]
      rw [y3, y4] at z3 z4 z5
      have wc : ∀ p, ¬ p = 118 → ¬ p = 11 → xs (xs d2 118 3 (d2 118 3 + (dyB F (d 7) h s n Xi).1 % 1000)) 11 5 (Xi.2.2.1 + 1) p = d2 p := fun p h1 h2 => by rw [xs_fn, if_neg h2, xs_fn, if_neg h1]
      refine ih _ _ (Fk_xs (Fk_xs (Fk_trans fc (fun p i q => ?_)) rfl) rfl) (fun q hq => by rw [z8 q hq]; simp [va_up, hq]; exact fe q hq) ⟨?_, ?_, ?_, ?_, ?_, fun j p a2 c2' c3' a3 c4' => ?_, ?_, ?_, ?_, fun g2 a2 c2' => ?_⟩
      · have q1 : sF p i = false := by
          unfold sD at q
          cases w : sF p i
          · rfl
          · rw [w] at q; simp at q
        have q2 : ¬ p = 118 ∧ ¬ p = 126 ∧ ¬ p = 14 ∧ ¬ p = 15 := by
          unfold sD at q
          simp at q
          omega
        rw [z1 p q2.2.2.1 q2.2.2.2 q2.1 q2.2.1]
        exact f1 p i q1
      · rw [wc _ (by decide) (by decide), z1 12 (by decide) (by decide) (by decide) (by decide), g 12 (fun _ => rfl), c1]
      · rw [wc _ (by decide) (by decide), z1 13 (by decide) (by decide) (by decide) (by decide), g 13 (fun _ => rfl), c2]
      · rw [wc _ (by decide) (by decide)]; exact z3
      · rw [wc _ (by decide) (by decide)]; exact z4
      · rw [xs_eq]; rfl
      · show xp_ent (e2 16 j.toNat) p = if p < n then (if j = Xi.2.2.1 % 30 then cvF (hfF h Xi.2.2.1) (dyB F (d 7) h s n Xi).2 p else Xi.2.2.2 j p) else 11
        have c3'' : j < Xi.2.2.1 + 1 := c3'
        by_cases w : j = Xi.2.2.1 % 30
        · rw [if_pos w, w]
          exact z10 p a3 c4'
        · rw [if_neg w, z9 j.toNat (by omega)]
          have : va_up ec 16 (vp_updL (ec 16) (Xi.2.2.1 % 30).toNat (pgF n 9 0)) 16 j.toNat = ec 16 j.toNat := by simp [va_up, vp_updL]; omega
          rw [this]
          exact c6 j p a2 c2' (by omega) a3 c4'
      · rw [xs_np (by decide), xs_ni (by decide), z6, g 118 (fun _ => rfl), c7, cI_not (f := fun j => decide ((dyB F (d 7) h s n Xi).2 j = -1)) (n := dyK h n Xi) (cI_r _ hn.1).1]
        show Zi.1 + (dyK h n Xi - cI (fun j => decide ((dyB F (d 7) h s n Xi).2 j = -1)) (dyK h n Xi)) = Zi.1 + (dyK h n Xi - (dyB F (d 7) h s n Xi).1 / 1000)
        rw [show (dyB F (d 7) h s n Xi).1 / 1000 = _ from gok.2.1]
        rfl
      · rw [xs_np (by decide), xs_eq, z2 3 (by decide) (by decide), g 118 (fun _ => rfl), c8]; rfl
      · rw [xs_np (by decide), xs_ni (by decide), z5, g 118 (fun _ => rfl), c9]; rfl
      · rw [wc 126 (by decide) (by decide), z7 g2 a2 (by omega), g 126 (fun _ => rfl), c10 g2 a2 c2']; rfl
  · intro dc ec fc fe cl
    exact yk_86_11_2 (by omega) ⟨by omega, by omega, fun _ => hP dc ec fc fe cl, fun z => by omega⟩
theorem sq_86_17 {F : (Int → Int) → Int} {h s : Int → Int} {b n m : Int} {X : dT} {Z : dZT} {P : xh_D → xd_E → Prop} (hD : 16 ≤ D) (hX : rX F (d 111 6) (d 112)) (hn6 : d 6 4 = n) (ht : ∀ i, 0 ≤ i → i < 81 → 0 ≤ d 7 i ∧ d 7 i ≤ 9) (ok : okD b n h s X) (hm : 0 ≤ m ∧ m ≤ 1000) (hb : b < 1800000000) (cl : clD 17 n h s X Z d e) (hP : ∀ d' e', Fk (sD 17) d d' → (∀ q, ¬ q = 22 → e' q = e q) → clD 17 n h s (fI (dF F (d 7) h s n) (X, Z) m).1 (fI (dF F (d 7) h s n) (X, Z) m).2 d' e' → P d' e') : yV D 86 L [.ref 118, .ref 6, .ref 111, .ref 17, .int (xJ m)] d e P := by
  have hn := ok.1
  refine yV_of rfl rfl rfl (by omega) (yk_86_17_0 ?_)
  refine lp_up (n := m) (X := fun i => ∀ dc ec, Fk (sD 17) d dc → (∀ q, ¬ q = 22 → ec q = e q) → clD 17 n h s (fI (dF F (d 7) h s n) (X, Z) i).1 (fI (dF F (d 7) h s n) (X, Z) i).2 dc ec → yB (D - 1) xm_c86 (yQv L P) L 2 [.ref 118, .ref 6, .ref 111, .ref 17, .int (xJ m), .int (xJ i)] [] dc ec) hm.1 ?_ ?_ d e Fk_refl (fun _ _ => rfl) cl
  · intro i a c ih dc ec fc fe cl
    have oki := okD_i (F := F) (tr := d 7) (Z := Z) ok a
    rw [fI_s _ _ a] at ih
    generalize hx : fI (dF F (d 7) h s n) (X, Z) i = x at ih cl oki
    obtain ⟨Xi, Zi⟩ := x
    obtain ⟨c1, c2, c3, c4, c5, c6, c7, c8, c9, c10⟩ := id cl
    simp only [] at c1 c2 c3 c4 c5 c6 c7 c8 c9 c10 oki
    have c7' : dc 7 = d 7 := Fk_p fc (p := 7) (fun _ => rfl)
    have wr := oki.2.2.2.2
    have okx : okX n 18 19 20 dc := ⟨by rw [Fk_p fc (p := 6) (fun _ => rfl)]; exact hn6, hn, fun p a2 c2' => by rw [c1, c2, c3]; exact oki.2.1 p a2 c2', by rw [c7']; exact ht⟩
    refine yk_86_17_2 (by omega) ⟨by omega, by omega, fun z => by omega, fun _ => ?_⟩
    rw [c5]
    refine sg_8_17 (F := F) (n := n) (by omega) (by rw [fc 111 6 rfl, Fk_p fc (p := 112) (fun _ => rfl)]; exact hX) okx (by omega) (fun d1 f1 y6 y7 y8 y120 y121 _ => ?_)
    rw [c1, c2, c3, c7'] at y8 y121
    rw [c1] at y6 y120
    have g : ∀ p, (∀ i, sF p i = false) → d1 p = dc p := fun p hp => Fk_p f1 hp
    have gok := gB_ok (F := F) (tr := d 7) (h := h) (s := s) (t := Xi.1) (day := Xi.2.2.1) hn
    have n1 : d1 6 4 = n := by rw [g 6 (fun _ => rfl), Fk_p fc (p := 6) (fun _ => rfl)]; exact hn6
    rw [n1]
    refine sq_59_17 (by omega) hn (by rw [g 17 (fun _ => rfl), c5]; omega) ?_
    rw [g 17 (fun _ => rfl), c5]
    refine sq_87_17 (n := n) (w := Xi.2.2.1) (k := dyK h n Xi) (hf := hfF h Xi.2.2.1) (hp := hpC (hfF h Xi.2.2.1) n) (bs := (dyB F (d 7) h s n Xi).2) (by omega) hn rfl (hpC_ok hn.1) y6 y120 y121 gok.2.2 ⟨by rw [g 17 (fun _ => rfl), c5], by omega, by omega⟩ (by rw [g 20 (fun _ => rfl), c3]; exact fun p a c => (oki.2.1 p a c).2.2) (by rw [g 21 (fun _ => rfl), c4]; exact oki.2.2.1) (by rw [g 21 (fun _ => rfl), c4]; exact oki.2.2.2.1) (fun p a2 c2' => ?_) (fun d2 e2 z1 z2 z3 z4 z5 z6 z7 z8 z9 z10 => ?_)
    · have : va_up ec 22 (vp_updL (ec 22) (Xi.2.2.1 % 30).toNat (pgF n 9 0)) 22 (Xi.2.2.1 % 30).toNat = pgF n 9 0 := by simp [va_up, vp_updL]
      rw [this]
      exact pgF_ent hn ⟨a2, c2'⟩
    · have w8 : d2 119 8 = (dyB F (d 7) h s n Xi).1 := by rw [z1 119 (by decide) (by decide) (by decide) (by decide), y8]; rfl
      have gk : 0 ≤ (dyB F (d 7) h s n Xi).1 ∧ (dyB F (d 7) h s n Xi).1 ≤ 9900 := gok.1
      rw [w8]
      refine ⟨by omega, ?_⟩
      have d5 : d2 17 5 = Xi.2.2.1 := by rw [z1 17 (by decide) (by decide) (by decide) (by decide), g 17 (fun _ => rfl), c5]
      rw [d5]
      have y3 : d1 20 = Xi.1 := by rw [g 20 (fun _ => rfl), c3]
      have y4 : d1 21 = Xi.2.1 := by rw [g 21 (fun _ => rfl), c4]
      rw [y3, y4] at z3 z4 z5
      have wc : ∀ p, ¬ p = 118 → ¬ p = 17 → xs (xs d2 118 3 (d2 118 3 + (dyB F (d 7) h s n Xi).1 % 1000)) 17 5 (Xi.2.2.1 + 1) p = d2 p := fun p h1 h2 => by rw [xs_fn, if_neg h2, xs_fn, if_neg h1]
      refine ih _ _ (Fk_xs (Fk_xs (Fk_trans fc (fun p i q => ?_)) rfl) rfl) (fun q hq => by rw [z8 q hq]; simp [va_up, hq]; exact fe q hq) ⟨?_, ?_, ?_, ?_, ?_, fun j p a2 c2' c3' a3 c4' => ?_, ?_, ?_, ?_, fun g2 a2 c2' => ?_⟩
      · have q1 : sF p i = false := by
          unfold sD at q
          cases w : sF p i
          · rfl
          · rw [w] at q; simp at q
        have q2 : ¬ p = 118 ∧ ¬ p = 126 ∧ ¬ p = 20 ∧ ¬ p = 21 := by
          unfold sD at q
          simp at q
          omega
        rw [z1 p q2.2.2.1 q2.2.2.2 q2.1 q2.2.1]
        exact f1 p i q1
      · rw [wc _ (by decide) (by decide), z1 18 (by decide) (by decide) (by decide) (by decide), g 18 (fun _ => rfl), c1]
      · rw [wc _ (by decide) (by decide), z1 19 (by decide) (by decide) (by decide) (by decide), g 19 (fun _ => rfl), c2]
      · rw [wc _ (by decide) (by decide)]; exact z3
      · rw [wc _ (by decide) (by decide)]; exact z4
      · rw [xs_eq]; rfl
      · show xp_ent (e2 22 j.toNat) p = if p < n then (if j = Xi.2.2.1 % 30 then cvF (hfF h Xi.2.2.1) (dyB F (d 7) h s n Xi).2 p else Xi.2.2.2 j p) else 11
        have c3'' : j < Xi.2.2.1 + 1 := c3'
        by_cases w : j = Xi.2.2.1 % 30
        · rw [if_pos w, w]
          exact z10 p a3 c4'
        · rw [if_neg w, z9 j.toNat (by omega)]
          have : va_up ec 22 (vp_updL (ec 22) (Xi.2.2.1 % 30).toNat (pgF n 9 0)) 22 j.toNat = ec 22 j.toNat := by simp [va_up, vp_updL]; omega
          rw [this]
          exact c6 j p a2 c2' (by omega) a3 c4'
      · rw [xs_np (by decide), xs_ni (by decide), z6, g 118 (fun _ => rfl), c7, cI_not (f := fun j => decide ((dyB F (d 7) h s n Xi).2 j = -1)) (n := dyK h n Xi) (cI_r _ hn.1).1]
        show Zi.1 + (dyK h n Xi - cI (fun j => decide ((dyB F (d 7) h s n Xi).2 j = -1)) (dyK h n Xi)) = Zi.1 + (dyK h n Xi - (dyB F (d 7) h s n Xi).1 / 1000)
        rw [show (dyB F (d 7) h s n Xi).1 / 1000 = _ from gok.2.1]
        rfl
      · rw [xs_np (by decide), xs_eq, z2 3 (by decide) (by decide), g 118 (fun _ => rfl), c8]; rfl
      · rw [xs_np (by decide), xs_ni (by decide), z5, g 118 (fun _ => rfl), c9]; rfl
      · rw [wc 126 (by decide) (by decide), z7 g2 a2 (by omega), g 126 (fun _ => rfl), c10 g2 a2 c2']; rfl
  · intro dc ec fc fe cl
    exact yk_86_17_2 (by omega) ⟨by omega, by omega, fun _ => hP dc ec fc fe cl, fun z => by omega⟩
end DYS
