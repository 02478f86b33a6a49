/-! CALLS: learns. -/
section LRN
variable {b : Int} {L D : Nat} {d : xh_D} {e : xd_E}
theorem fst_b (B : Int → Prop) (k : Nat) : ∃ m r : Int, (0 ≤ m ∧ m ≤ k) ∧ (∀ i, 0 ≤ i → i < m → ¬ B i) ∧ ((B m ∧ r = m) ∨ (¬ B m ∧ m = k ∧ r = -2)) := by
  induction k with
  | zero =>
    by_cases w : B 0
    · exact ⟨0, 0, by omega, fun i a c => by omega, Or.inl ⟨w, rfl⟩⟩
    · exact ⟨0, -2, by omega, fun i a c => by omega, Or.inr ⟨w, rfl, rfl⟩⟩
  | succ k ih =>
    obtain ⟨m, r, hm, hB, h⟩ := ih
    rcases h with ⟨h1, h2⟩ | ⟨h1, h2, h3⟩
    · exact ⟨m, r, by omega, hB, Or.inl ⟨h1, h2⟩⟩
    · have hB2 : ∀ i, 0 ≤ i → i < m + 1 → ¬ B i := fun i a c => by
        by_cases z : i = m
        · rw [z]; exact h1
        · exact hB i a (by omega)
      by_cases w : B (m + 1)
      · exact ⟨m + 1, m + 1, by omega, hB2, Or.inl ⟨w, rfl⟩⟩
      · exact ⟨m + 1, -2, by omega, hB2, Or.inr ⟨w, by omega, rfl⟩⟩
def lnB (V : Int → dT) (p k : Int) (i : Int) : Prop := ¬ xi_and (xi_shr ((V i).1 p) k) 1 = 0
def lnR (V : Int → dT) (p k m r : Int) : Prop := (0 ≤ m ∧ m ≤ 40) ∧ (∀ i, 0 ≤ i → i < m → ¬ lnB V p k i) ∧ ((lnB V p k m ∧ r = m) ∨ (¬ lnB V p k m ∧ m = 40 ∧ r = -2))
theorem lnR_g {V : Int → dT} {p k m r i : Int} (g : lnR V p k m r) (hi : 0 ≤ i ∧ i ≤ m) : (lnB V p k i ∧ i = m ∧ r = m) ∨ (¬ lnB V p k i ∧ i = m ∧ m = 40 ∧ r = -2) ∨ (¬ lnB V p k i ∧ i < m) := by
  by_cases z : i = m
  · rw [z]
    rcases g.2.2 with h | h
    · exact Or.inl ⟨h.1, rfl, h.2⟩
    · exact Or.inr (Or.inl ⟨h.1, rfl, h.2.1, h.2.2⟩)
  · exact Or.inr (Or.inr ⟨g.2.1 i hi.1 (by omega), by omega⟩)
theorem sq_238 {F : (Int → Int) → Int} {tr h s : Int → Int} {n a1 a2 m r : Int} {V : Int → dT} {P : Int → xh_D → xd_E → Prop} (hD : 120 ≤ D) (hM : rM F (d 146 16) (d 153)) (hn1 : d 146 1 = n) (ht : ∀ p g, 0 ≤ p → p < n → 0 ≤ g → g < n → d 148 (p * 9 + g) = tr (p * 9 + g) ∧ 0 ≤ tr (p * 9 + g) ∧ tr (p * 9 + g) ≤ 9) (h156 : ∀ g, 0 ≤ g → g < n → d 156 g = 0) (Vs : ∀ i, 0 ≤ i → V (i + 1) = dN F tr h s n (V i)) (Vo : ∀ i, 0 ≤ i → okD (b + i) n h s (V i)) (hb : b < 1000000000) (c1 : 0 ≤ a1 ∧ a1 < n) (c2 : 0 ≤ a2 ∧ a2 ≤ 5) (hr : lnR V a1 a2 m r) (md : ∀ dm : xh_D, (∀ i, 0 ≤ i → i < 353 → dm 162 i = d 147 i) → mdD 162 n h s (V 0) dm) (hP : ∀ dc, Fk sm d dc → P r (xs (xs (xs dc 146 7 0) 151 0 ((V m).2.1 (a1 * 6 + a2))) 146 7 (0 + 1)) e) : yC D 238 L [.ref 146, .int (xJ a1), .int (xJ a2)] d e P := by
  have hn := (Vo 0 (by omega)).1
  have hm := hr.1
  have bit : ∀ i, 0 ≤ i → (xi_and (xi_shr ((V i).1 a1) a2) 1 = 1 ↔ lnB V a1 a2 i) := fun i a => by
    have o := ((Vo i a).2.1 a1 c1.1 c1.2).2.2
    have := (bk_x (s := (V i).1 a1) (p := a2) (by omega) (by omega)).1
    unfold lnB
    omega
  have fin : ∀ dc, Fk sm d dc → mdD 162 n h s (V m) dc → yB (D - 1) xm_c238 (yQi L P) L 57 [.ref 146, .int (xJ a1), .int (xJ a2), .int (xJ r), .double 0] [] dc e := by
    intro dc fc mdc
    refine yk_238_57 (by omega) ?_
    rw [mdc.2.1 a1 a2 c1.1 c1.2 c2.1 (by omega)]
    exact ⟨by omega, hP dc fc⟩
  have lp : ∀ dc, Fk sm d dc → mdD 162 n h s (V 0) dc → ((lnB V a1 a2 0 → yB (D - 1) xm_c238 (yQi L P) L 35 [.ref 146, .int (xJ a1), .int (xJ a2), .int (xJ 0), .int (xJ 1)] [] dc e) ∧ (¬ lnB V a1 a2 0 → yB (D - 1) xm_c238 (yQi L P) L 35 [.ref 146, .int (xJ a1), .int (xJ a2), .int (xJ (-2)), .int (xJ 1)] [] dc e)) := by
    refine lp_up (n := m) (X := fun i => ∀ dc, Fk sm d dc → mdD 162 n h s (V i) dc → ((lnB V a1 a2 i → yB (D - 1) xm_c238 (yQi L P) L 35 [.ref 146, .int (xJ a1), .int (xJ a2), .int (xJ i), .int (xJ (i + 1))] [] dc e) ∧ (¬ lnB V a1 a2 i → yB (D - 1) xm_c238 (yQi L P) L 35 [.ref 146, .int (xJ a1), .int (xJ a2), .int (xJ (-2)), .int (xJ (i + 1))] [] dc e))) hm.1 ?_ ?_
    · intro i a c ih dc fc mdc
      have g := lnR_g hr (i := i) (by omega)
      have nb : ¬ lnB V a1 a2 i := by rcases g with g | g | g <;> first | omega | exact g.1
      refine ⟨fun z => absurd z nb, fun _ => ?_⟩
      have ok := Vo i a
      refine yk_238_35 (by omega) ⟨by omega, fun z => by omega, fun _ => ⟨by omega, fun z => by omega, fun _ => ?_⟩⟩
      refine sq_223_162 (F := F) (tr := tr) (n := n) (b := b + i) (by omega) (by rw [fc 146 16 rfl, Fk_p fc (p := 153) (fun _ => rfl)]; exact hM) (by rw [fc 146 1 rfl]; exact hn1) (by rw [Fk_p fc (p := 148) (fun _ => rfl)]; exact ht) (by rw [Fk_p fc (p := 156) (fun _ => rfl)]; exact h156) ok (by omega) mdc (fun d3 f3 q3 md3 _ _ _ _ => ?_)
      rw [← Vs i a] at md3
      rw [(md3.1 a1 c1.1 c1.2).2.2]
      have ih2 := ih d3 (Fk_trans fc (sm2_sm f3)) md3
      refine ⟨by omega, fun z => ih2.1 ((bit (i + 1) (by omega)).mp z), fun z => ih2.2 (fun y => z ((bit (i + 1) (by omega)).mpr y))⟩
    · intro dc fc mdc
      have f := fin dc fc mdc
      rcases lnR_g hr (i := m) (by omega) with g | g | g
      · refine ⟨fun _ => ?_, fun z => absurd g.1 z⟩
        rw [g.2.2] at f
        exact yk_238_35 (by omega) ⟨by omega, fun _ => f, fun _ => ⟨by omega, fun _ => f, fun z => by omega⟩⟩
      · refine ⟨fun z => absurd z g.1, fun _ => ?_⟩
        rw [g.2.2.2] at f
        exact yk_238_35 (by omega) ⟨by omega, fun _ => f, fun z => by omega⟩
      · omega
  refine yC_of rfl rfl rfl (by omega) (yk_238_0 (by omega) ?_)
  rw [hn1]
  refine ⟨by omega, by omega, fun _ => ⟨by omega, fun _ => ?_, fun c => absurd c2 c⟩, fun c => absurd c1 c⟩
  refine sc_225_147_162 (by omega) (by decide) ?_
  have f0 : Fk sm d (xwo (xs d 146 8 0) 162 0 353 (xs d 146 8 0 147)) := fun p i q => by
    rw [xwo_np (fun z => by subst z; exact absurd (show true = false from q) (by decide)), xs_app, if_neg (fun z => by rw [z.1, z.2] at q; exact absurd (show true = false from q) (by decide))]
  have m0 : ∀ i, 0 ≤ i → i < 353 → xwo (xs d 146 8 0) 162 0 353 (xs d 146 8 0 147) 162 i = d 147 i := fun i a c => by
    rw [xwo_at ⟨a, by omega⟩, xs_np (by decide), Int.sub_zero]
  generalize xwo (xs d 146 8 0) 162 0 353 (xs d 146 8 0 147) = d1 at f0 m0
  have md1 := md d1 m0
  have l := lp d1 f0 md1
  rw [(md1.1 a1 c1.1 c1.2).2.2]
  exact ⟨by omega, fun z => l.1 ((bit 0 (by omega)).mp z), fun z => l.2 (fun y => z ((bit 0 (by omega)).mpr y))⟩
theorem op_learns {a1 a2 : Int} (r1 : yR a1) (r2 : yR a2) (hb : b < 1000000000) (hI : Inv iR b d e) : Op iR b b L 131 238 [.int (xJ a1), .int (xJ a2)] d e := by
  have hI0 := hI
  obtain ⟨hP, hT, hW, hL, hS, hU, hK, hR, hQ, hV, hH, hG⟩ := hI
  have p1 := hP.1
  have p2 := hP.2.1
  obtain ⟨F, hX, hM⟩ := id hR
  have f0 : ¬ ((0 ≤ a1 ∧ a1 < d 6 4) ∧ (0 ≤ a2 ∧ a2 ≤ 5)) → yC 150 238 L [.ref 146, .int (xJ a1), .int (xJ a2)] d e (fun r2 d2 e2 => -1 = r2 ∧ Inv iR b d2 e2) := fun c => by
    refine yC_of rfl rfl rfl (by omega) (yk_238_0 (by omega) ?_)
    rw [p2]
    exact ⟨r1, p1, fun h1 => ⟨r2, fun h2 => absurd ⟨h1, h2⟩ c, fun h2 => ⟨rfl, hP, hT, hW, hL, hS, (iU_c hU (by repeat' (first | exact Fz_refl | refine Fz_xs ?_ (by decide))) rfl rfl rfl rfl rfl), (iK_c hK (by repeat' (first | exact Fz_refl | refine Fz_xs ?_ (by decide))) rfl rfl rfl rfl), hR, hQ, hV, hH, hG⟩⟩, fun h1 => ⟨rfl, hP, hT, hW, hL, hS, (iU_c hU (by repeat' (first | exact Fz_refl | refine Fz_xs ?_ (by decide))) rfl rfl rfl rfl rfl), (iK_c hK (by repeat' (first | exact Fz_refl | refine Fz_xs ?_ (by decide))) rfl rfl rfl rfl), hR, hQ, hV, hH, hG⟩⟩
  refine yC_of rfl rfl rfl (by omega) (yk_131_0 (by omega) ⟨r1, by omega, fun c1 => ⟨r2, fun c2 => ?_, fun c => f0 (fun z => c z.2)⟩, fun c => f0 (fun z => c z.1)⟩)
  refine sc_50 rfl rfl (by decide) (by omega) (fun d1 e1 x => ?_)
  obtain ⟨X, ok, cl, md⟩ := cp_cl hP hS x
  obtain ⟨Z, hZ⟩ : ∃ Z : dZT, Z = (d1 118 2, d1 118 3, d1 118 4, d1 126) := ⟨_, rfl⟩
  have cl1 := cl d1 Z (fun _ _ _ => rfl) (by rw [hZ]; exact ⟨rfl, rfl, rfl, fun _ _ _ => rfl⟩)
  have f1 : Fk sx d d1 := cp_fk x
  generalize d1 18 = h at ok cl1 md
  generalize d1 19 = s at ok cl1 md
  obtain ⟨W, hW⟩ : ∃ W : Int → dT × dZT, W = fun i => fI (dF F (d 7) h s (d 6 4)) (X, Z) i := ⟨_, rfl⟩
  have W0 : W 0 = (X, Z) := by rw [hW]; rfl
  have Ws : ∀ i, 0 ≤ i → W (i + 1) = dF F (d 7) h s (d 6 4) i (W i) := fun i a => by rw [hW]; exact fI_s _ _ a
  have Wo : ∀ i, 0 ≤ i → okD (b + i) (d 6 4) h s (W i).1 := fun i a => by rw [hW]; exact okD_i ok a
  obtain ⟨m, r, hr⟩ := fst_b (lnB (fun i => (W i).1) a1 a2) 40
  have hr : lnR (fun i => (W i).1) a1 a2 m r := hr
  have hm := hr.1
  have ch : ∀ dc ec, Fk sx d dc → (∀ q, ¬ q = 22 → ec q = e q) → clD 17 (d 6 4) h s (W m).1 (W m).2 dc ec → yB (150 - 1) xm_c131 (yQi L (fun r1 d1 e1 => yC 150 238 L [.ref 146, .int (xJ a1), .int (xJ a2)] d1 e1 (fun r2 d2 e2 => r1 = r2 ∧ Inv iR b d2 e2))) L 53 [.ref 1, .int (xJ a1), .int (xJ a2), .int (xJ r), .double 0] [] dc ec := by
    intro dc ec fc hec clc
    refine yk_131_53 (by omega) ?_
    rw [show dc 21 = (W m).1.2.1 from clc.2.2.2.1]
    refine ⟨by omega, ?_⟩
    generalize hd4 : xs (xs (xs dc 4 1 0) 5 0 ((W m).1.2.1 (a1 * 6 + a2))) 4 1 1 = d4
    have f4 : Fk (fun p i => sx p i || p == 4 || p == 5) d d4 := by
      rw [← hd4]
      refine Fk_xs (Fk_xs (Fk_xs (Fk_mono fc (fun p i q => ?_)) rfl) rfl) rfl
      cases w : sx p i
      · rfl
      · rw [w] at q; simp at q
    have y4 : ∀ p, (∀ i, (fun p i => sx p i || p == 4 || p == 5) p i = false) → d4 p = d p := fun p hp => Fk_p f4 hp
    refine sq_238 (b := b) (F := F) (tr := d 7) (h := h) (s := s) (n := d 6 4) (V := fun i => (W i).1) (m := m) (r := r) (by omega) (by rw [y4 146 (fun _ => rfl), y4 153 (fun _ => rfl)]; exact hM) (by rw [y4 146 (fun _ => rfl)]; exact p2) (by rw [y4 148 (fun _ => rfl)]; exact (okM_i hP hL hS).2.2.2) (by rw [y4 156 (fun _ => rfl)]; exact fun g a c => hG.2 g a (by omega)) (fun i a => by rw [Ws i a]; rfl) Wo hb c1 c2 hr (by rw [y4 147 (fun _ => rfl), W0]; exact md) (fun d5 f5 => ⟨rfl, ?_⟩)
    refine Inv_fk hI0 ?_ (fun p h1 _ => hec p h1) (iW1 ?_ ?_ ?_)
    · refine Fk_xs (Fk_xs (Fk_xs (Fk_trans (Fk_mono f4 (fun p i q => ?_)) (Fk_m f5)) rfl) rfl) rfl
      cases w : sx p i
      · have : ¬ p = 4 ∧ ¬ p = 5 := ⟨fun z => by subst z; exact absurd (show true = false from q) (by decide), fun z => by subst z; exact absurd (show true = false from q) (by decide)⟩
        simp [this.1, this.2]
      · unfold sr at q; rw [w] at q; simp at q
    · rw [xs_np (by decide), xs_np (by decide), xs_np (by decide), f5 4 1 rfl, ← hd4, xs_eq]
    · rw [xs_eq]; rfl
    · rw [xs_np (p := 151) (by decide), xs_eq, xs_np (by decide), xs_np (by decide), xs_np (by decide), f5 5 0 rfl, ← hd4, xs_np (by decide), xs_eq]
  have lp : ∀ dc ec, Fk sx d dc → (∀ q, ¬ q = 22 → ec q = e q) → clD 17 (d 6 4) h s (W 0).1 (W 0).2 dc ec → ((lnB (fun i => (W i).1) a1 a2 0 → yB (150 - 1) xm_c131 (yQi L (fun r1 d1 e1 => yC 150 238 L [.ref 146, .int (xJ a1), .int (xJ a2)] d1 e1 (fun r2 d2 e2 => r1 = r2 ∧ Inv iR b d2 e2))) L 27 [.ref 1, .int (xJ a1), .int (xJ a2), .int (xJ 0), .int (xJ 1)] [] dc ec) ∧ (¬ lnB (fun i => (W i).1) a1 a2 0 → yB (150 - 1) xm_c131 (yQi L (fun r1 d1 e1 => yC 150 238 L [.ref 146, .int (xJ a1), .int (xJ a2)] d1 e1 (fun r2 d2 e2 => r1 = r2 ∧ Inv iR b d2 e2))) L 27 [.ref 1, .int (xJ a1), .int (xJ a2), .int (xJ (-2)), .int (xJ 1)] [] dc ec)) := by
    refine lp_up (n := m) (X := fun i => ∀ dc ec, Fk sx d dc → (∀ q, ¬ q = 22 → ec q = e q) → clD 17 (d 6 4) h s (W i).1 (W i).2 dc ec → ((lnB (fun i => (W i).1) a1 a2 i → yB (150 - 1) xm_c131 (yQi L (fun r1 d1 e1 => yC 150 238 L [.ref 146, .int (xJ a1), .int (xJ a2)] d1 e1 (fun r2 d2 e2 => r1 = r2 ∧ Inv iR b d2 e2))) L 27 [.ref 1, .int (xJ a1), .int (xJ a2), .int (xJ i), .int (xJ (i + 1))] [] dc ec) ∧ (¬ lnB (fun i => (W i).1) a1 a2 i → yB (150 - 1) xm_c131 (yQi L (fun r1 d1 e1 => yC 150 238 L [.ref 146, .int (xJ a1), .int (xJ a2)] d1 e1 (fun r2 d2 e2 => r1 = r2 ∧ Inv iR b d2 e2))) L 27 [.ref 1, .int (xJ a1), .int (xJ a2), .int (xJ (-2)), .int (xJ (i + 1))] [] dc ec))) hm.1 ?_ ?_
    · intro i a c ih dc ec fc hec clc
      have g := lnR_g hr (i := i) (by omega)
      have nb : ¬ lnB (fun i => (W i).1) a1 a2 i := by rcases g with g | g | g <;> first | omega | exact g.1
      refine ⟨fun z => absurd z nb, fun _ => ?_⟩
      refine yk_131_27 (by omega) ⟨by omega, fun z => by omega, fun _ => ⟨by omega, fun z => by omega, fun _ => ?_⟩⟩
      refine sq_86_17 (F := F) (n := d 6 4) (b := b + i) (X := (W i).1) (Z := (W i).2) (by omega) (by rw [fc 111 6 rfl, Fk_p fc (p := 112) (fun _ => rfl)]; exact hX) (by rw [Fk_p fc (p := 6) (fun _ => rfl)]) (by rw [Fk_p fc (p := 7) (fun _ => rfl)]; exact iL_t hL) (Wo i a) (by omega) (by omega) clc (fun d3 e3 f3 ef3 cl3 => ?_)
      rw [Fk_p fc (p := 7) (fun _ => rfl)] at cl3
      have cl4 : clD 17 (d 6 4) h s (W (i + 1)).1 (W (i + 1)).2 d3 e3 := by rw [Ws i a]; exact cl3
      have ih2 := ih d3 e3 (Fk_trans fc (sD_sx f3)) (fun q hq => by rw [ef3 q hq, hec q hq]) cl4
      rw [show d3 20 = (W (i + 1)).1.1 from cl4.2.2.1]
      exact ⟨by omega, fun z => ih2.1 z, fun z => ih2.2 z⟩
    · intro dc ec fc hec clc
      have f := ch dc ec fc hec clc
      rcases lnR_g hr (i := m) (by omega) with g | g | g
      · refine ⟨fun _ => ?_, fun z => absurd g.1 z⟩
        rw [g.2.2] at f
        exact yk_131_27 (by omega) ⟨by omega, fun _ => f, fun _ => ⟨by omega, fun _ => f, fun z => by omega⟩⟩
      · refine ⟨fun z => absurd z g.1, fun _ => ?_⟩
        rw [g.2.2.2] at f
        exact yk_131_27 (by omega) ⟨by omega, fun _ => f, fun z => by omega⟩
      · omega
  have l := lp d1 e1 f1 x.2.1 (by rw [W0]; exact cl1)
  rw [show d1 20 = (W 0).1.1 by rw [W0]; exact cl1.2.2.1]
  exact ⟨by omega, fun z => l.1 z, fun z => l.2 z⟩
end LRN
