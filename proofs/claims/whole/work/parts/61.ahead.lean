/-! CALLS: ahead. -/
section AHD
variable {b : Int} {L D : Nat} {d : xh_D} {e : xd_E}
theorem cv_cnt {hf : Int → Bool} {ch : Int → Int} {g n : Int} (hg : 0 ≤ g ∧ g < 9) (hn : 0 ≤ n) : cI (fun p => decide (cvF hf ch p = g)) n = cI (fun j => decide (ch j = g)) (cI hf n) := by
  have key : ∀ k : Nat, cI (fun p => decide (cvF hf ch p = g)) k = cI (fun j => decide (ch j = g)) (cI hf k) := by
    intro k
    induction k with
    | zero => rfl
    | succ k ih =>
      rw [show ((k + 1 : Nat) : Int) = (k : Int) + 1 from rfl, cI_s _ (by omega), ih]
      cases w : hf k
      · rw [cI_f (by omega) w, Int.add_zero]
        have : ¬ cvF hf ch k = g := by simp [cvF, w]; omega
        simp [this]
      · rw [cI_t (by omega) w, cI_s _ (cI_r hf (by omega)).1]
        have : (cvF hf ch k = g) ↔ (ch (cI hf k) = g) := by
          simp only [cvF, w, if_pos]
          by_cases z : ch (cI hf k) = -1
          · rw [if_pos z, z]; omega
          · rw [if_neg z]
        simp only [this]
  have := key n.toNat
  rwa [show ((n.toNat : Nat) : Int) = n by omega] at this
/-- the class's sketch -/
theorem cp_cl {d1 : xh_D} {e1 : xd_E} (hP : iP d) (hS : iS b d e) (x : CpR d e 17 11 d1 e1) : ∃ X : dT, okD b (d 6 4) (d1 18) (d1 19) X ∧ (∀ (d2 : xh_D) (Z : dZT), (∀ q, ¬ q = 118 → ¬ q = 126 → d2 q = d1 q) → (d2 118 2 = Z.1 ∧ d2 118 3 = Z.2.1 ∧ d2 118 4 = Z.2.2.1 ∧ ∀ g, 0 ≤ g → g < d 6 4 → d2 126 g = Z.2.2.2 g) → clD 17 (d 6 4) (d1 18) (d1 19) X Z d2 e1) ∧ (∀ dm : xh_D, (∀ i, 0 ≤ i → i < 353 → dm 162 i = d 147 i) → mdD 162 (d 6 4) (d1 18) (d1 19) X dm) := by
  have o := x.2.2.2 b (d 6 4) (d 147) hP.1 (show iSs b (d 6 4) d e 11 (d 147) from hS)
  unfold iSs at o
  refine ⟨(d1 20, d1 21, d1 17 5, fun j p => d 147 (83 + 9 * j + p)), iSt_ok hP.1 o, fun d2 Z h2 hz => ⟨h2 18 (by decide) (by decide), h2 19 (by decide) (by decide), h2 20 (by decide) (by decide), h2 21 (by decide) (by decide), by rw [h2 17 (by decide) (by decide)], iSt_bk o, hz.1, hz.2.1, hz.2.2.1, hz.2.2.2⟩, fun dm hm => iSt_md o hm hP.1.2⟩
theorem cp_fk {d1 : xh_D} {e1 : xd_E} (x : CpR d e 17 11 d1 e1) : Fk sx d d1 := fun p i q => by
  have : p < 17 ∨ 17 + 4 < p := by
    by_cases c : 17 ≤ p ∧ p ≤ 21
    · have : p = 17 ∨ p = 18 ∨ p = 19 ∨ p = 20 ∨ p = 21 := by omega
      rcases this with rfl | rfl | rfl | rfl | rfl <;> exact absurd (show true = false from q) (by decide)
    · omega
  rw [x.1 p this]
theorem cp_f2 {d2 : xh_D} (z1 : ∀ q, ¬ q = 118 → ¬ q = 126 → d2 q = d q) : Fk sx d d2 := fun p i q => by
  have : ¬ p = 118 ∧ ¬ p = 126 := ⟨fun z => by subst z; exact absurd (show true = false from q) (by decide), fun z => by subst z; exact absurd (show true = false from q) (by decide)⟩
  rw [z1 p this.1 this.2]
theorem sq_237 {F : (Int → Int) → Int} {tr h s : Int → Int} {n a1 : Int} {X : dT} {P : Int → xh_D → xd_E → Prop} (hD : 120 ≤ D) (hM : rM F (d 146 16) (d 153)) (hn1 : d 146 1 = n) (ht : ∀ p g, 0 ≤ p → p < n → 0 ≤ g → g < n → d 148 (p * 9 + g) = tr (p * 9 + g) ∧ 0 ≤ tr (p * 9 + g) ∧ tr (p * 9 + g) ≤ 9) (h156 : ∀ g, 0 ≤ g → g < n → d 156 g = 0) (ok : okD b n h s X) (hb : b < 1000000000) (c0 : 0 ≤ a1 ∧ a1 ≤ 40) (md : ∀ dm : xh_D, (∀ i, 0 ≤ i → i < 353 → dm 162 i = d 147 i) → mdD 162 n h s X dm) (hP : ∀ dc, Fk sm d dc → (∀ g, 0 ≤ g → g < 9 → dc 161 g = (fI (dF F tr h s n) (X, ((0, 0, 0, fun _ => 0) : dZT)) a1).2.2.2.2 g) → P (fI (dF F tr h s n) (X, ((0, 0, 0, fun _ => 0) : dZT)) a1).2.1 (xs (xs (xs (xs (xs (xwr dc 151 n (dc 161)) 146 7 n) 151 n (fI (dF F tr h s n) (X, ((0, 0, 0, fun _ => 0) : dZT)) a1).2.2.1) 146 7 (n + 1)) 151 (n + 1) (fI (dF F tr h s n) (X, ((0, 0, 0, fun _ => 0) : dZT)) a1).2.2.2.1) 146 7 (n + 1 + 1)) e) : yC D 237 L [.ref 146, .int (xJ a1)] d e P := by
  have hn := ok.1
  obtain ⟨W, hW⟩ : ∃ W : Int → dT × dZT, W = fun i => fI (dF F tr h s n) (X, ((0, 0, 0, fun _ => 0) : dZT)) i := ⟨_, rfl⟩
  have W0 : W 0 = (X, ((0, 0, 0, fun _ => 0) : dZT)) := by rw [hW]; rfl
  have Ws : ∀ i, 0 ≤ i → W (i + 1) = dF F tr h s n i (W i) := fun i a => by rw [hW]; exact fI_s _ _ a
  have Wo : ∀ i, 0 ≤ i → okD (b + i) n h s (W i).1 := fun i a => by rw [hW]; exact okD_i ok a
  have hP' : ∀ dc, Fk sm d dc → (∀ g, 0 ≤ g → g < 9 → dc 161 g = (W a1).2.2.2.2 g) → P (W a1).2.1 (xs (xs (xs (xs (xs (xwr dc 151 n (dc 161)) 146 7 n) 151 n (W a1).2.2.1) 146 7 (n + 1)) 151 (n + 1) (W a1).2.2.2.1) 146 7 (n + 1 + 1)) e := by rw [hW]; exact hP
  clear hP
  refine yC_of rfl rfl rfl (by omega) (yk_237_0 (by omega) ⟨by omega, fun _ => ?_, fun c => absurd c0 c⟩)
  refine sc_225_147_162 (by omega) (by decide) ?_
  have f0 : Fk sm d (xwo (xs d 146 8 0) 162 0 353 (xs d 146 8 0 147)) := fun p i q => by
    rw [xwo_np (fun z => by subst z; exact absurd (show true = false from q) (by decide)), xs_app, if_neg (fun z => by rw [z.1, z.2] at q; exact absurd (show true = false from q) (by decide))]
  have m0 : ∀ i, 0 ≤ i → i < 353 → xwo (xs d 146 8 0) 162 0 353 (xs d 146 8 0 147) 162 i = d 147 i := fun i a c => by
    rw [xwo_at ⟨a, by omega⟩, xs_np (by decide), Int.sub_zero]
  generalize xwo (xs d 146 8 0) 162 0 353 (xs d 146 8 0 147) = d1 at f0 m0
  have hlp := lp_up (n := 9) (X := fun i => yB (D - 1) xm_c237 (yQi L P) L 18 [.ref 146, .int (xJ a1), .int (xJ i), .double 0, .double 0, .double 0, .double 0] [] (xwr d1 161 i (fun _ => 0)) e) (by omega) ?_ ?_
  · rw [xwr_0] at hlp; exact hlp
  · intro i i1 i2 ih
    refine yk_237_18 ⟨by omega, fun c => by omega, fun _ => ⟨by omega, ?_⟩⟩
    rw [show xs (xwr d1 161 i (fun _ => 0)) 161 i 0 = xwr d1 161 (i + 1) (fun _ => 0) from xwr_s i1]
    exact ih
  refine yk_237_18 ⟨by omega, fun _ => ?_, fun c => by omega⟩
  refine lp_up (n := a1) (X := fun i => ∀ dc, Fk sm d dc → mdD 162 n h s (W i).1 dc → (∀ g, 0 ≤ g → g < 9 → dc 161 g = (W i).2.2.2.2 g) → yB (D - 1) xm_c237 (yQi L P) L 36 [.ref 146, .int (xJ a1), .int (xJ (W i).2.1), .int (xJ (W i).2.2.1), .int (xJ (W i).2.2.2.1), .int (xJ i), .double 0] [] dc e) c0.1 ?_ ?_ (xwr d1 161 9 (fun _ => 0)) ?_ ?_ ?_ |> fun z => by rw [W0] at z; exact z
  · intro i a c ih dc fc mdc zc
    have oki := Wo i a
    refine yk_237_36 ⟨by omega, by omega, fun z => by omega, fun _ => ?_⟩
    refine sq_223_162 (F := F) (tr := tr) (n := n) (b := b + i) (by omega) (by rw [fc 146 16 rfl, Fk_p fc (p := 153) (fun _ => rfl)]; exact hM) (by rw [fc 146 1 rfl]; exact hn1) (by rw [Fk_p fc (p := 148) (fun _ => rfl)]; exact ht) (by rw [Fk_p fc (p := 156) (fun _ => rfl)]; exact h156) oki (by omega) mdc (fun d3 f3 q3 md3 r28 r27 r29 r155 => ?_)
    have Wi := Ws i a
    have e1 : (W (i + 1)).2.1 = (W i).2.1 + d3 146 28 := by rw [Wi, r28]; rfl
    have e2 : (W (i + 1)).2.2.1 = (W i).2.2.1 + d3 146 27 := by rw [Wi, r27]; rfl
    have e3 : (W (i + 1)).2.2.2.1 = (W i).2.2.2.1 + d3 146 29 := by rw [Wi, r29]; rfl
    have e4 : ∀ g, 0 ≤ g → g < 9 → (W (i + 1)).2.2.2.2 g = (W i).2.2.2.2 g + cI (fun p => decide (cvF (hfF h (W i).1.2.2.1) (dyB F tr h s n (W i).1).2 p = g)) n := fun g a c => by
      rw [cv_cnt ⟨a, c⟩ hn.1, Wi]; rfl
    have md3' : mdD 162 n h s (W (i + 1)).1 d3 := by rw [Wi]; exact md3
    rw [← e1, ← e2, ← e3]
    have z3 : ∀ g, 0 ≤ g → g < 9 → d3 161 g = (W i).2.2.2.2 g + cI (fun p => decide (cvF (hfF h (W i).1.2.2.1) (dyB F tr h s n (W i).1).2 p = g)) 0 := fun g a c => by
      rw [q3 161 (by decide) (by decide) (by decide) (by decide) (by decide), zc g a c, cI_0, Int.add_zero]
    have fd3 := Fk_trans fc (sm2_sm f3)
    generalize hcv : cvF (hfF h (W i).1.2.2.1) (dyB F tr h s n (W i).1).2 = cv at r155 e4 z3
    refine lp_up (n := n) (X := fun p => ∀ dc, (∀ q, ¬ q = 161 → dc q = d3 q) → (∀ g, 0 ≤ g → g < 9 → dc 161 g = (W i).2.2.2.2 g + cI (fun p => decide (cv p = g)) p) → yB (D - 1) xm_c237 (yQi L P) L 60 [.ref 146, .int (xJ a1), .int (xJ (W (i + 1)).2.1), .int (xJ (W (i + 1)).2.2.1), .int (xJ (W (i + 1)).2.2.2.1), .int (xJ i), .int (xJ p)] [] dc e) hn.1 ?_ ?_ d3 (fun _ _ => rfl) z3
    · intro p a2 c2 ih2 dc2 q2 z2
      have n1 : dc2 146 1 = n := by rw [q2 146 (by decide), fd3 146 1 rfl]; exact hn1
      have r := r155 p a2 c2
      have rr : cv p = 9 ∨ cv p = 10 ∨ (0 ≤ cv p ∧ cv p < 9) := by
        have gok := (gB_ok (F := F) (tr := tr) (h := h) (s := s) (t := (W i).1.1) (day := (W i).1.2.2.1) hn).2.2
        rw [← hcv]
        unfold cvF
        by_cases w : hfF h (W i).1.2.2.1 p = true
        · rw [if_pos w]
          have k1 := (cI_r (hfF h (W i).1.2.2.1) a2).1
          have k2 := cI_mono (h := hfF h (W i).1.2.2.1) (i := p + 1) (j := n) (by omega) (by omega)
          rw [cI_t a2 w] at k2
          have := gok (cI (hfF h (W i).1.2.2.1) p) k1 (by omega)
          have u : (dyB F tr h s n (W i).1).2 (cI (hfF h (W i).1.2.2.1) p) = (gB F tr h s (W i).1.1 n (W i).1.2.2.1).2 (cI (hfF h (W i).1.2.2.1) p) := rfl
          rw [u]
          split <;> omega
        · rw [if_neg w]; omega
      refine yk_237_60 ?_
      rw [n1, q2 155 (by decide), r]
      refine ⟨by omega, by omega, fun z => by omega, fun _ => ⟨by omega, by omega, fun z => ?_, fun z => ⟨by omega, ?_⟩⟩⟩
      · refine ih2 dc2 q2 (fun g a3 c3 => ?_)
        rw [z2 g a3 c3, cI_f a2 (by simp; omega), Int.add_zero]
      · refine ih2 _ (fun q hq => by rw [xs_fn, if_neg hq, q2 q hq]) (fun g a3 c3 => ?_)
        rw [xs_app]
        by_cases w : g = cv p
        · rw [if_pos ⟨rfl, w⟩, ← w, z2 g a3 c3, cI_t a2 (by simp [w])]; omega
        · rw [if_neg (fun z => w z.2), z2 g a3 c3, cI_f a2 (by simp; omega), Int.add_zero]
    · intro dc2 q2 z2
      have n1 : dc2 146 1 = n := by rw [q2 146 (by decide), fd3 146 1 rfl]; exact hn1
      refine yk_237_60 ?_
      rw [n1]
      refine ⟨by omega, by omega, fun _ => ih dc2 (fun p j q => ?_) ?_ (fun g a3 c3 => by rw [z2 g a3 c3, e4 g a3 c3]), fun z => by omega⟩
      · rw [q2 p (fun z => by subst z; exact absurd (show true = false from q) (by decide))]
        exact fd3 p j q
      · unfold mdD at md3' ⊢
        rw [q2 162 (by decide)]
        exact md3'
  · intro dc fc mdc zc
    refine yk_237_36 ⟨by omega, by omega, fun _ => ?_, fun z => by omega⟩
    have hlp := lp_up (n := n) (X := fun i => yB (D - 1) xm_c237 (yQi L P) L 90 [.ref 146, .double 0, .int (xJ (W a1).2.1), .int (xJ (W a1).2.2.1), .int (xJ (W a1).2.2.2.1), .int (xJ i), .double 0] [] (xs (xwr dc 151 i (dc 161)) 146 7 i) e) hn.1 ?_ ?_
    · rw [xwr_0] at hlp; exact hlp
    · intro i i1 i2 ih
      refine yk_237_90 (by omega) ?_
      rw [xs_eq, xs_ni (i := 1) (by decide), xwr_fn (p := 146) (by decide), fc 146 1 rfl, hn1, show xs (xwr dc 151 i (dc 161)) 146 7 i 161 = dc 161 by rw [xs_fn, if_neg (by decide), xwr_fn (by decide)], xs_row (by decide) i1 rfl]
      exact ⟨by omega, by omega, fun c => by omega, fun _ => ⟨by omega, by omega, ih⟩⟩
    · refine yk_237_90 (by omega) ?_
      rw [xs_eq, xs_ni (i := 1) (by decide), xwr_fn (p := 146) (by decide), fc 146 1 rfl, hn1]
      exact ⟨by omega, by omega, fun _ => ⟨by omega, by omega, hP' dc fc zc⟩, fun c => by omega⟩
  · exact Fk_wr f0 (fun _ => rfl)
  · rw [W0]; exact md _ (fun i a c => by rw [xwr_fn (by decide)]; exact m0 i a c)
  · intro g a c
    rw [xwr_at ⟨a, c⟩, W0]
theorem op_ahead {a1 : Int} (r1 : yR a1) (hb : b < 1000000000) (hI : Inv iR b d e) : Op iR b b L 130 237 [.int (xJ a1)] d e := by
  have hI0 := hI
  obtain ⟨hP, hT, hW, hL, hS, hU, hK, hR, hQ, hV, hH, hG⟩ := hI
  have p1 := hP.1
  have p2 := hP.2.1
  obtain ⟨F, hX, hM⟩ := id hR
  have f0 : ¬ (0 ≤ a1 ∧ a1 ≤ 40) → yC 150 237 L [.ref 146, .int (xJ a1)] d e (fun r2 d2 e2 => -1 = r2 ∧ Inv iR b d2 e2) := fun c => by
    refine yC_of rfl rfl rfl (by omega) (yk_237_0 (by omega) ⟨r1, fun c2 => absurd c2 c, fun c2 => ⟨rfl, hP, hT, hW, hL, hS, (iU_c hU (by repeat' (first | exact Fz_refl | refine Fz_xs ?_ (by decide))) rfl rfl rfl rfl rfl), (iK_c hK (by repeat' (first | exact Fz_refl | refine Fz_xs ?_ (by decide))) rfl rfl rfl rfl), hR, hQ, hV, hH, hG⟩⟩)
  refine yC_of rfl rfl rfl (by omega) (yk_130_0 (by omega) ⟨r1, fun c => f0 (by omega), fun c => ⟨fun c2 => ?_, fun c2 => f0 (by omega)⟩⟩)
  refine sc_50 rfl rfl (by decide) (by omega) (fun d1 e1 x => ?_)
  obtain ⟨X, ok, cl, md⟩ := cp_cl hP hS x
  refine sq_85 (by omega) (fun d2 z1 z2 z3 z4 z5 => ?_)
  have cl2 := cl d2 (0, 0, 0, fun _ => 0) z1 ⟨z2, z3, z4, fun g a c => z5 g a (by omega)⟩
  have f2 : Fk sx d d2 := Fk_trans (cp_fk x) (cp_f2 z1)
  generalize d1 18 = h at ok cl2 md
  generalize d1 19 = s at ok cl2 md
  refine sq_86_17 (F := F) (n := d 6 4) (by omega) (by rw [f2 111 6 rfl, Fk_p f2 (p := 112) (fun _ => rfl)]; exact hX) (by rw [Fk_p f2 (p := 6) (fun _ => rfl)]) (by rw [Fk_p f2 (p := 7) (fun _ => rfl)]; exact iL_t hL) ok (by omega) (by omega) cl2 (fun d3 e3 f3 ef3 cl3 => ?_)
  rw [Fk_p f2 (p := 7) (fun _ => rfl)] at cl3
  have f3' : Fk sx d d3 := Fk_trans f2 (sD_sx f3)
  obtain ⟨-, -, -, -, -, -, c7, c8, c9, c10⟩ := cl3
  have hlp := lp_up (n := d 6 4) (X := fun i => yB (150 - 1) xm_c130 (yQi L (fun r1 d1 e1 => yC 150 237 L [.ref 146, .int (xJ a1)] d1 e1 (fun r2 d2 e2 => r1 = r2 ∧ Inv iR b d2 e2))) L 30 [.ref 1, .double 0, .int (xJ i)] [] (xs (xwr d3 5 i (d3 126)) 4 1 i) e3) p1.1 ?_ ?_
  · rw [xwr_0] at hlp; exact hlp
  · intro i i1 i2 ih
    refine yk_130_30 (by omega) ?_
    rw [xs_eq, show xs (xwr d3 5 i (d3 126)) 4 1 i 6 = d3 6 by rw [xs_fn, if_neg (by decide), xwr_fn (by decide)], Fk_p f3' (p := 6) (fun _ => rfl), show xs (xwr d3 5 i (d3 126)) 4 1 i 126 = d3 126 by rw [xs_fn, if_neg (by decide), xwr_fn (by decide)], xs_row (by decide) i1 rfl]
    exact ⟨by omega, by omega, fun c => by omega, fun _ => ⟨by omega, by omega, ih⟩⟩
  · refine yk_130_30 (by omega) ?_
    rw [xs_eq, show xs (xwr d3 5 (d 6 4) (d3 126)) 4 1 (d 6 4) 6 = d3 6 by rw [xs_fn, if_neg (by decide), xwr_fn (by decide)], Fk_p f3' (p := 6) (fun _ => rfl), show xs (xwr d3 5 (d 6 4) (d3 126)) 4 1 (d 6 4) 118 = d3 118 by rw [xs_fn, if_neg (by decide), xwr_fn (by decide)], c7, c8, c9]
    refine ⟨by omega, by omega, fun _ => ⟨by omega, by omega, ?_⟩, fun c => by omega⟩
    generalize hd4 : xs (xs (xs (xs (xs (xwr d3 5 (d 6 4) (d3 126)) 4 1 (d 6 4)) 5 (d 6 4) _) 4 1 (d 6 4 + 1)) 5 (d 6 4 + 1) _) 4 1 (d 6 4 + 1 + 1) = d4
    have f4 : Fk (fun p i => sx p i || p == 4 || p == 5) d d4 := by
      rw [← hd4]
      refine Fk_xs (Fk_xs (Fk_xs (Fk_xs (Fk_xs (Fk_wr (Fk_mono f3' (fun p i q => ?_)) (fun _ => rfl)) rfl) rfl) rfl) rfl) rfl
      cases w : sx p i
      · rfl
      · rw [w] at q; simp at q
    have y4 : ∀ p, (∀ i, (fun p i => sx p i || p == 4 || p == 5) p i = false) → d4 p = d p := fun p hp => Fk_p f4 hp
    refine sq_237 (b := b) (F := F) (tr := d 7) (h := h) (s := s) (n := d 6 4) (X := X) (by omega) (by rw [y4 146 (fun _ => rfl), y4 153 (fun _ => rfl)]; exact hM) (by rw [y4 146 (fun _ => rfl)]; exact p2) (by rw [y4 148 (fun _ => rfl)]; exact (okM_i hP hL hS).2.2.2) (by rw [y4 156 (fun _ => rfl)]; exact fun g a c => hG.2 g a (by omega)) ok hb ⟨by omega, c2⟩ (by rw [y4 147 (fun _ => rfl)]; exact md) (fun dc fc zc => ⟨rfl, ?_⟩)
    generalize hd5 : xs (xs (xs (xs (xs (xwr dc 151 (d 6 4) (dc 161)) 146 7 (d 6 4)) 151 (d 6 4) _) 146 7 (d 6 4 + 1)) 151 (d 6 4 + 1) _) 146 7 (d 6 4 + 1 + 1) = d5
    have g45 : ∀ p, (p = 4 ∨ p = 5) → d5 p = d4 p := fun p hp => by
      rw [← hd5]
      funext i
      rw [xs_np (by omega), xs_np (by omega), xs_np (by omega), xs_np (by omega), xs_np (by omega), xwr_fn (by omega)]
      exact fc p i (by rcases hp with rfl | rfl <;> rfl)
    refine Inv_fk hI0 ?_ (fun p h1 _ => by rw [ef3 p h1, x.2.1 p h1]) ⟨?_, ?_, ?_⟩
    · rw [← hd5]
      refine Fk_xs (Fk_xs (Fk_xs (Fk_xs (Fk_xs (Fk_wr (Fk_trans (Fk_mono f4 (fun p i q => ?_)) (Fk_m fc)) (fun _ => rfl)) rfl) rfl) rfl) rfl) rfl
      cases w : sx p i
      · have : ¬ p = 4 ∧ ¬ p = 5 := ⟨fun z => by subst z; exact absurd (show true = false from q) (by decide), fun z => by subst z; exact absurd (show true = false from q) (by decide)⟩
        simp [this.1, this.2]
      · unfold sr at q; rw [w] at q; simp at q
    · rw [g45 4 (Or.inl rfl), ← hd4, xs_eq]; omega
    · rw [g45 4 (Or.inl rfl), ← hd4, ← hd5, xs_eq, xs_eq]
    · intro i a c
      rw [g45 4 (Or.inl rfl), ← hd4, xs_eq] at c
      rw [g45 5 (Or.inr rfl), ← hd4, ← hd5, xs_np (p := 151) (by decide), xs_np (p := 5) (by decide), xs_app (p := 151), xs_app (p := 5)]
      by_cases w1 : i = d 6 4 + 1
      · rw [if_pos ⟨rfl, w1⟩, if_pos ⟨rfl, w1⟩]
      · rw [if_neg (fun z => w1 z.2), if_neg (fun z => w1 z.2), xs_np (p := 151) (by decide), xs_np (p := 5) (by decide), xs_app (p := 151), xs_app (p := 5)]
        by_cases w2 : i = d 6 4
        · rw [if_pos ⟨rfl, w2⟩, if_pos ⟨rfl, w2⟩]
        · rw [if_neg (fun z => w2 z.2), if_neg (fun z => w2 z.2), xs_np (p := 151) (by decide), xs_np (p := 5) (by decide), xwr_at ⟨a, by omega⟩, xwr_at ⟨a, by omega⟩, zc i a (by omega), c10 i a (by omega)]
end AHD
