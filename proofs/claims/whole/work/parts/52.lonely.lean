/-! CALLS: who is led by nobody, the hardest day. -/
theorem sF_z {p : Nat} {i : Int} (h : 126 ≤ p) : sF p i = false := by
  cases w : sF p i
  · rfl
  · have : p = 115 ∨ p = 116 ∨ p = 119 ∨ p = 120 ∨ p = 121 ∨ p = 122 ∨ p = 123 ∨ p = 124 ∨ p = 125 := by simpa [sF] using w
    omega
theorem bI_set {f : Int → Bool} {n p : Int} (h : n ≤ 12) (hp : 0 ≤ p ∧ p < n) : xi_or (bI f n) (xi_shl 1 p) = bI (fun i => f i || decide (i = p)) n := by
  obtain ⟨k, rfl⟩ : ∃ k : Nat, p = k := ⟨p.toNat, by omega⟩
  have h1 := bm_lt9 (fun k => f k) (n := n.toNat) (by omega)
  have h3 : 2 ^ k ≤ 2 ^ 11 := Nat.pow_le_pow_right (by omega) (by omega)
  unfold bI
  rw [bt_shl (by omega), bt_or (by omega) (by omega)]
  congr 1
  apply Nat.eq_of_testBit_eq
  intro i
  rw [Nat.testBit_or, bm_bit, bm_bit, Nat.testBit_two_pow]
  by_cases hi : i < n.toNat
  · by_cases hk : k = i
    · subst hk; simp; omega
    · simp [hi, hk, show ¬ (i : Int) = (k : Int) by omega]
  · simp [hi]
    omega
def msk (hf : Int → Bool) (n : Int) (Q : Int → Bool) (i : Int) : Int := bI (fun p => hf p && (decide (cI hf p < i) && Q (cI hf p))) n
theorem msk_0 {hf : Int → Bool} {n : Int} {Q : Int → Bool} (hn : 0 ≤ n) : msk hf n Q 0 = 0 := by
  unfold msk
  rw [bI_congr (g := fun _ => false) (fun p a c => by have := cI_r hf a; rw [decide_eq_false (by omega)]; simp)]
  unfold bI
  have : bm (fun _ => false) n.toNat = 0 := bm_zero.mpr (fun _ _ => rfl)
  rw [this]; rfl
theorem msk_t {hf : Int → Bool} {n i : Int} {Q : Int → Bool} {hp : Int → Int} (hn : 0 ≤ n ∧ n ≤ 9) (hx : hpX hf hp n) (hi : 0 ≤ i ∧ i < cI hf n) (hQ : Q i = true) : xi_or (msk hf n Q i) (xi_shl 1 (hp i)) = msk hf n Q (i + 1) := by
  have h := hx.2 i hi.1 hi.2
  unfold msk
  rw [bI_set (by omega) ⟨h.1, h.2.1⟩]
  refine bI_congr (fun p a c => ?_)
  cases w : hf p
  · simp
    intro q
    rw [q, h.2.2.1] at w
    exact absurd w (by decide)
  · by_cases z : p = hp i
    · rw [z, h.2.2.2, hQ]; simp; omega
    · have ne : ¬ cI hf p = i := fun q => z (cI_inj a h.1 w h.2.2.1 (by rw [q, h.2.2.2]))
      simp [z, show (cI hf p < i + 1) = (cI hf p < i) from propext ⟨fun _ => by omega, fun _ => by omega⟩]
theorem msk_f {hf : Int → Bool} {n i : Int} {Q : Int → Bool} (hn : 0 ≤ n ∧ n ≤ 9) (hQ : Q i = false) : xi_or (msk hf n Q i) 0 = msk hf n Q (i + 1) := by
  have e1 : msk hf n Q (i + 1) = msk hf n Q i := by
    unfold msk
    refine bI_congr (fun p a c => ?_)
    by_cases z : cI hf p = i
    · rw [z, hQ]; simp
    · simp [show (cI hf p < i + 1) = (cI hf p < i) from propext ⟨fun _ => by omega, fun _ => by omega⟩]
  rw [e1]
  unfold msk bI
  rw [show (0 : Int) = ((0 : Nat) : Int) from rfl]
  have h1 := bm_lt9 (fun k => (fun p => hf p && (decide (cI hf p < i) && Q (cI hf p))) (k : Int)) (n := n.toNat) (by omega)
  rw [bt_or (by omega) (by omega), Nat.or_zero]
theorem msk_k {hf : Int → Bool} {n : Int} {Q : Int → Bool} (hn : 0 ≤ n) : msk hf n Q (cI hf n) = bI (fun p => hf p && Q (cI hf p)) n := by
  unfold msk
  refine bI_congr (fun p a c => ?_)
  cases w : hf p
  · rfl
  · have := cI_mono (h := hf) (i := p + 1) (j := n) (by omega) (by omega)
    rw [cI_t a w] at this
    rw [decide_eq_true (show cI hf p < cI hf n by omega)]
    rfl
theorem ce_all {pr : Int → Int → Int} {i n : Int} (hn : 0 ≤ n) (h : ∀ g, 0 ≤ g → g < n → pr i g = -1) : ce pr n i = 1000 := by
  unfold ce
  refine fI_inv (g := ceF pr i) (a := 1000) (I := fun _ x => x = 1000) rfl ?_ hn
  intro g x g1 g2 hx
  unfold ceF
  rw [if_pos (Or.inl (h g g1 g2))]
  exact hx
section LON
variable {b : Int} {L D : Nat} {d : xh_D} {e : xd_E} {n : Int}
theorem sq_14 {hf : Int → Bool} {hp bs : Int → Int} {P : Int → xh_D → xd_E → Prop} (hD : 1 ≤ D) (hn : 0 ≤ n ∧ n ≤ 9) (hx : hpX hf hp n) (h6 : d 119 6 = cI hf n) (h120 : ∀ j, 0 ≤ j → j < cI hf n → d 120 j = hp j) (h121 : ∀ j, 0 ≤ j → j < cI hf n → d 121 j = bs j ∧ yR (bs j)) (h : P (bI (fun p => hf p && decide (bs (cI hf p) = -1)) n) d e) : yC D 14 L [.ref 119] d e P := by
  have kr := cI_r hf hn.1
  refine yC_of rfl rfl rfl (by omega) (yk_14_0 ?_)
  have hlp := lp_up (n := cI hf n) (X := fun i => yB (D - 1) xm_c14 (yQi L P) L 4 [.ref 119, .int (xJ (msk hf n (fun j => decide (bs j = -1)) i)), .int (xJ i)] [] d e) kr.1 ?_ ?_
  · rw [msk_0 hn.1] at hlp; exact hlp
  · intro i a c ih
    have := h121 i a c
    refine yk_14_4 ?_
    rw [h6, this.1, h120 i a c]
    refine ⟨by omega, by omega, fun g => by omega, fun _ => ⟨by omega, this.2, fun g => ?_, fun g => ?_⟩⟩
    · rw [msk_f hn (by simp [g])]; exact ih
    · rw [msk_t hn hx ⟨a, c⟩ (by simp [g])]; exact ih
  · refine yk_14_4 ?_
    rw [h6, msk_k hn.1]
    exact ⟨by omega, by omega, fun _ => h, fun g => by omega⟩
theorem sq_15 {hf : Int → Bool} {hp : Int → Int} {pr : Int → Int → Int} {P : Int → xh_D → xd_E → Prop} (hD : 2 ≤ D) (hn : 0 ≤ n ∧ n ≤ 9) (hx : hpX hf hp n) (h6 : d 119 6 = cI hf n) (h7 : d 119 7 = n) (h120 : ∀ j, 0 ≤ j → j < cI hf n → d 120 j = hp j) (hpr : ∀ i g, 0 ≤ i → i < cI hf n → 0 ≤ g → g < n → d 124 (i * 9 + g) = pr i g) (hr : ∀ i g, -1 ≤ pr i g ∧ pr i g ≤ 99) (h : P (bI (fun p => hf p && decide (ce pr n (cI hf p) = 1000)) n) d e) : yC D 15 L [.ref 119] d e P := by
  have kr := cI_r hf hn.1
  refine yC_of rfl rfl rfl (by omega) (yk_15_0 ?_)
  have hlp := lp_up (n := cI hf n) (X := fun i => yB (D - 1) xm_c15 (yQi L P) L 4 [.ref 119, .int (xJ (msk hf n (fun j => decide (ce pr n j = 1000)) i)), .int (xJ i)] [] d e) kr.1 ?_ ?_
  · rw [msk_0 hn.1] at hlp; exact hlp
  · intro i a c ih
    have cr := ce_r (hr i) hn.1
    refine yk_15_4 ?_
    rw [h6]
    refine ⟨by omega, by omega, fun g => by omega, fun _ => ?_⟩
    refine sq_10 (pr := pr) (n := n) (by omega) hn h7 (by omega) (fun g a2 c2 => hpr i g a c a2 c2) (hr i) ⟨by unfold ce; omega, fun g => ?_, fun g => ⟨by omega, fun v hv => ?_⟩⟩
    · rw [msk_f hn (by simp [g])]; exact ih
    · rw [h120 i a c, msk_t hn hx ⟨a, c⟩ (by simp [g])] at hv
      rw [hv]; exact ih
  · refine yk_15_4 ?_
    rw [h6, msk_k hn.1]
    exact ⟨by omega, by omega, fun _ => h, fun g => by omega⟩
theorem op_lonely {a1 : Int} (r1 : yR a1) (hI : Inv iR b d e) : Op iR b b L 116 221 [.int (xJ a1)] d e := by
  have hI0 := hI
  obtain ⟨hP, hT, hW, hL, hS, hU, hK, hR, hQ, hV, hH, hG⟩ := hI
  have p1 := hP.1
  have p2 := hP.2.1
  obtain ⟨F, hX, hM⟩ := id hR
  have hh := iS_h hS
  have f0 : ¬ (0 ≤ a1 ∧ a1 ≤ 999) → yC 150 221 L [.ref 146, .int (xJ a1)] d e (fun r2 d2 e2 => -1 = r2 ∧ Inv iR b d2 e2) := fun c => by
    refine yC_of rfl rfl rfl (by omega) (yk_221_0 (by omega) ⟨r1, fun c2 => absurd c2 c, fun c2 => ⟨rfl, hP, hT, hW, hL, hS, (iU_c hU (by repeat' (first | exact Fz_refl | refine Fz_xs ?_ (by decide))) rfl rfl rfl rfl rfl), (iK_c hK (by repeat' (first | exact Fz_refl | refine Fz_xs ?_ (by decide))) rfl rfl rfl rfl), hR, hQ, hV, hH, hG⟩⟩)
  refine yC_of rfl rfl rfl (by omega) (yk_116_0 (by omega) ⟨r1, fun c => ?_, f0⟩)
  generalize hB : gB F (d 7) (d 12) (d 13) (d 14) (d 6 4) a1 = B
  generalize hpr : prC F (d 7) (d 12) (d 13) (d 14) (d 6 4) a1 = pr
  have rr : ∀ i g, -1 ≤ pr i g ∧ pr i g ≤ 99 := fun i g => by rw [← hpr]; exact prF_r
  have gok := gB_ok (F := F) (tr := d 7) (h := d 12) (s := d 13) (t := d 14) (day := a1) p1
  rw [hB] at gok
  have hpx := hpC_ok (hf := hfF (d 12) a1) p1.1
  generalize hA : bI (fun p => hfF (d 12) a1 p && decide (B.2 (cI (hfF (d 12) a1) p) = -1)) (d 6 4) = A
  generalize hN : bI (fun p => hfF (d 12) a1 p && decide (ce pr (d 6 4) (cI (hfF (d 12) a1) p) = 1000)) (d 6 4) = N
  -- the reference
  have mm : ∀ dx : xh_D, Fk (fun p i => sF p i || p == 4 || p == 5) d dx → dx 4 1 = 1 → dx 5 0 = N → yC 150 221 L [.ref 146, .int (xJ a1)] dx e (fun r2 d2 e2 => A = r2 ∧ Inv iR b d2 e2) := by
    intro dx fx w4 w50
    have fd : Fk sr d dx := Fk_mono fx (fun p i q => by
      cases w : sF p i
      · by_cases z : p = 4
        · subst z; exact absurd (show true = false from q) (by decide)
        · by_cases z2 : p = 5
          · subst z2; exact absurd (show true = false from q) (by decide)
          · simp [z, z2]
      · exfalso
        have : p = 115 ∨ p = 116 ∨ p = 119 ∨ p = 120 ∨ p = 121 ∨ p = 122 ∨ p = 123 ∨ p = 124 ∨ p = 125 := by simpa [sF] using w
        rcases this with rfl | rfl | rfl | rfl | rfl | rfl | rfl | rfl | rfl <;> exact absurd (show true = false from q) (by decide))
    have fm : ∀ p, 126 ≤ p → dx p = d p := fun p hp => Fk_p fx (fun i => by rw [sF_z hp]; simp; omega)
    refine yC_of rfl rfl rfl (by omega) (yk_221_0 (by omega) ⟨r1, fun _ => ?_, fun c2 => absurd c c2⟩)
    refine sg_219_147 (F := F) (n := d 6 4) (by omega) (by (try simp only [xs_fn, upI_app, Nat.reduceEqDiff, Int.reduceEq, eq_self, false_and, true_and, and_false, and_true, if_false, if_true, ↓reduceIte]); rw [fm 146 (by decide), fm 153 (by decide)]; exact hM) (okM_c (okM_i hP hL hS) (by (try simp only [xs_fn, upI_app, Nat.reduceEqDiff, Int.reduceEq, eq_self, false_and, true_and, and_false, and_true, if_false, if_true, ↓reduceIte]); rw [fm 146 (by decide)]) (by (try simp only [xs_fn, upI_app, Nat.reduceEqDiff, Int.reduceEq, eq_self, false_and, true_and, and_false, and_true, if_false, if_true, ↓reduceIte]); exact fm 148 (by decide)) (by (try simp only [xs_fn, upI_app, Nat.reduceEqDiff, Int.reduceEq, eq_self, false_and, true_and, and_false, and_true, if_false, if_true, ↓reduceIte]); exact fm 147 (by decide))) (by (try simp only [xs_fn, upI_app, Nat.reduceEqDiff, Int.reduceEq, eq_self, false_and, true_and, and_false, and_true, if_false, if_true, ↓reduceIte]); rw [fm 156 (by decide)]; exact fun g a c => hG.2 g a (by omega)) (by omega) (fun d3 f3 m => ?_)
    rw [hB] at m
    have m25 := m.1
    have m155 := m.2.2.2.2
    have n1 : d3 146 1 = d 6 4 := by rw [f3 146 1 rfl]; (try simp only [xs_fn, upI_app, Nat.reduceEqDiff, Int.reduceEq, eq_self, false_and, true_and, and_false, and_true, if_false, if_true, ↓reduceIte]); rw [fm 146 (by decide), p2]
    have n148 : d3 148 = d 148 := by rw [Fk_p f3 (p := 148) (fun _ => rfl)]; (try simp only [xs_fn, upI_app, Nat.reduceEqDiff, Int.reduceEq, eq_self, false_and, true_and, and_false, and_true, if_false, if_true, ↓reduceIte]); exact fm 148 (by decide)
    have bt : ∀ p, 0 ≤ p → p < d 6 4 → xi_and (xi_shr (d3 146 25) p) 1 = if hfF (d 12) a1 p = true then 1 else 0 := fun p a c => by rw [m25]; exact bI_test (by omega) ⟨a, c⟩
    have hcan : ∀ p, 0 ≤ p → p < d 6 4 → hfF (d 12) a1 p = true → (ce pr (d 6 4) (cI (hfF (d 12) a1) p) = 1000 ↔ aI (fun x => hfF (d 12) a1 x || decide (d 7 (p * 9 + x) = 0)) (d 6 4) = true) := fun p a c hfp => by
      have hpp := hpx.1 p a c hfp
      have cv : ∀ g, pr (cI (hfF (d 12) a1) p) g = -1 ↔ (hfF (d 12) a1 g || decide (d 7 (p * 9 + g) = 0)) = true := fun g => by
        have cr := cst_r (F := F) (tr := d 7) (s := d 13) (t := d 14) (p := p) (g := g) (day := a1)
        rw [← hpr]
        unfold prC prF
        rw [hpp]
        unfold hfF
        rw [Bool.or_eq_true, decide_eq_true_iff, decide_eq_true_iff]
        constructor
        · intro z
          by_cases w : d 12 g = a1 % 9 ∨ d 7 (p * 9 + g) = 0
          · exact w
          · rw [if_neg w] at z; omega
        · intro z; rw [if_pos z]
      rw [aI_iff p1.1]
      constructor
      · intro z g a2 c2
        exact (cv g).mp ((ce_r (rr _) p1.1).2.2.2 z g a2 c2)
      · intro z
        exact ce_all p1.1 (fun g a2 c2 => (cv g).mpr (z g a2 c2))
    refine lp_up (n := d 6 4) (X := fun p => yB (150 - 1) xm_c221 (yQi L (fun r2 d2 e2 => A = r2 ∧ Inv iR b d2 e2)) L 21 [.ref 146, .double 0, .int (xJ (bI (fun p => hfF (d 12) a1 p && decide (B.2 (cI (hfF (d 12) a1) p) = -1)) p)), .int (xJ (bI (fun p => hfF (d 12) a1 p && decide (ce pr (d 6 4) (cI (hfF (d 12) a1) p) = 1000)) p)), .int (xJ p), .double 0, .double 0] [] d3 e) p1.1 ?_ ?_
    · intro p a cp ih
      refine yk_221_21 (by omega) ?_
      rw [n1, bt p a cp, m155 p a cp]
      refine ⟨by omega, by omega, fun g => by omega, fun _ => ⟨fun g => ⟨by omega, ?_⟩, fun g => ?_⟩⟩
      · have hfp : hfF (d 12) a1 p = true := by
          cases w : hfF (d 12) a1 p
          · rw [w] at g; exact absurd g (by decide)
          · rfl
        have cm := cI_mono (h := hfF (d 12) a1) (i := p + 1) (j := d 6 4) (by omega) (by omega)
        rw [cI_t a hfp] at cm
        have c0 := cI_r (hfF (d 12) a1) a
        have gb := gok.2.2 (cI (hfF (d 12) a1) p) (by omega) (by omega)
        have ev : cvF (hfF (d 12) a1) B.2 p = if B.2 (cI (hfF (d 12) a1) p) = -1 then 9 else B.2 (cI (hfF (d 12) a1) p) := by unfold cvF; rw [if_pos hfp]
        have hc := hcan p a cp hfp
        -- the loop over those who could lead
        have inner : ∀ x, x = bI (fun p => hfF (d 12) a1 p && decide (B.2 (cI (hfF (d 12) a1) p) = -1)) (p + 1) → yB (150 - 1) xm_c221 (yQi L (fun r2 d2 e2 => A = r2 ∧ Inv iR b d2 e2)) L 47 [.ref 146, .double 0, .int (xJ x), .int (xJ (bI (fun p => hfF (d 12) a1 p && decide (ce pr (d 6 4) (cI (hfF (d 12) a1) p) = 1000)) p)), .int (xJ p), .int (xJ 0), .int (xJ 0)] [] d3 e := by
          intro x hx
          have hlp := lp_up (n := d 6 4) (X := fun g => yB (150 - 1) xm_c221 (yQi L (fun r2 d2 e2 => A = r2 ∧ Inv iR b d2 e2)) L 47 [.ref 146, .double 0, .int (xJ x), .int (xJ (bI (fun p => hfF (d 12) a1 p && decide (ce pr (d 6 4) (cI (hfF (d 12) a1) p) = 1000)) p)), .int (xJ p), .int (xJ (if aI (fun x => hfF (d 12) a1 x || decide (d 7 (p * 9 + x) = 0)) g = true then 0 else 1)), .int (xJ g)] [] d3 e) p1.1 ?_ ?_
          · exact hlp
          · intro g g1 g2 jh
            rw [aI_s _ g1] at jh
            have t := hL (p * 9 + g) (by omega) (by omega)
            have e148 : d3 148 (9 * p + g) = d 7 (p * 9 + g) := by rw [n148, show 9 * p + g = p * 9 + g by omega]; exact t.2.2.1 ⟨by omega, by omega⟩
            refine yk_221_47 (by omega) ?_
            rw [n1, bt g g1 g2, e148]
            refine ⟨by omega, by omega, fun z => by omega, fun _ => ⟨by split <;> omega, fun z => ?_, fun z => ⟨fun z2 => ?_, fun z2 => ⟨by omega, by omega, fun z3 => ?_, fun z3 => ?_⟩⟩⟩⟩
            · have : aI (fun x => hfF (d 12) a1 x || decide (d 7 (p * 9 + x) = 0)) g = false := by
                cases w : aI (fun x => hfF (d 12) a1 x || decide (d 7 (p * 9 + x) = 0)) g
                · rfl
                · rw [w] at z; exact absurd rfl z
              rw [this] at jh; exact jh
            · have w1 : aI (fun x => hfF (d 12) a1 x || decide (d 7 (p * 9 + x) = 0)) g = true := by
                cases w : aI (fun x => hfF (d 12) a1 x || decide (d 7 (p * 9 + x) = 0)) g
                · rw [w] at z; exact absurd z (by decide)
                · rfl
              have w2 : hfF (d 12) a1 g = true := by
                cases w : hfF (d 12) a1 g
                · rw [w] at z2; exact absurd z2 (by decide)
                · rfl
              rw [w1, w2] at jh; exact jh
            · have w1 : aI (fun x => hfF (d 12) a1 x || decide (d 7 (p * 9 + x) = 0)) g = true := by
                cases w : aI (fun x => hfF (d 12) a1 x || decide (d 7 (p * 9 + x) = 0)) g
                · rw [w] at z; exact absurd z (by decide)
                · rfl
              rw [w1, decide_eq_true (show d 7 (p * 9 + g) = 0 by omega), Bool.or_true] at jh; exact jh
            · have w2 : hfF (d 12) a1 g = false := by
                cases w : hfF (d 12) a1 g
                · rfl
                · rw [w] at z2; exact absurd rfl z2
              rw [w2, decide_eq_false (show ¬ d 7 (p * 9 + g) = 0 by omega)] at jh
              simpa using jh
          · refine yk_221_47 (by omega) ?_
            rw [n1]
            refine ⟨by omega, by omega, fun _ => ⟨by split <;> omega, fun z => ?_, fun z => ?_⟩, fun z => by omega⟩
            · have w1 : ¬ ce pr (d 6 4) (cI (hfF (d 12) a1) p) = 1000 := fun w => z (by rw [if_pos (hc.mp w)])
              rw [hx, bI_k (f := fun p => hfF (d 12) a1 p && decide (ce pr (d 6 4) (cI (hfF (d 12) a1) p) = 1000)) (by omega) (by simp [w1])]
              exact ih
            · have w1 : ce pr (d 6 4) (cI (hfF (d 12) a1) p) = 1000 := hc.mpr (by
                cases w : aI (fun x => hfF (d 12) a1 x || decide (d 7 (p * 9 + x) = 0)) (d 6 4)
                · rw [w] at z; exact absurd z (by decide)
                · rfl)
              rw [hx, bI_t (f := fun p => hfF (d 12) a1 p && decide (ce pr (d 6 4) (cI (hfF (d 12) a1) p) = 1000)) (by omega) (by simp [w1, hfp])]
              exact ih
        rw [ev]
        refine ⟨by split <;> omega, fun g2 => inner _ ?_, fun g2 => inner _ ?_⟩
        · refine bI_k (by omega) ?_
          by_cases w : B.2 (cI (hfF (d 12) a1) p) = -1
          · rw [if_pos w] at g2; exact absurd rfl g2
          · simp [w]
        · refine bI_t (by omega) ?_
          by_cases w : B.2 (cI (hfF (d 12) a1) p) = -1
          · simp [w, hfp]
          · rw [if_neg w] at g2; omega
      · have hfp : hfF (d 12) a1 p = false := by
          cases w : hfF (d 12) a1 p
          · rfl
          · rw [w] at g; exact absurd rfl g
        rw [bI_k (f := fun p => hfF (d 12) a1 p && decide (B.2 (cI (hfF (d 12) a1) p) = -1)) (by omega) (by simp [hfp]), bI_k (f := fun p => hfF (d 12) a1 p && decide (ce pr (d 6 4) (cI (hfF (d 12) a1) p) = 1000)) (by omega) (by simp [hfp])]
        exact ih
    · refine yk_221_21 (by omega) ?_
      rw [n1, hA, hN]
      refine ⟨by omega, by omega, fun _ => ⟨rfl, ?_⟩, fun g => by omega⟩
      refine Inv_fk hI0 (Fk_xs (Fk_xs (Fk_xs (Fk_trans (Fk_xs fd rfl) (Fk_m f3)) rfl) rfl) rfl) Ek_refl (iW1 ?_ ?_ ?_)
      · (try simp only [xs_fn, upI_app, Nat.reduceEqDiff, Int.reduceEq, eq_self, false_and, true_and, and_false, and_true, if_false, if_true, ↓reduceIte]); rw [f3 4 1 rfl]; (try simp only [xs_fn, upI_app, Nat.reduceEqDiff, Int.reduceEq, eq_self, false_and, true_and, and_false, and_true, if_false, if_true, ↓reduceIte]); exact w4
      · (try simp only [xs_fn, upI_app, Nat.reduceEqDiff, Int.reduceEq, eq_self, false_and, true_and, and_false, and_true, if_false, if_true, ↓reduceIte]); rfl
      · (try simp only [xs_fn, upI_app, Nat.reduceEqDiff, Int.reduceEq, eq_self, false_and, true_and, and_false, and_true, if_false, if_true, ↓reduceIte]); rw [f3 5 0 rfl]; (try simp only [xs_fn, upI_app, Nat.reduceEqDiff, Int.reduceEq, eq_self, false_and, true_and, and_false, and_true, if_false, if_true, ↓reduceIte]); exact w50.symm
  refine sg_8_11 (F := F) (by omega) hX (okX_i hP hL hS) (by omega) (fun d1 f1 y6 y7 y8 y120 y121 y124 => ?_)
  rw [hB] at y8 y121
  rw [hpr] at y124
  refine sq_15 (n := d 6 4) (pr := pr) (by omega) p1 hpx (by (try simp only [xs_fn, upI_app, Nat.reduceEqDiff, Int.reduceEq, eq_self, false_and, true_and, and_false, and_true, if_false, if_true, ↓reduceIte]); exact y6) (by (try simp only [xs_fn, upI_app, Nat.reduceEqDiff, Int.reduceEq, eq_self, false_and, true_and, and_false, and_true, if_false, if_true, ↓reduceIte]); exact y7) (by (try simp only [xs_fn, upI_app, Nat.reduceEqDiff, Int.reduceEq, eq_self, false_and, true_and, and_false, and_true, if_false, if_true, ↓reduceIte]); exact y120) (by (try simp only [xs_fn, upI_app, Nat.reduceEqDiff, Int.reduceEq, eq_self, false_and, true_and, and_false, and_true, if_false, if_true, ↓reduceIte]); exact y124) rr ?_
  rw [hN, xs_eq]
  refine ⟨by omega, ?_⟩
  refine sq_14 (n := d 6 4) (bs := B.2) (by omega) p1 hpx (by (try simp only [xs_fn, upI_app, Nat.reduceEqDiff, Int.reduceEq, eq_self, false_and, true_and, and_false, and_true, if_false, if_true, ↓reduceIte]); exact y6) (by (try simp only [xs_fn, upI_app, Nat.reduceEqDiff, Int.reduceEq, eq_self, false_and, true_and, and_false, and_true, if_false, if_true, ↓reduceIte]); exact y120) (by (try simp only [xs_fn, upI_app, Nat.reduceEqDiff, Int.reduceEq, eq_self, false_and, true_and, and_false, and_true, if_false, if_true, ↓reduceIte]); exact fun j a c => ⟨y121 j a c, by have := gok.2.2 j a c; omega⟩) ?_
  rw [hA]
  refine mm _ (Fk_xs (Fk_xs (Fk_xs (Fk_mono f1 (fun p i q => ?_)) (by simp)) (by simp)) (by simp)) ?_ ?_
  · cases w : sF p i
    · rfl
    · rw [w] at q; simp at q
  · (try simp only [xs_fn, upI_app, Nat.reduceEqDiff, Int.reduceEq, eq_self, false_and, true_and, and_false, and_true, if_false, if_true, ↓reduceIte]); rfl
  · (try simp only [xs_fn, upI_app, Nat.reduceEqDiff, Int.reduceEq, eq_self, false_and, true_and, and_false, and_true, if_false, if_true, ↓reduceIte])
end LON
