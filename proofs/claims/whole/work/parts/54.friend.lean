/-! CALLS: the best friend. -/
def S9 (F : (Int → Int) → Int) (tr h s t : Int → Int) (n now : Int) : Int := sI (fun j => (gB F tr h s t n (now + j)).1) 9
def A9 (F : (Int → Int) → Int) (tr h s t : Int → Int) (n now : Int) : Int := sI (fun j => (gB F tr h s t n (now + j)).1 / 1000) 9
def C9 (F : (Int → Int) → Int) (tr h s t : Int → Int) (n now : Int) : Int := sI (fun j => (gB F tr h s t n (now + j)).1 % 1000) 9
theorem sI_mul {f : Int → Int} {n k : Int} (hn : 0 ≤ n) : sI (fun j => k * f j) n = k * sI f n := by
  have key : ∀ m : Nat, sI (fun j => k * f j) m = k * sI f m := by
    intro m
    induction m with
    | zero => exact (Int.mul_zero k).symm
    | succ m ih => rw [show ((m + 1 : Nat) : Int) = (m : Int) + 1 from rfl, sI_s _ (by omega), sI_s _ (by omega), ih, Int.mul_add]
  have := key n.toNat
  rwa [show ((n.toNat : Nat) : Int) = n by omega] at this
theorem sI_le {f g : Int → Int} {n : Int} (hn : 0 ≤ n) (h : ∀ i, 0 ≤ i → i < n → f i ≤ g i) : sI f n ≤ sI g n := by
  have key : ∀ k : Nat, (k : Int) ≤ n → sI f k ≤ sI g k := by
    intro k
    induction k with
    | zero => intro _; exact Int.le_refl _
    | succ k ih =>
      intro hk
      rw [show ((k + 1 : Nat) : Int) = (k : Int) + 1 from rfl, sI_s _ (by omega), sI_s _ (by omega)]
      have := ih (by omega)
      have := h k (by omega) (by omega)
      omega
  have := key n.toNat (by omega)
  rwa [show ((n.toNat : Nat) : Int) = n by omega] at this
theorem S9_ok {F : (Int → Int) → Int} {tr h s t : Int → Int} {n now : Int} (hn : 0 ≤ n ∧ n ≤ 9) (hh : ∀ p, 0 ≤ p → p < n → 0 ≤ h p ∧ h p < 9) : S9 F tr h s t n now = 1000 * A9 F tr h s t n now + C9 F tr h s t n now ∧ (0 ≤ A9 F tr h s t n now ∧ A9 F tr h s t n now ≤ 90) ∧ (0 ≤ C9 F tr h s t n now ∧ C9 F tr h s t n now ≤ 891) := by
  have gk := fun j => (gB_ok (F := F) (tr := tr) (h := h) (s := s) (t := t) (day := now + j) hn).1
  refine ⟨?_, ?_, ?_⟩
  · unfold S9 A9 C9
    rw [← sI_mul (by omega), ← sI_add (by omega)]
    exact sI_congr (fun j _ _ => by omega)
  · have := sI_b (f := fun j => (gB F tr h s t n (now + j)).1 / 1000) (n := 9) (lo := 0) (hi := 9) (by omega) (fun j _ _ => by have := gk j; omega)
    unfold A9
    omega
  · have h1 := (sI_b (f := fun j => (gB F tr h s t n (now + j)).1 % 1000) (n := 9) (lo := 0) (hi := 999) (by omega) (fun j _ _ => by omega)).1
    have h2 := sI_le (f := fun j => (gB F tr h s t n (now + j)).1 % 1000) (g := fun j => 99 * cI (hfF h (now + j)) n) (n := 9) (by omega) (fun j _ _ => gB_r hn)
    rw [sI_mul (by omega), nine_n hn.1 hh] at h2
    unfold C9
    omega
def frF (S : Int → Int) (me : Int) : Int → Int × Int → Int × Int := fun p x => if p = me then x else if S p < x.1 then (S p, p) else x
section FRD
variable {b : Int} {L D : Nat} {d : xh_D} {e : xd_E} {n : Int}
theorem sq_150 {F : (Int → Int) → Int} {P : Int → xh_D → xd_E → Prop} (hD : 14 ≤ D) (hX : rX F (d 111 6) (d 112)) (ok : okX n 12 13 14 d) (hw : 0 ≤ d 11 5 ∧ d 11 5 < 2000000000) (h : ∀ d', Fk sF d d' → P (S9 F (d 7) (d 12) (d 13) (d 14) n (d 11 5)) d' e) : yC D 150 L [.ref 1] d e P := by
  refine yC_of rfl rfl rfl (by omega) (yk_150_0 ?_)
  refine lp_up (n := 9) (X := fun j => ∀ dc, Fk sF d dc → yB (D - 1) xm_c150 (yQi L P) L 4 [.ref 1, .int (xJ (sI (fun j => (gB F (d 7) (d 12) (d 13) (d 14) n (d 11 5 + j)).1) j)), .int (xJ j)] [] dc e) (by omega) ?_ ?_ d Fk_refl
  · intro j a c ih dc fc
    rw [sI_s _ a] at ih
    refine yk_150_4 ?_
    rw [Fk_p fc (p := 11) (fun _ => rfl)]
    refine ⟨by omega, fun g => by omega, fun _ => ?_⟩
    refine sg_8_11 (F := F) (n := n) (by omega) (by rw [Fk_p fc (p := 111) (fun _ => rfl), Fk_p fc (p := 112) (fun _ => rfl)]; exact hX) (okX_fk (by decide) (by decide) (by decide) ok fc) (by omega) (fun d1 f1 y6 y7 y8 y120 y121 y124 => ?_)
    rw [y8, Fk_p fc (p := 7) (fun _ => rfl), Fk_p fc (p := 12) (fun _ => rfl), Fk_p fc (p := 13) (fun _ => rfl), Fk_p fc (p := 14) (fun _ => rfl)]
    exact ih d1 (Fk_trans fc f1)
  · intro dc fc
    exact yk_150_4 ⟨by omega, fun _ => h dc fc, fun g => by omega⟩
theorem op_friend {a1 : Int} (r1 : yR a1) (hb : b < 1000000000) (hI : Inv iR b d e) : Op iR b b L 149 264 [.int (xJ a1)] d e := by
  have hI0 := hI
  obtain ⟨hP, hT, hW, hL, hS, hU, hK, hR, hQ, hV, hH, hG⟩ := hI
  have p1 := hP.1
  have p2 := hP.2.1
  obtain ⟨F, hX, hM⟩ := id hR
  have hh := iS_h hS
  have hw := hS.2.2.2.2.1
  have h81 : d 147 81 = d 11 5 := hS.2.2.2.2.2.1
  have f0 : ¬ (0 ≤ a1 ∧ a1 < d 6 4) → yC 150 264 L [.ref 146, .int (xJ a1)] d e (fun r2 d2 e2 => -2 = r2 ∧ Inv iR b d2 e2) := fun c => by
    refine yC_of rfl rfl rfl (by omega) (yk_264_0 (by omega) ⟨r1, by omega, fun c2 => by omega, fun c2 => ⟨rfl, hP, hT, hW, hL, hS, (iU_c hU (by repeat' (first | exact Fz_refl | refine Fz_xs ?_ (by decide))) rfl rfl rfl rfl rfl), (iK_c hK (by repeat' (first | exact Fz_refl | refine Fz_xs ?_ (by decide))) rfl rfl rfl rfl), hR, hQ, hV, hH, hG⟩⟩)
  refine yC_of rfl rfl rfl (by omega) (yk_149_0 (by omega) ⟨r1, by omega, fun c => ?_, f0⟩)
  generalize hT0 : (fun p => upI (d 7) (a1 * 9 + p) 9) = T
  have hTp : ∀ p, upI (d 7) (a1 * 9 + p) 9 = T p := fun p => by rw [← hT0]
  generalize hs0 : S9 F (d 7) (d 12) (d 13) (d 14) (d 6 4) (d 11 5) = s0
  generalize hSf : (fun p => S9 F (T p) (d 12) (d 13) (d 14) (d 6 4) (d 11 5)) = Sf
  have hSp : ∀ p, S9 F (T p) (d 12) (d 13) (d 14) (d 6 4) (d 11 5) = Sf p := fun p => by rw [← hSf]
  have ok0 := S9_ok (F := F) (tr := d 7) (h := d 12) (s := d 13) (t := d 14) (now := d 11 5) p1 hh
  have okp := fun p => S9_ok (F := F) (tr := T p) (h := d 12) (s := d 13) (t := d 14) (now := d 11 5) p1 hh
  rw [hs0] at ok0
  have fr : ∀ i, 0 ≤ i → (0 ≤ (fI (frF Sf a1) (s0, -1) i).1 ∧ (fI (frF Sf a1) (s0, -1) i).1 ≤ 90891) ∧ -1 ≤ (fI (frF Sf a1) (s0, -1) i).2 ∧ (fI (frF Sf a1) (s0, -1) i).2 ≤ i := fun i hi => by
    refine fI_inv (g := frF Sf a1) (a := (s0, -1)) (I := fun i x => (0 ≤ x.1 ∧ x.1 ≤ 90891) ∧ -1 ≤ x.2 ∧ x.2 ≤ i) (by simp only []; omega) ?_ hi
    intro j x j1 j2 hx
    have := okp j
    rw [hSp j] at this
    unfold frF
    split
    · omega
    · split
      · simp only []; omega
      · omega
  generalize hx9 : fI (frF Sf a1) (s0, -1) (d 6 4) = x9
  have hr9 := fr (d 6 4) p1.1
  rw [hx9] at hr9
  -- the reference
  have mm : ∀ dx : xh_D, Fk (fun p i => sF p i || p == 4 || p == 5) d dx → dx 4 1 = 2 → dx 5 0 = x9.1 / 1000 → dx 5 1 = x9.1 % 1000 → yC 150 264 L [.ref 146, .int (xJ a1)] dx e (fun r2 d2 e2 => x9.2 = r2 ∧ Inv iR b d2 e2) := by
    intro dx fx w4 w50 w51
    have fd : Fk sr d dx := Fk_mono fx (fun p i q => by
      cases w : sF p i
      · by_cases z : p = 4
        · subst z; exact absurd (show true = false from q) (by decide)
        · by_cases z2 : p = 5
          · subst z2; exact absurd (show true = false from q) (by decide)
          · simp [z, z2]
      · exfalso
        have : p = 115 ∨ p = 116 ∨ p = 119 ∨ p = 120 ∨ p = 121 ∨ p = 122 ∨ p = 123 ∨ p = 124 ∨ p = 125 := by simpa [sF] using w
        rcases this with rfl | rfl | rfl | rfl | rfl | rfl | rfl | rfl | rfl <;> exact absurd (show true = false from q) (by decide))
    have fm : ∀ p, 126 ≤ p → dx p = d p := fun p hp => Fk_p fx (fun i => by rw [sF_z hp]; simp; omega)
    refine yC_of rfl rfl rfl (by omega) (yk_264_0 (by omega) ?_)
    rw [fm 146 (by decide)]
    refine ⟨r1, by omega, fun _ => ?_, fun c2 => by omega⟩
    generalize hdy : xs dx 146 8 0 = dy
    have ym : ∀ i, ¬ i = 8 → dy 146 i = d 146 i := fun i h1 => by rw [← hdy, xs_ni h1, fm 146 (by decide)]
    have yp : ∀ p, 126 ≤ p → ¬ p = 146 → dy p = d p := fun p h1 h2 => by rw [← hdy, xs_fn, if_neg h2, fm p h1]
    have fy : Fk sr d dy := by rw [← hdy]; exact Fk_xs fd rfl
    have y4 : dy 4 1 = 2 := by rw [← hdy, xs_np (by decide), w4]
    have y50 : dy 5 0 = x9.1 / 1000 := by rw [← hdy, xs_np (by decide), w50]
    have y51 : dy 5 1 = x9.1 % 1000 := by rw [← hdy, xs_np (by decide), w51]
    -- nine days
    have nine : ∀ (tr : Int → Int) (dm : xh_D) (l2 l3 l4 l5 l6 : Int), okM (d 6 4) 147 (d 12) (d 13) (d 14) tr dm → dm 147 = d 147 → dm 153 = d 153 → dm 146 16 = d 146 16 → dm 156 = d 156 → (∀ d', Fk sm dm d' → yB (150 - 1) xm_c264 (yQi L (fun r2 d2 e2 => x9.2 = r2 ∧ Inv iR b d2 e2)) L 57 [.ref 146, .int (xJ a1), .int (xJ l2), .int (xJ l3), .int (xJ l4), .int (xJ l5), .int (xJ l6), .int (xJ (A9 F tr (d 12) (d 13) (d 14) (d 6 4) (d 11 5))), .int (xJ (C9 F tr (d 12) (d 13) (d 14) (d 6 4) (d 11 5))), .int (xJ 9)] [] d' e) → yB (150 - 1) xm_c264 (yQi L (fun r2 d2 e2 => x9.2 = r2 ∧ Inv iR b d2 e2)) L 57 [.ref 146, .int (xJ a1), .int (xJ l2), .int (xJ l3), .int (xJ l4), .int (xJ l5), .int (xJ l6), .int (xJ 0), .int (xJ 0), .int (xJ 0)] [] dm e := by
      intro tr dm l2 l3 l4 l5 l6 okm m147 m153 m16 m156 hc
      refine lp_up (n := 9) (X := fun j => ∀ dc, Fk sm dm dc → yB (150 - 1) xm_c264 (yQi L (fun r2 d2 e2 => x9.2 = r2 ∧ Inv iR b d2 e2)) L 57 [.ref 146, .int (xJ a1), .int (xJ l2), .int (xJ l3), .int (xJ l4), .int (xJ l5), .int (xJ l6), .int (xJ (sI (fun j => (gB F tr (d 12) (d 13) (d 14) (d 6 4) (d 11 5 + j)).1 / 1000) j)), .int (xJ (sI (fun j => (gB F tr (d 12) (d 13) (d 14) (d 6 4) (d 11 5 + j)).1 % 1000) j)), .int (xJ j)] [] dc e) (by omega) ?_ hc dm Fk_refl
      intro j a cj ih dc fc
      rw [sI_s _ a, sI_s _ a] at ih
      refine yk_264_57 ?_
      rw [Fk_p fc (p := 147) (fun _ => rfl), m147, h81]
      refine ⟨by omega, fun g => by omega, fun _ => ?_⟩
      refine sg_219_147 (F := F) (n := d 6 4) (by omega) (by rw [fc 146 16 rfl, Fk_p fc (p := 153) (fun _ => rfl), m16, m153]; exact hM) (okM_c okm (fc 146 1 rfl) (Fk_p fc (p := 148) (fun _ => rfl)) (Fk_p fc (p := 147) (fun _ => rfl))) (by rw [Fk_p fc (p := 156) (fun _ => rfl), m156]; exact fun g a c => hG.2 g a (by omega)) (by omega) (fun d3 f3 m => ?_)
      have mw := fdM_w m
      rw [mw.1, mw.2]
      exact ih d3 (Fk_trans fc f3)
    have f148 : ∀ p, 0 ≤ p → p < d 6 4 → okM (d 6 4) 147 (d 12) (d 13) (d 14) (T p) (xs dy 148 (9 * a1 + p) 9) := fun p a cp => by
      have okm := okM_i hP hL hS
      refine ⟨by rw [xs_np (by decide), ym 1 (by decide), p2], p1, by rw [xs_fn, if_neg (by decide), yp 147 (by decide) (by decide)]; exact okm.2.2.1, fun q g a2 c2 a3 c3 => ?_⟩
      have := okm.2.2.2 q g a2 c2 a3 c3
      rw [← hTp, upI_app, xs_app, yp 148 (by decide) (by decide)]
      by_cases z : q * 9 + g = a1 * 9 + p
      · rw [if_pos ⟨rfl, by omega⟩, if_pos z]; omega
      · rw [if_neg (fun w => z (by omega)), if_neg z]; exact this
    have key : ∀ o, 0 ≤ o → o ≤ d 6 4 → ∀ dc, Fk sm dy dc → yB (150 - 1) xm_c264 (yQi L (fun r2 d2 e2 => x9.2 = r2 ∧ Inv iR b d2 e2)) L 17 [.ref 146, .int (xJ a1), .int (xJ (fI (frF Sf a1) (s0, -1) o).2), .int (xJ ((fI (frF Sf a1) (s0, -1) o).1 / 1000)), .int (xJ ((fI (frF Sf a1) (s0, -1) o).1 % 1000)), .int (xJ o), .double 0, .double 0, .double 0, .double 0] [] dc e := by
      intro o ho1 ho2
      revert ho1
      refine lp_from (m := o) (n := d 6 4) (X := fun o => 0 ≤ o → ∀ dc, Fk sm dy dc → yB (150 - 1) xm_c264 (yQi L (fun r2 d2 e2 => x9.2 = r2 ∧ Inv iR b d2 e2)) L 17 [.ref 146, .int (xJ a1), .int (xJ (fI (frF Sf a1) (s0, -1) o).2), .int (xJ ((fI (frF Sf a1) (s0, -1) o).1 / 1000)), .int (xJ ((fI (frF Sf a1) (s0, -1) o).1 % 1000)), .int (xJ o), .double 0, .double 0, .double 0, .double 0] [] dc e) ho2 ?_ ?_
      · intro p _ cp ih a dc fc
        have frp := fr p a
        have ihx := ih (by omega)
        rw [fI_s _ _ a] at ihx
        generalize hxp : fI (frF Sf a1) (s0, -1) p = xp at ihx frp ⊢
        refine yk_264_17 (by omega) ?_
        rw [fc 146 1 rfl, ym 1 (by decide), p2]
        refine ⟨by omega, by omega, fun g => by omega, fun _ => ⟨r1, fun g => ⟨fun g2 => ⟨by omega, fun g3 => absurd g3 g2, fun _ => ?_⟩, fun g2 => by omega⟩, fun g => ?_⟩⟩
        · have od := okp p
          rw [hSp p] at od
          rw [show frF Sf a1 p xp = if Sf p < xp.1 then (Sf p, p) else xp from if_neg g] at ihx
          have e148 : dc 148 = d 148 := by rw [Fk_p fc (p := 148) (fun _ => rfl), yp 148 (by decide) (by decide)]
          have okm : okM (d 6 4) 147 (d 12) (d 13) (d 14) (T p) (xs dc 148 (9 * a1 + p) 9) := okM_c (f148 p a cp) (by rw [xs_np (by decide), xs_np (by decide), fc 146 1 rfl]) (by rw [xs_fn, xs_fn, if_pos rfl, if_pos rfl, Fk_p fc (p := 148) (fun _ => rfl)]) (by rw [xs_fn, if_neg (by decide), xs_fn, if_neg (by decide), Fk_p fc (p := 147) (fun _ => rfl)])
          refine nine (T p) _ _ _ _ _ _ okm ?_ ?_ ?_ ?_ (fun d3 f3 => ?_)
          · rw [xs_fn, if_neg (by decide), Fk_p fc (p := 147) (fun _ => rfl), yp 147 (by decide) (by decide)]
          · rw [xs_fn, if_neg (by decide), Fk_p fc (p := 153) (fun _ => rfl), yp 153 (by decide) (by decide)]
          · rw [xs_np (by decide), fc 146 16 rfl, ym 16 (by decide)]
          · rw [xs_fn, if_neg (by decide), Fk_p fc (p := 156) (fun _ => rfl), yp 156 (by decide) (by decide)]
          refine yk_264_57 ⟨by omega, fun _ => ⟨by omega, fun g3 => by omega, fun _ => ⟨by omega, ?_⟩⟩, fun g3 => by omega⟩
          have fr4 : Fk sm dy (xs d3 148 (9 * a1 + p) (dc 148 (9 * a1 + p))) := by
            intro q i w
            rw [xs_app]
            by_cases z : q = 148 ∧ i = 9 * a1 + p
            · rw [if_pos z, z.1, z.2, fc 148 _ rfl]
            · rw [if_neg z, f3 q i w, xs_app, if_neg z]
              exact fc q i w
          have sr0 := od.1
          refine yk_264_94 ?_
          refine ⟨by omega, by omega, fun g3 => ?_, fun g3 => ⟨fun g4 => ?_, fun g4 => ⟨by omega, by omega, fun g5 => ?_, fun g5 => ?_⟩⟩⟩
          · rw [if_neg (by omega)] at ihx
            exact ihx _ fr4
          · rw [if_pos (by omega)] at ihx
            have := ihx _ fr4
            simp only [] at this
            rw [show Sf p / 1000 = A9 F (T p) (d 12) (d 13) (d 14) (d 6 4) (d 11 5) by omega, show Sf p % 1000 = C9 F (T p) (d 12) (d 13) (d 14) (d 6 4) (d 11 5) by omega] at this
            exact this
          · rw [if_pos (by omega)] at ihx
            have := ihx _ fr4
            simp only [] at this
            rw [show Sf p / 1000 = A9 F (T p) (d 12) (d 13) (d 14) (d 6 4) (d 11 5) by omega, show Sf p % 1000 = C9 F (T p) (d 12) (d 13) (d 14) (d 6 4) (d 11 5) by omega] at this
            exact this
          · rw [if_neg (by omega)] at ihx
            exact ihx _ fr4
        · rw [show frF Sf a1 p xp = xp from if_pos g] at ihx
          exact ihx dc fc
      · intro a dc fc
        rw [hx9]
        refine yk_264_17 (by omega) ?_
        rw [fc 146 1 rfl, ym 1 (by decide), p2]
        refine ⟨by omega, by omega, fun _ => ⟨rfl, ?_⟩, fun g => by omega⟩
        refine Inv_fk hI0 (Fk_xs (Fk_xs (Fk_xs (Fk_xs (Fk_xs (Fk_trans fy (Fk_m fc)) rfl) rfl) rfl) rfl) rfl) Ek_refl (iW2 ?_ ?_ ?_ ?_)
        · (try simp only [xs_fn, upI_app, Nat.reduceEqDiff, Int.reduceEq, eq_self, false_and, true_and, and_false, and_true, if_false, if_true, ↓reduceIte]); rw [fc 4 1 rfl, y4]
        · (try simp only [xs_fn, upI_app, Nat.reduceEqDiff, Int.reduceEq, eq_self, false_and, true_and, and_false, and_true, if_false, if_true, ↓reduceIte]); rfl
        · show x9.1 / 1000 = dc 5 0; rw [fc 5 0 rfl, y50]
        · show x9.1 % 1000 = dc 5 1; rw [fc 5 1 rfl, y51]
    -- nobody first
    refine yk_264_17 (by omega) ?_
    rw [ym 1 (by decide), p2]
    refine ⟨by omega, by omega, fun g => by omega, fun _ => ⟨r1, fun g => ⟨fun g2 => absurd rfl g2, fun _ => ⟨fun _ => ?_, fun g2 => absurd rfl g2⟩⟩, fun g => by omega⟩⟩
    refine nine (d 7) dy _ _ _ _ _ (okM_c (okM_i hP hL hS) (ym 1 (by decide)) (yp 148 (by decide) (by decide)) (yp 147 (by decide) (by decide))) (yp 147 (by decide) (by decide)) (yp 153 (by decide) (by decide)) (ym 16 (by decide)) (yp 156 (by decide) (by decide)) (fun d3 f3 => ?_)
    refine yk_264_57 ⟨by omega, fun _ => ⟨by omega, fun _ => ?_, fun g3 => absurd rfl g3⟩, fun g3 => by omega⟩
    refine yk_264_94 ⟨by omega, by omega, fun g3 => by omega, fun g3 => ⟨fun g4 => ?_, fun g4 => by omega⟩⟩
    have := key 0 (by omega) p1.1 d3 f3
    rw [fI_0] at this
    simp only [] at this
    rw [show s0 / 1000 = A9 F (d 7) (d 12) (d 13) (d 14) (d 6 4) (d 11 5) by omega, show s0 % 1000 = C9 F (d 7) (d 12) (d 13) (d 14) (d 6 4) (d 11 5) by omega] at this
    exact this
  refine sq_150 (F := F) (n := d 6 4) (by omega) hX (okX_i hP hL hS) (by omega) (fun d1 f1 => ?_)
  rw [hs0]
  refine lp_up (n := d 6 4) (X := fun p => ∀ dc, Fk sF d dc → yB (150 - 1) xm_c149 (yQi L (fun r1 d1 e1 => yC 150 264 L [.ref 146, .int (xJ a1)] d1 e1 (fun r2 d2 e2 => r1 = r2 ∧ Inv iR b d2 e2))) L 14 [.ref 1, .int (xJ a1), .int (xJ (fI (frF Sf a1) (s0, -1) p).1), .int (xJ (fI (frF Sf a1) (s0, -1) p).2), .int (xJ p), .double 0, .double 0, .double 0] [] dc e) p1.1 ?_ ?_ d1 f1
  · intro p a cp ih dc fc
    have frp := fr p a
    rw [fI_s _ _ a] at ih
    generalize hxp : fI (frF Sf a1) (s0, -1) p = xp at ih frp ⊢
    have od := okp p
    rw [hSp p] at od
    refine yk_149_14 (by omega) ?_
    rw [Fk_p fc (p := 6) (fun _ => rfl)]
    refine ⟨by omega, by omega, fun g => by omega, fun _ => ⟨r1, fun g => ?_, fun g => ⟨by omega, ?_⟩⟩⟩
    · rw [show frF Sf a1 p xp = xp from if_pos g] at ih
      exact ih dc fc
    · rw [show frF Sf a1 p xp = if Sf p < xp.1 then (Sf p, p) else xp from if_neg g] at ih
      have e7 := Fk_p fc (p := 7) (fun _ => rfl)
      have g7 : xs dc 7 (a1 * 9 + p) 9 7 = T p := by rw [xs_fn, if_pos rfl, e7, hTp]
      have gq : ∀ q, ¬ q = 7 → xs dc 7 (a1 * 9 + p) 9 q = dc q := fun q hq => by rw [xs_fn, if_neg hq]
      have okx : okX (d 6 4) 12 13 14 (xs dc 7 (a1 * 9 + p) 9) := by
        have o := okX_fk (by decide) (by decide) (by decide) (okX_i hP hL hS) fc
        refine ⟨by rw [gq 6 (by decide)]; exact o.1, p1, by rw [gq 12 (by decide), gq 13 (by decide), gq 14 (by decide)]; exact o.2.2.1, fun i a c => ?_⟩
        rw [xs_app]
        split
        · omega
        · exact o.2.2.2 i a c
      refine sq_150 (F := F) (n := d 6 4) (by omega) (by rw [gq 111 (by decide), gq 112 (by decide), Fk_p fc (p := 111) (fun _ => rfl), Fk_p fc (p := 112) (fun _ => rfl)]; exact hX) okx (by rw [gq 11 (by decide), Fk_p fc (p := 11) (fun _ => rfl)]; omega) (fun d2 f2 => ?_)
      rw [g7, gq 12 (by decide), gq 13 (by decide), gq 14 (by decide), gq 11 (by decide), Fk_p fc (p := 12) (fun _ => rfl), Fk_p fc (p := 13) (fun _ => rfl), Fk_p fc (p := 14) (fun _ => rfl), Fk_p fc (p := 11) (fun _ => rfl), hSp]
      have f3 : Fk sF d (xs d2 7 (a1 * 9 + p) (dc 7 (a1 * 9 + p))) := by
        intro q i w
        rw [xs_app]
        by_cases z : q = 7 ∧ i = a1 * 9 + p
        · rw [if_pos z, z.1, z.2, e7]
        · rw [if_neg z, f2 q i w, xs_app, if_neg z]
          exact fc q i w
      refine ⟨by omega, by omega, fun g2 => ?_, fun g2 => ?_⟩
      · rw [if_neg (by omega)] at ih
        exact ih _ f3
      · rw [if_pos (by omega)] at ih
        exact ih _ f3
  · intro dc fc
    rw [hx9]
    refine yk_149_14 (by omega) ?_
    rw [Fk_p fc (p := 6) (fun _ => rfl)]
    refine ⟨by omega, by omega, fun _ => ⟨by omega, ?_⟩, fun g => by omega⟩
    refine mm _ (Fk_xs (Fk_xs (Fk_xs (Fk_xs (Fk_xs (Fk_mono fc (fun p i q => ?_)) (by simp)) (by simp)) (by simp)) (by simp)) (by simp)) ?_ ?_ ?_
    · cases w : sF p i
      · rfl
      · rw [w] at q; simp at q
    · (try simp only [xs_fn, upI_app, Nat.reduceEqDiff, Int.reduceEq, eq_self, false_and, true_and, and_false, and_true, if_false, if_true, ↓reduceIte])
    · (try simp only [xs_fn, upI_app, Nat.reduceEqDiff, Int.reduceEq, eq_self, false_and, true_and, and_false, and_true, if_false, if_true, ↓reduceIte])
    · (try simp only [xs_fn, upI_app, Nat.reduceEqDiff, Int.reduceEq, eq_self, false_and, true_and, and_false, and_true, if_false, if_true, ↓reduceIte])
end FRD
