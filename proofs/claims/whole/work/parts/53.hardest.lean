/-! CALLS: the hardest day, the best friend. -/
theorem gdG_r {pr : Int → Int → Int} {n k w : Int} {ch : Int → Int} (hk : 0 ≤ k ∧ k ≤ 9) (hp : ∀ i g, 0 ≤ i → i < k → 0 ≤ g → g < n → -1 ≤ pr i g ∧ pr i g ≤ 99) (h : gdG pr n k w ch) : w % 1000 ≤ 99 * k := by
  have key : ∀ i : Nat, (i : Int) ≤ k → ∃ r, sI (fun j => gdV pr j (ch j)) i = 1000 * cI (fun j => decide (ch j = -1)) i + r ∧ 0 ≤ r ∧ r ≤ 99 * i := by
    intro i
    induction i with
    | zero => intro _; exact ⟨0, rfl, by omega, by omega⟩
    | succ i ih =>
      intro hi
      obtain ⟨r, r1, r2, r3⟩ := ih (by omega)
      rw [show ((i + 1 : Nat) : Int) = (i : Int) + 1 from rfl, sI_s _ (by omega), r1]
      rcases h.2 i (by omega) (by omega) with q | q
      · rw [cI_t (by omega) (by simp [q])]
        refine ⟨r, ?_, r2, by omega⟩
        rw [show gdV pr i (ch i) = 1000 from if_pos q]
        omega
      · rw [cI_f (by omega) (by simp; omega)]
        have := hp i (ch i) (by omega) (by omega) q.1 q.2.1
        refine ⟨r + pr i (ch i), ?_, by omega, by omega⟩
        rw [show gdV pr i (ch i) = pr i (ch i) from if_neg (by omega)]
        omega
  obtain ⟨r, r1, r2, r3⟩ := key k.toNat (by omega)
  rw [show ((k.toNat : Nat) : Int) = k by omega] at r1 r3
  have hc := cI_r (fun j => decide (ch j = -1)) hk.1
  rw [h.1, r1]
  omega
theorem gB_r {F : (Int → Int) → Int} {tr h s t : Int → Int} {n day : Int} (hn : 0 ≤ n ∧ n ≤ 9) : (gB F tr h s t n day).1 % 1000 ≤ 99 * cI (hfF h day) n := by
  have kr := cI_r (hfF h day) hn.1
  exact gdG_r (by omega) (fun i g _ _ _ _ => prF_r) (gdB_ok (pr := prC F tr h s t n day) hn.1 kr.1).1
def haF (W : Int → Int) (now : Int) : Int → Int × Int → Int × Int := fun j x => if x.2 < W (now + j) then (now + j, W (now + j)) else x
theorem haF_r {W : Int → Int} {now j : Int} (hW : ∀ x, 0 ≤ W x ∧ W x ≤ 9900) (hj : 0 ≤ j) : (now ≤ (fI (haF W now) (now, -1) j).1 ∧ (fI (haF W now) (now, -1) j).1 ≤ now + j) ∧ (-1 ≤ (fI (haF W now) (now, -1) j).2 ∧ (fI (haF W now) (now, -1) j).2 ≤ 9900) ∧ (0 < j → 0 ≤ (fI (haF W now) (now, -1) j).2) := by
  refine fI_inv (g := haF W now) (a := (now, -1)) (I := fun j x => (now ≤ x.1 ∧ x.1 ≤ now + j) ∧ (-1 ≤ x.2 ∧ x.2 ≤ 9900) ∧ (0 < j → 0 ≤ x.2)) (by simp only []; omega) ?_ hj
  intro i x h1 h2 h3
  have := hW (now + i)
  unfold haF
  split
  · simp only []; omega
  · omega
section HRD
variable {b : Int} {L D : Nat} {d : xh_D} {e : xd_E} {n : Int}
theorem op_hardest (hb : b < 2000000000) (hI : Inv iR b d e) : Op iR b b L 117 222 [] d e := by
  have hI0 := hI
  obtain ⟨hP, hT, hW, hL, hS, hU, hK, hR, hQ, hV, hH, hG⟩ := hI
  have p1 := hP.1
  have p2 := hP.2.1
  obtain ⟨F, hX, hM⟩ := id hR
  have hw := hS.2.2.2.2.1
  have h81 : d 147 81 = d 11 5 := hS.2.2.2.2.2.1
  generalize hW0 : (fun day => (gB F (d 7) (d 12) (d 13) (d 14) (d 6 4) day).1) = W
  have hWd : ∀ day, (gB F (d 7) (d 12) (d 13) (d 14) (d 6 4) day).1 = W day := fun day => by rw [← hW0]
  have hW : ∀ x, 0 ≤ W x ∧ W x ≤ 9900 := fun x => by rw [← hWd]; exact (gB_ok p1).1
  have hr := haF_r (now := d 11 5) hW (j := 9) (by omega)
  generalize hx9 : fI (haF W (d 11 5)) (d 11 5, -1) 9 = x9 at hr
  -- the reference
  have mm : ∀ dx : xh_D, Fk (fun p i => sF p i || p == 4 || p == 5) d dx → dx 4 1 = 2 → dx 5 0 = x9.2 / 1000 → dx 5 1 = x9.2 % 1000 → yC 150 222 L [.ref 146] dx e (fun r2 d2 e2 => x9.1 % 9 = r2 ∧ Inv iR b d2 e2) := by
    intro dx fx w4 w50 w51
    have fd : Fk sr d dx := Fk_mono fx (fun p i q => by
      cases w : sF p i
      · by_cases z : p = 4
        · subst z; exact absurd (show true = false from q) (by decide)
        · by_cases z2 : p = 5
          · subst z2; exact absurd (show true = false from q) (by decide)
          · simp [z, z2]
      · exfalso
        have : p = 115 ∨ p = 116 ∨ p = 119 ∨ p = 120 ∨ p = 121 ∨ p = 122 ∨ p = 123 ∨ p = 124 ∨ p = 125 := by simpa [sF] using w
        rcases this with rfl | rfl | rfl | rfl | rfl | rfl | rfl | rfl | rfl <;> exact absurd (show true = false from q) (by decide))
    have fm : ∀ p, 126 ≤ p → dx p = d p := fun p hp => Fk_p fx (fun i => by rw [sF_z hp]; simp; omega)
    refine yC_of rfl rfl rfl (by omega) (yk_222_0 ?_)
    generalize hdy : xs dx 146 8 0 = dy
    have ym : ∀ i, ¬ i = 8 → dy 146 i = d 146 i := fun i h1 => by rw [← hdy, xs_ni h1, fm 146 (by decide)]
    have yp : ∀ p, 126 ≤ p → ¬ p = 146 → dy p = d p := fun p h1 h2 => by rw [← hdy, xs_fn, if_neg h2, fm p h1]
    have fy : Fk sr d dy := by rw [← hdy]; exact Fk_xs fd rfl
    have y4 : dy 4 1 = 2 := by rw [← hdy, xs_np (by decide), w4]
    have y50 : dy 5 0 = x9.2 / 1000 := by rw [← hdy, xs_np (by decide), w50]
    have y51 : dy 5 1 = x9.2 % 1000 := by rw [← hdy, xs_np (by decide), w51]
    refine lp_up (n := 9) (X := fun j => ∀ dc, Fk sm dy dc → ∀ l1 l2 l3 : Int, (j = 0 → l1 = -1 ∧ l2 = 0 ∧ l3 = 0) → (0 < j → l1 = (fI (haF W (d 11 5)) (d 11 5, -1) j).1 % 9 ∧ l2 = (fI (haF W (d 11 5)) (d 11 5, -1) j).2 / 1000 ∧ l3 = (fI (haF W (d 11 5)) (d 11 5, -1) j).2 % 1000) → yB (150 - 1) xm_c222 (yQi L (fun r2 d2 e2 => x9.1 % 9 = r2 ∧ Inv iR b d2 e2)) L 11 [.ref 146, .int (xJ l1), .int (xJ l2), .int (xJ l3), .int (xJ j)] [] dc e) (by omega) ?_ ?_ dy Fk_refl (-1) 0 0 (fun _ => ⟨rfl, rfl, rfl⟩) (fun c => by omega)
    · intro j a c ih dc fc l1 l2 l3 hl0 hl
      have hrj := haF_r (now := d 11 5) hW a
      have e147 : dc 147 = d 147 := by rw [Fk_p fc (p := 147) (fun _ => rfl), yp 147 (by decide) (by decide)]
      refine yk_222_11 (by omega) ?_
      rw [e147, h81]
      refine ⟨by omega, fun g => by omega, fun _ => ?_⟩
      refine sg_219_147 (F := F) (n := d 6 4) (by omega) (by rw [fc 146 16 rfl, Fk_p fc (p := 153) (fun _ => rfl), ym 16 (by decide), yp 153 (by decide) (by decide)]; exact hM) (okM_c (okM_i hP hL hS) (by rw [fc 146 1 rfl, ym 1 (by decide)]) (by rw [Fk_p fc (p := 148) (fun _ => rfl), yp 148 (by decide) (by decide)]) e147) (by rw [Fk_p fc (p := 156) (fun _ => rfl), yp 156 (by decide) (by decide)]; exact fun g a c => hG.2 g a (by omega)) (by omega) (fun d3 f3 m => ?_)
      have mw := fdM_w m
      have mb := m.2.2
      rw [hWd] at mw
      have Wj := hW (d 11 5 + j)
      have fc3 : Fk sm dy d3 := Fk_trans fc f3
      have e3 : d3 147 = d 147 := by rw [Fk_p f3 (p := 147) (fun _ => rfl), e147]
      rw [fI_s _ _ a] at ih
      generalize hxj : fI (haF W (d 11 5)) (d 11 5, -1) j = xj at ih hl hrj
      have upd : xj.2 < W (d 11 5 + j) → yB (150 - 1) xm_c222 (yQi L (fun r2 d2 e2 => x9.1 % 9 = r2 ∧ Inv iR b d2 e2)) L 40 [.ref 146, .double 0, .double 0, .double 0, .int (xJ j)] [] d3 e := by
        intro hlt
        rw [show haF W (d 11 5) j xj = (d 11 5 + j, W (d 11 5 + j)) from if_pos hlt] at ih
        refine yk_222_40 ?_
        rw [e3, h81]
        refine ⟨by omega, ih d3 fc3 _ _ _ (fun c => by omega) (fun _ => ⟨rfl, mw.1, mw.2⟩)⟩
      have keep : ¬ xj.2 < W (d 11 5 + j) → yB (150 - 1) xm_c222 (yQi L (fun r2 d2 e2 => x9.1 % 9 = r2 ∧ Inv iR b d2 e2)) L 11 [.ref 146, .int (xJ l1), .int (xJ l2), .int (xJ l3), .int (xJ (j + 1))] [] d3 e := by
        intro hlt
        rw [show haF W (d 11 5) j xj = xj from if_neg hlt] at ih
        by_cases z : j = 0
        · exfalso
          subst z
          have : xj = (d 11 5, -1) := hxj.symm
          rw [this] at hlt
          simp only [] at hlt
          omega
        · exact ih d3 fc3 l1 l2 l3 (fun c => by omega) (fun _ => hl (by omega))
      have lr : yR l1 ∧ yR l2 ∧ yR l3 := by
        by_cases z : j = 0
        · have := hl0 z; omega
        · have := hl (by omega); omega
      have ini : l1 = -1 → xj.2 < W (d 11 5 + j) := fun z => by
        by_cases w : j = 0
        · subst w
          have : xj = (d 11 5, -1) := hxj.symm
          rw [this]
          simp only []
          omega
        · have := hl (by omega); omega
      have ini2 : ¬ l1 = -1 → 0 < j := fun z => by
        by_cases w : j = 0
        · exact absurd (hl0 w).1 z
        · omega
      refine ⟨lr.1, fun z => upd (ini z), fun z => ⟨by omega, lr.2.1, fun z2 => keep ?_, fun z2 => ⟨fun z3 => upd ?_, fun z3 => ⟨by omega, lr.2.2, fun z4 => upd ?_, fun z4 => keep ?_⟩⟩⟩⟩
      · have := hl (ini2 z); omega
      · have := hl (ini2 z); omega
      · have := hl (ini2 z); omega
      · have := hl (ini2 z); omega
    · intro dc fc l1 l2 l3 hl0 hl
      rw [hx9] at hl
      have h3 := hl (by omega)
      refine yk_222_11 (by omega) ⟨by omega, fun _ => ⟨h3.1.symm, ?_⟩, fun g => by omega⟩
      refine Inv_fk hI0 (Fk_xs (Fk_xs (Fk_xs (Fk_xs (Fk_xs (Fk_trans fy (Fk_m fc)) rfl) rfl) rfl) rfl) rfl) Ek_refl (iW2 ?_ ?_ ?_ ?_)
      · (try simp only [xs_fn, upI_app, Nat.reduceEqDiff, Int.reduceEq, eq_self, false_and, true_and, and_false, and_true, if_false, if_true, ↓reduceIte]); rw [fc 4 1 rfl, y4]
      · (try simp only [xs_fn, upI_app, Nat.reduceEqDiff, Int.reduceEq, eq_self, false_and, true_and, and_false, and_true, if_false, if_true, ↓reduceIte]); rfl
      · show l2 = dc 5 0; rw [fc 5 0 rfl, y50, h3.2.1]
      · show l3 = dc 5 1; rw [fc 5 1 rfl, y51, h3.2.2]
  refine yC_of rfl rfl rfl (by omega) (yk_117_0 ?_)
  have hlp := lp_up (n := 9) (X := fun j => ∀ dc, Fk sF d dc → yB (150 - 1) xm_c117 (yQi L (fun r1 d1 e1 => yC 150 222 L [.ref 146] d1 e1 (fun r2 d2 e2 => r1 = r2 ∧ Inv iR b d2 e2))) L 14 [.ref 1, .ref 119, .int (xJ (fI (haF W (d 11 5)) (d 11 5, -1) j).1), .int (xJ (fI (haF W (d 11 5)) (d 11 5, -1) j).2), .int (xJ (d 11 5 + j))] [] dc e) (by omega) ?_ ?_ d Fk_refl
  · rw [show d 11 5 + 0 = d 11 5 by omega] at hlp; exact hlp
  · intro j a c ih dc fc
    have hrj := haF_r (now := d 11 5) hW a
    have e7 := Fk_p fc (p := 7) (fun _ => rfl)
    have e12 := Fk_p fc (p := 12) (fun _ => rfl)
    have e13 := Fk_p fc (p := 13) (fun _ => rfl)
    have e14 := Fk_p fc (p := 14) (fun _ => rfl)
    refine yk_117_14 (by omega) ?_
    rw [Fk_p fc (p := 11) (fun _ => rfl)]
    refine ⟨by omega, by omega, fun g => by omega, fun _ => ?_⟩
    refine sg_8_11 (F := F) (n := d 6 4) (by omega) (by rw [Fk_p fc (p := 111) (fun _ => rfl), Fk_p fc (p := 112) (fun _ => rfl)]; exact hX) (okX_fk (by decide) (by decide) (by decide) (okX_i hP hL hS) fc) (by omega) (fun d1 f1 y6 y7 y8 y120 y121 y124 => ?_)
    rw [e7, e12, e13, e14, hWd] at y8
    have Wj := hW (d 11 5 + j)
    rw [fI_s _ _ a] at ih
    generalize hxj : fI (haF W (d 11 5)) (d 11 5, -1) j = xj at ih hrj ⊢
    rw [y8]
    refine ⟨by omega, by omega, fun g => ?_, fun g => ?_⟩
    · rw [show haF W (d 11 5) j xj = xj from if_neg (by omega)] at ih
      rw [show d 11 5 + j + 1 = d 11 5 + (j + 1) by omega]
      exact ih d1 (Fk_trans fc f1)
    · rw [show haF W (d 11 5) j xj = (d 11 5 + j, W (d 11 5 + j)) from if_pos (by omega)] at ih
      rw [show d 11 5 + j + 1 = d 11 5 + (j + 1) by omega]
      exact ih d1 (Fk_trans fc f1)
  · intro dc fc
    rw [hx9]
    refine yk_117_14 (by omega) ?_
    rw [Fk_p fc (p := 11) (fun _ => rfl)]
    refine ⟨by omega, by omega, fun _ => ⟨by omega, by omega, ?_⟩, fun g => by omega⟩
    refine mm _ (Fk_xs (Fk_xs (Fk_xs (Fk_xs (Fk_xs (Fk_mono fc (fun p i q => ?_)) (by simp)) (by simp)) (by simp)) (by simp)) (by simp)) ?_ ?_ ?_
    · cases w : sF p i
      · rfl
      · rw [w] at q; simp at q
    · (try simp only [xs_fn, upI_app, Nat.reduceEqDiff, Int.reduceEq, eq_self, false_and, true_and, and_false, and_true, if_false, if_true, ↓reduceIte])
    · (try simp only [xs_fn, upI_app, Nat.reduceEqDiff, Int.reduceEq, eq_self, false_and, true_and, and_false, and_true, if_false, if_true, ↓reduceIte])
    · (try simp only [xs_fn, upI_app, Nat.reduceEqDiff, Int.reduceEq, eq_self, false_and, true_and, and_false, and_true, if_false, if_true, ↓reduceIte])
/-- one of nine days is one's own -/
theorem nine_1 {h now : Int} (hh : 0 ≤ h ∧ h < 9) : sI (fun j => if h = (now + j) % 9 then 1 else 0) 9 = 1 := by
  have key : ∀ k : Nat, (k : Int) ≤ 9 → sI (fun j => if h = (now + j) % 9 then 1 else 0) k = if (h - now) % 9 < k then 1 else 0 := by
    intro k
    induction k with
    | zero => intro _; rw [if_neg (by omega)]; rfl
    | succ k ih =>
      intro hk
      rw [show ((k + 1 : Nat) : Int) = (k : Int) + 1 from rfl, sI_s _ (by omega), ih (by omega)]
      by_cases z : (h - now) % 9 = k
      · rw [if_neg (by omega), if_pos (by omega), if_pos (by omega)]; rfl
      · rw [if_neg (show ¬ h = (now + (k : Int)) % 9 by omega)]
        by_cases z2 : (h - now) % 9 < k
        · rw [if_pos z2, if_pos (by omega)]; rfl
        · rw [if_neg z2, if_neg (by omega)]; rfl
  have := key 9 (by omega)
  rw [if_pos (by omega)] at this
  exact this
theorem sI_add {f g : Int → Int} {n : Int} (hn : 0 ≤ n) : sI (fun j => f j + g j) n = sI f n + sI g n := by
  have key : ∀ k : Nat, sI (fun j => f j + g j) k = sI f k + sI g k := by
    intro k
    induction k with
    | zero => rfl
    | succ k ih =>
      rw [show ((k + 1 : Nat) : Int) = (k : Int) + 1 from rfl, sI_s _ (by omega), sI_s _ (by omega), sI_s _ (by omega), ih]
      omega
  have := key n.toNat
  rwa [show ((n.toNat : Nat) : Int) = n by omega] at this
theorem nine_n {h : Int → Int} {now : Int} (hn : 0 ≤ n) (hh : ∀ p, 0 ≤ p → p < n → 0 ≤ h p ∧ h p < 9) : sI (fun j => cI (hfF h (now + j)) n) 9 = n := by
  have key : ∀ k : Nat, (k : Int) ≤ n → sI (fun j => cI (hfF h (now + j)) k) 9 = k := by
    intro k
    induction k with
    | zero => intro _; exact (sI_congr (g := fun _ => 0) (fun i _ _ => cI_0 _)).trans rfl
    | succ k ih =>
      intro hk
      rw [show ((k + 1 : Nat) : Int) = (k : Int) + 1 from rfl]
      rw [sI_congr (g := fun j => cI (hfF h (now + j)) k + (if h k = (now + j) % 9 then 1 else 0)) (fun j _ _ => by
        rw [cI_s _ (by omega)]
        unfold hfF
        by_cases z : h k = (now + j) % 9
        · simp [z]
        · simp [z])]
      rw [sI_add (by omega), ih (by omega), nine_1 (hh k (by omega) (by omega))]
  have := key n.toNat (by omega)
  rw [show ((n.toNat : Nat) : Int) = n by omega] at this
  exact this
end HRD
