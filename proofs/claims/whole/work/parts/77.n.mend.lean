/-! TASKS: mends, mend. -/
def mvR (d : xh_D) (j : Int) : Int := if j % 2 = 0 then d 134 (j / 2) else d 135 (j / 2)
section TSE
variable {R : xR} {b : Int} {L D : Nat} {d dx : xh_D} {e e' : xd_E}
theorem ar_eq {d1 d2 : xh_D} : ∀ (l : List (Int × Int)) (i : Int), arC d1 i l → arM d2 i l → ∀ j, 2 * i ≤ j → j < 2 * i + 2 * (l.length : Int) → mvR d1 j = d2 167 j
  | [], i, _, _, j, h1, h2 => by simp only [List.length_nil] at h2; omega
  | x :: l, i, h, h', j, h1, h2 => by
    rw [List.length_cons] at h2
    by_cases z : j = 2 * i
    · unfold mvR
      rw [if_pos (by omega), show j / 2 = i by omega, h.1, z, h'.1]
    · by_cases y : j = 2 * i + 1
      · unfold mvR
        rw [if_neg (by omega), show j / 2 = i by omega, h.2.1, y, h'.2.1]
      · exact ar_eq l (i + 1) h.2.2 h'.2.2 j (by omega) (by omega)
theorem ar_in {d1 : xh_D} {n : Int} : ∀ (l : List (Int × Int)) (i : Int), arC d1 i l → (∀ x ∈ l, (0 ≤ x.1 ∧ x.1 < n) ∧ (0 ≤ x.2 ∧ x.2 < 9)) → ∀ j, i ≤ j → j < i + (l.length : Int) → (0 ≤ d1 134 j ∧ d1 134 j < n) ∧ (0 ≤ d1 135 j ∧ d1 135 j < 9)
  | [], i, _, _, j, h1, h2 => by simp only [List.length_nil] at h2; omega
  | x :: l, i, h, hx, j, h1, h2 => by
    rw [List.length_cons] at h2
    by_cases z : j = i
    · rw [z, h.1, h.2.1]; exact hx x (List.mem_cons_self ..)
    · exact ar_in l (i + 1) h.2.2 (fun y hy => hx y (List.mem_cons_of_mem _ hy)) j (by omega) (by omega)
theorem sq_139 {k : Int} {P : xh_D → xd_E → Prop} (hD : 2 ≤ D) (hk : 0 ≤ k ∧ k ≤ 2) (h : P (xs (xwr d 5 (2 * k) (mvR d)) 4 1 (2 * k)) e) : yV D 139 L [.ref 1, .int (xJ k)] d e P := by
  refine yV_of rfl rfl rfl (by omega) (yk_139_0 (by omega) ?_)
  have hl := lp_up (n := k) (X := fun i => yB (D - 1) xm_c139 (yQv L P) L 5 [.ref 1, .int (xJ k), .int (xJ i)] [] (xs (xwr d 5 (2 * i) (mvR d)) 4 1 (2 * i)) e) hk.1 ?_ ?_
  · rw [show (2 * 0 : Int) = 0 from rfl, xwr_0] at hl; exact hl
  · intro i x y ih
    refine yk_139_5 (by omega) ?_
    rw [xs_eq]
    refine ⟨by omega, by omega, fun z => by omega, fun _ => ⟨by omega, by omega, by omega, ?_⟩⟩
    rw [show xs (xwr d 5 (2 * i) (mvR d)) 4 1 (2 * i) 134 i = d 134 i by rw [xs_np (by decide), xwr_fn (by decide)], show xs (xwr d 5 (2 * i) (mvR d)) 4 1 (2 * i) 135 i = d 135 i by rw [xs_np (by decide), xwr_fn (by decide)]]
    rw [show xs (xs (xs (xs (xs (xwr d 5 (2 * i) (mvR d)) 4 1 (2 * i)) 5 (2 * i) (d 134 i)) 4 1 (2 * i + 1)) 5 (2 * i + 1) (d 135 i)) 4 1 (2 * i + 1 + 1) = xs (xwr d 5 (2 * (i + 1)) (mvR d)) 4 1 (2 * (i + 1)) from ?_]
    · exact ih
    · have m0 : mvR d (2 * i) = d 134 i := by unfold mvR; rw [if_pos (by omega), show 2 * i / 2 = i by omega]
      have m1 : mvR d (2 * i + 1) = d 135 i := by unfold mvR; rw [if_neg (by omega), show (2 * i + 1) / 2 = i by omega]
      rw [xs_sw (q := 4) (q' := 5) (j' := 2 * i) (by omega), xs_sw (q := 4) (q' := 5) (j' := 2 * i + 1) (by omega), xs_sw (q := 4) (q' := 5) (j' := 2 * i + 1) (by omega), xs_xs, xs_xs, ← m0, ← m1, xwr_s (by omega), xwr_s (by omega), show 2 * i + 1 + 1 = 2 * (i + 1) by omega]
  · refine yk_139_5 (by omega) ⟨by omega, by omega, fun _ => h, fun z => by omega⟩
theorem sq_250 {k : Int} {P : Int → xh_D → xd_E → Prop} (hk : 0 ≤ k ∧ k ≤ 2) (hD : 1 ≤ D) (h : P k (xs (xwr d 151 (2 * k) (d 167)) 146 7 (2 * k)) e) : yB D xm_c250 (yQi L P) L 12 [.ref 146, .int (xJ k), .int (xJ (0 : Int))] [] (xs d 146 7 0) e := by
  have hl := lp_up (n := 2 * k) (X := fun i => yB D xm_c250 (yQi L P) L 12 [.ref 146, .int (xJ k), .int (xJ i)] [] (xs (xwr d 151 i (d 167)) 146 7 i) e) (by omega) ?_ ?_
  · rw [xwr_0] at hl; exact hl
  · intro i x y ih
    refine yk_250_12 hD ?_
    rw [xs_eq]
    refine ⟨by omega, by omega, fun z => by omega, fun _ => ⟨by omega, by omega, ?_⟩⟩
    rw [show xs (xwr d 151 i (d 167)) 146 7 i 167 i = d 167 i by rw [xs_np (by decide), xwr_fn (by decide)], xs_sw (q := 146) (q' := 151) (by omega), xs_xs, xwr_s x]
    exact ih
  · exact yk_250_12 hD ⟨by omega, by omega, fun _ => h, fun z => by omega⟩
theorem op_mends (hI : Inv R b d e) : Op R b b L 137 251 [] d e := by
  have hI0 := hI
  obtain ⟨hP, hT, hW, hL, hS, hU, hK, hR, hQ, hV, hH, hG⟩ := hI
  refine yC_of rfl rfl rfl (by omega) (yk_137_0 ?_)
  refine sq_70 (by omega) hI0 (fun k l d2 el f2 ar => ?_) (fun el d2 f2 => ⟨by omega, fun _ => ?_, fun z => absurd rfl z⟩)
  · obtain ⟨hk, hlen, _⟩ := fmR_ok el
    refine ⟨by omega, fun z => by omega, fun _ => sq_139 (by omega) hk ?_⟩
    have f3 : Fk sr d (xs (xs (xwr d2 5 (2 * k) (mvR d2)) 4 1 (2 * k)) 146 8 0) := Fk_xs (Fk_xs (Fk_wr (Fk_x f2) (fun _ => rfl)) rfl) rfl
    refine yC_of rfl rfl rfl (by omega) (yk_251_0 (yC_of rfl rfl rfl (by omega) (yk_250_0 ?_)))
    refine sq_248 (by omega) hI0 (fxM_k f3) (fun k' l' d4 el' f4 ar' => ?_) (fun el' => absurd (el.symm.trans el') (by simp))
    have hkl : (k, l) = (k', l') := Option.some.inj (el.symm.trans el')
    have ek : k = k' := congrArg Prod.fst hkl
    have e2 : l = l' := congrArg Prod.snd hkl
    subst ek
    subst e2
    refine ⟨by omega, fun _ => sq_250 hk (by omega) ⟨rfl, Inv_fk hI0 (Fk_xs (Fk_wr (Fk_trans f3 (Fk_m f4)) (fun _ => rfl)) rfl) Ek_refl ?_⟩, fun z => by omega⟩
    have q4 : xs (xwr d4 151 (2 * k) (d4 167)) 146 7 (2 * k) 4 1 = 2 * k := by rw [xs_np (by decide), xwr_fn (by decide), f4 4 1 rfl, xs_np (by decide), xs_eq]
    refine ⟨by omega, by rw [xs_eq, q4], fun j a c => ?_⟩
    rw [q4] at c
    rw [xs_np (by decide), xwr_at ⟨a, c⟩, xs_np (by decide), xwr_fn (by decide), Fk_p f4 (p := 5) (fun _ => rfl), xs_np (by decide), xs_np (by decide), xwr_at ⟨a, c⟩]
    exact (ar_eq l 0 ar ar' j (by omega) (by omega)).symm
  · have f3 : Fk sr d (xs d2 146 8 0) := Fk_xs (Fk_x f2) rfl
    refine yC_of rfl rfl rfl (by omega) (yk_251_0 (yC_of rfl rfl rfl (by omega) (yk_250_0 ?_)))
    refine sq_248 (by omega) hI0 (fxM_k f3) (fun k' l' d4 el' f4 ar' => absurd (el.symm.trans el') (by simp)) (fun el' d4 f4 => ⟨by omega, fun z => by omega, fun _ => ⟨rfl, Inv_fk hI0 (Fk_trans f3 (Fk_m f4)) Ek_refl (iW_fk hW ?_ ?_ ?_ ?_)⟩⟩)
    · rw [f4 4 1 rfl, xs_np (by decide), f2 4 1 rfl]
    · rw [f4 146 7 rfl, xs_ni (by decide), f2 146 7 rfl]
    · rw [Fk_p f4 (p := 5) (fun _ => rfl), xs_fn, if_neg (by decide), Fk_p f2 (p := 5) (fun _ => rfl)]
    · rw [Fk_p f4 (p := 151) (fun _ => rfl), xs_fn, if_neg (by decide), Fk_p f2 (p := 151) (fun _ => rfl)]
/-- the hood days when the first i moves are done -/
def mvA (mv mt h : Int → Int) (i : Int) : Int → Int := fI (fun j f => upI f (mv j) (mt j)) h i
theorem mvA_s {mv mt h : Int → Int} {i : Int} (hi : 0 ≤ i) : mvA mv mt h (i + 1) = upI (mvA mv mt h i) (mv i) (mt i) := fI_s _ _ hi
theorem iSt_mv {n w k : Int} {h s t l a mv mt mv' mt' : Int → Int} {bk : Nat → Int64} (hn : n ≤ 9) (q : iSt b n h s t l w bk a) (hm : ∀ j, 0 ≤ j → j < k → (0 ≤ mv j ∧ mv j < n) ∧ (0 ≤ mt j ∧ mt j < 9) ∧ mv' j = mv j ∧ mt' j = mt j) (hk : 0 ≤ k) : iSt b n (mvA mv mt h k) s t l w bk (mvA mv' mt' a k) := by
  have key : ∀ i : Nat, (i : Int) ≤ k → iSt b n (mvA mv mt h i) s t l w bk (mvA mv' mt' a i) := fun i => by
    induction i with
    | zero => intro _; exact q
    | succ i ih =>
      intro hi
      have := hm i (by omega) (by omega)
      rw [show ((i + 1 : Nat) : Int) = (i : Int) + 1 from rfl, mvA_s (by omega), mvA_s (by omega), this.2.2.1, this.2.2.2]
      exact iSt_h hn (ih (by omega)) this.1 this.2.1
  have := key k.toNat (by omega)
  rwa [show ((k.toNat : Nat) : Int) = k by omega] at this
theorem op_mend (hI : Inv R b d e) : Op R b b L 138 252 [] d e := by
  have hI0 := hI
  obtain ⟨hP, hT, hW, hL, hS, hU, hK, hR, hQ, hV, hH, hG⟩ := hI
  have p1 := hP.1
  have p2 := hP.2.1
  refine yC_of rfl rfl rfl (by omega) (yk_138_0 ?_)
  refine sq_70 (by omega) hI0 (fun k l d2 el f2 ar => ?_) (fun el d2 f2 => ⟨by omega, fun z => absurd rfl z, fun _ => ?_⟩)
  · obtain ⟨hk, hlen, hin⟩ := fmR_ok el
    refine ⟨by omega, fun _ => sq_139 (by omega) hk ?_, fun z => by omega⟩
    have c134 : xs (xwr d2 5 (2 * k) (mvR d2)) 4 1 (2 * k) 134 = d2 134 := by rw [xs_fn, if_neg (by decide), xwr_fn (by decide)]
    have c135 : xs (xwr d2 5 (2 * k) (mvR d2)) 4 1 (2 * k) 135 = d2 135 := by rw [xs_fn, if_neg (by decide), xwr_fn (by decide)]
    have c5 : ∀ j, 0 ≤ j → j < 2 * k → xs (xwr d2 5 (2 * k) (mvR d2)) 4 1 (2 * k) 5 j = mvR d2 j := fun j a c => by rw [xs_np (by decide), xwr_at ⟨a, c⟩]
    have c4 : xs (xwr d2 5 (2 * k) (mvR d2)) 4 1 (2 * k) 4 1 = 2 * k := xs_eq
    have g2 : Fk sr d (xs (xwr d2 5 (2 * k) (mvR d2)) 4 1 (2 * k)) := Fk_xs (Fk_wr (Fk_x f2) (fun _ => rfl)) rfl
    generalize hd3 : xs (xwr d2 5 (2 * k) (mvR d2)) 4 1 (2 * k) = d3
    rw [hd3] at c134 c135 c5 c4 g2
    have inr := ar_in l 0 ar hin
    refine ⟨fun z => ?_, fun z => ?_⟩
    · have k0 : k = 0 := by omega
      subst k0
      refine yk_138_26 ⟨by omega, by omega, fun _ => ?_, fun z => by omega⟩
      have f3 : Fk sr d (xs d3 146 8 0) := Fk_xs g2 rfl
      refine yC_of rfl rfl rfl (by omega) (yk_252_0 (yC_of rfl rfl rfl (by omega) (yk_250_0 ?_)))
      refine sq_248 (by omega) hI0 (fxM_k f3) (fun k' l' d4 el' f4 ar' => ?_) (fun el' => absurd (el.symm.trans el') (by simp))
      have hkl : ((0 : Int), l) = (k', l') := Option.some.inj (el.symm.trans el')
      have ek : 0 = k' := congrArg Prod.fst hkl
      subst ek
      refine ⟨by omega, fun _ => sq_250 hk (by omega) ⟨by omega, fun z => by omega, fun _ => ⟨rfl, Inv_fk hI0 (Fk_xs (Fk_wr (Fk_trans f3 (Fk_m f4)) (fun _ => rfl)) rfl) Ek_refl ?_⟩⟩, fun z => by omega⟩
      have q4 : xs (xwr d4 151 (2 * 0) (d4 167)) 146 7 (2 * 0) 4 1 = 0 := by rw [xs_np (by decide), xwr_fn (by decide), f4 4 1 rfl, xs_np (by decide), c4]; rfl
      exact ⟨by omega, by rw [xs_eq, q4]; rfl, fun j a c => by omega⟩
    · have hU3 : iU b d3 e := iU_c hU (Fk_Fz g2) (by rw [Fk_p g2 (p := 23) (fun _ => rfl)]) (by rw [Fk_p g2 (p := 23) (fun _ => rfl)]) (by rw [g2 146 31 rfl]) (by rw [g2 6 4 rfl]) (Fk_p g2 (p := 158) (fun _ => rfl))
      have hS3 : iS b d3 e := by
        unfold iS at hS ⊢
        rw [g2 6 4 rfl, Fk_p g2 (p := 12) (fun _ => rfl), Fk_p g2 (p := 13) (fun _ => rfl), Fk_p g2 (p := 14) (fun _ => rfl), Fk_p g2 (p := 15) (fun _ => rfl), g2 11 5 rfl, Fk_p g2 (p := 147) (fun _ => rfl)]
        exact hS
      have p36 : d3 6 4 = d 6 4 := g2 6 4 rfl
      refine sc_17 (by omega) hU3.2.1 hU3.1 (fun d4 e4 x => ?_)
      obtain ⟨z4, ze⟩ := RmX_z x hU3.2.1
      have y12 : d4 12 = d 12 := by rw [z4 12 (by decide) (by decide), Fk_p g2 (p := 12) (fun _ => rfl)]
      have y134 : d4 134 = d2 134 := by rw [z4 134 (by decide) (by decide), c134]
      have y135 : d4 135 = d2 135 := by rw [z4 135 (by decide) (by decide), c135]
      have y4d : ∀ p, ¬ p = 23 → (∀ i, sr p i = false) → (p < 27 ∨ 98 < p) → d4 p = d p := fun p h1 h2 h3 => by rw [z4 p h1 h3, Fk_p g2 h2]
      have ref : yC 150 252 L [.ref 146] (xpl d4 12 (mvA (d2 134) (d2 135) (d 12) k)) e4 (fun r2 d5 e5 => k = r2 ∧ Inv R b d5 e5) := by
        generalize hd5 : xpl d4 12 (mvA (d2 134) (d2 135) (d 12) k) = d5
        have y5 : ∀ p, ¬ p = 12 → d5 p = d4 p := fun p h1 => by rw [← hd5, xpl_np h1]
        have y5m : ∀ i, ¬ i = 8 → sr 146 i = false → xs d5 146 8 0 146 i = d 146 i := fun i h1 h2 => by rw [xs_ni h1, y5 146 (by decide), z4 146 (by decide) (by decide), g2 146 i h2]
        have y5x : ∀ p, ¬ p = 146 → xs d5 146 8 0 p = d5 p := fun p h1 => by rw [xs_fn, if_neg h1]
        have fx : fxM d (xs d5 146 8 0) := ⟨by rw [y5x 147 (by decide), y5 147 (by decide), y4d 147 (by decide) (fun _ => rfl) (by decide)], by rw [y5x 163 (by decide), y5 163 (by decide), y4d 163 (by decide) (fun _ => rfl) (by decide)], y5m 1 (by decide) rfl, y5m 38 (by decide) rfl⟩
        refine yC_of rfl rfl rfl (by omega) (yk_252_0 (yC_of rfl rfl rfl (by omega) (yk_250_0 ?_)))
        refine sq_248 (by omega) hI0 fx (fun k' l' d6 el' f6 ar' => ?_) (fun el' => absurd (el.symm.trans el') (by simp))
        have hkl : (k, l) = (k', l') := Option.some.inj (el.symm.trans el')
        have ek : k = k' := congrArg Prod.fst hkl
        have e2 : l = l' := congrArg Prod.snd hkl
        subst ek
        subst e2
        have eqr := ar_eq l 0 ar ar'
        refine ⟨by omega, fun _ => sq_250 hk (by omega) ?_, fun z => by omega⟩
        have w6 : ∀ p, ¬ p = 146 → (∀ i, sm p i = false) → d6 p = d5 p := fun p h1 h2 => by rw [Fk_p f6 h2, y5x p h1]
        have w6m : ∀ i, ¬ i = 8 → sr 146 i = false → d6 146 i = d 146 i := fun i h1 h2 => by
          rw [f6 146 i (by unfold sr at h2; cases h : sm 146 i <;> simp_all), y5m i h1 h2]
        have c167 : xs (xwr d6 151 (2 * k) (d6 167)) 146 7 (2 * k) 167 = d6 167 := by rw [xs_fn, if_neg (by decide), xwr_fn (by decide)]
        have fb : Fk sa d (xs (xwr d6 151 (2 * k) (d6 167)) 146 7 (2 * k)) := by
          have fa : Fk sa d d5 := by rw [← hd5]; exact Fk_pl (Fk_trans (Fk_sa g2) (RmX_fk x hU3.2.1)) (fun _ => rfl)
          exact Fk_xs (Fk_wr (Fk_trans (Fk_xs fa rfl) (Fk_sa (Fk_m f6))) (fun _ => rfl)) rfl
        generalize hd7 : xs (xwr d6 151 (2 * k) (d6 167)) 146 7 (2 * k) = d7
        rw [hd7] at c167 fb
        have w7 : ∀ p, ¬ p = 146 → ¬ p = 151 → (∀ i, sm p i = false) → d7 p = d5 p := fun p h1 h2 h3 => by rw [← hd7, xs_fn, if_neg h1, xwr_fn h2, w6 p h1 h3]
        have w7m : ∀ i, ¬ i = 7 → ¬ i = 8 → sr 146 i = false → d7 146 i = d 146 i := fun i h1 h2 h3 => by rw [← hd7, xs_ni h1, xwr_fn (by decide), w6m i h2 h3]
        refine ⟨by omega, fun _ => ?_, fun z => by omega⟩
        refine sc_226_147 (by omega) (by rw [w7m 31 (by decide) (by decide) rfl, hU.2.2.1]; exact hU.1) (fun d8 m => ?_)
        have y8 : d8 147 = d 147 := by rw [m.1 147 (by decide) (by decide), w7 147 (by decide) (by decide) (fun _ => rfl), y5 147 (by decide), y4d 147 (by decide) (fun _ => rfl) (by decide)]
        have y167 : d8 167 = d6 167 := by rw [m.1 167 (by decide) (by decide), c167]
        have mo : ∀ j, 0 ≤ j → j < k → (0 ≤ d2 134 j ∧ d2 134 j < d 6 4) ∧ (0 ≤ d2 135 j ∧ d2 135 j < 9) ∧ d6 167 (2 * j) = d2 134 j ∧ d6 167 (2 * j + 1) = d2 135 j := fun j a c => by
          have i1 := inr j (by omega) (by omega)
          have q1 := eqr (2 * j) (by omega) (by omega)
          have q2 := eqr (2 * j + 1) (by omega) (by omega)
          unfold mvR at q1 q2
          rw [if_pos (by omega), show 2 * j / 2 = j by omega] at q1
          rw [if_neg (by omega), show (2 * j + 1) / 2 = j by omega] at q2
          exact ⟨i1.1, i1.2, q1.symm, q2.symm⟩
        have hl := lp_up (n := k) (X := fun i => yB (150 - 1) xm_c252 (yQi L (fun r2 d5 e5 => k = r2 ∧ Inv R b d5 e5)) L 16 [.ref 146, .int (xJ k), .int (xJ i)] [] (xpl d8 147 (mvA (fun j => d6 167 (2 * j)) (fun j => d6 167 (2 * j + 1)) (d 147) i)) e4) hk.1 ?_ ?_
        · rw [show mvA (fun j => d6 167 (2 * j)) (fun j => d6 167 (2 * j + 1)) (d 147) 0 = d8 147 by rw [y8]; rfl, xpl_id] at hl
          exact hl
        · intro i a c ih
          have mi := mo i a c
          refine yk_252_16 ?_
          rw [xpl_np (by decide), y167]
          refine ⟨by omega, by omega, fun z => by omega, fun _ => ⟨by omega, by omega, by omega, ?_⟩⟩
          rw [xpl_s]
          rw [mvA_s a] at ih
          exact ih
        · refine yk_252_16 ⟨by omega, by omega, fun _ => ⟨rfl, ?_⟩, fun z => by omega⟩
          generalize hd9 : xpl d8 147 (mvA (fun j => d6 167 (2 * j)) (fun j => d6 167 (2 * j + 1)) (d 147) k) = d9
          have w9 : ∀ p, ¬ p = 146 → ¬ p = 147 → ¬ p = 151 → ¬ p = 158 → (∀ i, sm p i = false) → d9 p = d5 p := fun p h1 h2 h3 h4 h5 => by rw [← hd9, xpl_np h2, m.1 p h1 h4, w7 p h1 h3 h5]
          have w9d : ∀ p, ¬ p = 146 → ¬ p = 147 → ¬ p = 151 → ¬ p = 158 → ¬ p = 12 → ¬ p = 23 → (∀ i, sr p i = false) → (p < 27 ∨ 98 < p) → d9 p = d p := fun p h1 h2 h3 h4 h5 h6 h7 h8 => by
            rw [w9 p h1 h2 h3 h4 (fun i => by have := h7 i; unfold sr at this; cases h : sm p i <;> simp_all), y5 p h5, y4d p h6 h7 h8]
          refine Inv_st hI0 ?_ ?_ ?_ ?_ ?_
          · rw [← hd9]
            exact Fk_pl (Fk_trans fb (RmM_fk m)) (fun _ => rfl)
          · have q4 : d9 4 1 = 2 * k := by rw [w9 4 (by decide) (by decide) (by decide) (by decide) (fun _ => rfl), y5 4 (by decide), z4 4 (by decide) (by decide), c4]
            refine ⟨by omega, ?_, fun j a c => ?_⟩
            · rw [q4, ← hd9, xpl_np (by decide), m.2.1 7 (by decide), ← hd7, xs_eq]
            · rw [q4] at c
              rw [w9 5 (by decide) (by decide) (by decide) (by decide) (fun _ => rfl), y5 5 (by decide), z4 5 (by decide) (by decide), c5 j a c, ← hd9, xpl_np (by decide), m.1 151 (by decide) (by decide), ← hd7, xs_np (by decide), xwr_at ⟨a, c⟩]
              exact (eqr j (by omega) (by omega)).symm
          · unfold iS
            rw [w9d 6 (by decide) (by decide) (by decide) (by decide) (by decide) (by decide) (fun _ => rfl) (by decide), w9d 13 (by decide) (by decide) (by decide) (by decide) (by decide) (by decide) (fun _ => rfl) (by decide), w9d 14 (by decide) (by decide) (by decide) (by decide) (by decide) (by decide) (fun _ => rfl) (by decide), w9d 15 (by decide) (by decide) (by decide) (by decide) (by decide) (by decide) (fun _ => rfl) (by decide), w9d 11 (by decide) (by decide) (by decide) (by decide) (by decide) (by decide) (fun _ => rfl) (by decide), w9 12 (by decide) (by decide) (by decide) (by decide) (fun _ => rfl), ← hd5, xpl_at, ← hd9, xpl_at, ze 16 (by decide)]
            exact iSt_mv p1.2 hS mo hk.1
          · refine iU_rem (by rw [p36]; exact p1) hU3 hS3 x m (fun i _ _ => ?_) ?_ ?_ (fun p h1 h2 => ?_) (fun _ _ _ => rfl) ?_ ?_ ?_ ?_
            · rw [w7 147 (by decide) (by decide) (fun _ => rfl), y5 147 (by decide), z4 147 (by decide) (by decide)]
            · rw [w7m 31 (by decide) (by decide) rfl, g2 146 31 rfl]
            · rw [w7 158 (by decide) (by decide) (fun _ => rfl), y5 158 (by decide), z4 158 (by decide) (by decide)]
            · rw [w9 p (by omega) (by omega) (by omega) (by omega) (fun _ => sm_z h1 h2), y5 p (by omega)]
            · rw [w9 23 (by decide) (by decide) (by decide) (by decide) (fun _ => rfl), y5 23 (by decide)]
            · rw [← hd9, xpl_np (by decide)]
            · rw [← hd9, xpl_np (by decide)]
            · rw [w9d 6 (by decide) (by decide) (by decide) (by decide) (by decide) (by decide) (fun _ => rfl) (by decide), p36]
          · refine iK_z (Int.le_refl _) hK (fun p h1 h2 => w9d p (by omega) (by omega) (by omega) (by omega) (by omega) (by omega) (fun _ => sr_z (by omega) h2) (by omega)) (fun p h1 h2 => ze p (by omega)) ?_ ?_ ?_ ?_
            · exact w9d 26 (by decide) (by decide) (by decide) (by decide) (by decide) (by decide) (fun _ => rfl) (by decide)
            · exact w9d 174 (by decide) (by decide) (by decide) (by decide) (by decide) (by decide) (fun _ => rfl) (by decide)
            · exact w9d 175 (by decide) (by decide) (by decide) (by decide) (by decide) (by decide) (fun _ => rfl) (by decide)
            · exact w9d 176 (by decide) (by decide) (by decide) (by decide) (by decide) (by decide) (fun _ => rfl) (by decide)
      have hl := lp_up (n := k) (X := fun i => yB (150 - 1) xm_c138 (yQi L (fun r1 d1 e1 => yC 150 252 L [.ref 146] d1 e1 (fun r2 d5 e5 => r1 = r2 ∧ Inv R b d5 e5))) L 26 [.ref 1, .int (xJ k), .int (xJ i)] [] (xpl d4 12 (mvA (d2 134) (d2 135) (d 12) i)) e4) hk.1 ?_ ?_
      · rw [show mvA (d2 134) (d2 135) (d 12) 0 = d4 12 by rw [y12]; rfl, xpl_id] at hl
        exact hl
      · intro i a c ih
        have mi := inr i (by omega) (by omega)
        refine yk_138_26 ?_
        rw [xpl_np (by decide), xpl_np (by decide), y134, y135]
        refine ⟨by omega, by omega, fun z => by omega, fun _ => ⟨by omega, by omega, ?_⟩⟩
        rw [xpl_s]
        rw [mvA_s a] at ih
        exact ih
      · exact yk_138_26 ⟨by omega, by omega, fun _ => ref, fun z => by omega⟩
  · have f3 : Fk sr d (xs d2 146 8 0) := Fk_xs (Fk_x f2) rfl
    refine yC_of rfl rfl rfl (by omega) (yk_252_0 (yC_of rfl rfl rfl (by omega) (yk_250_0 ?_)))
    refine sq_248 (by omega) hI0 (fxM_k f3) (fun k' l' d4 el' f4 ar' => absurd (el.symm.trans el') (by simp)) (fun el' d4 f4 => ⟨by omega, fun z => by omega, fun _ => ⟨by omega, fun z => by omega, fun _ => ⟨rfl, Inv_fk hI0 (Fk_trans f3 (Fk_m f4)) Ek_refl (iW_fk hW ?_ ?_ ?_ ?_)⟩⟩⟩)
    · rw [f4 4 1 rfl, xs_np (by decide), f2 4 1 rfl]
    · rw [f4 146 7 rfl, xs_ni (by decide), f2 146 7 rfl]
    · rw [Fk_p f4 (p := 5) (fun _ => rfl), xs_fn, if_neg (by decide), Fk_p f2 (p := 5) (fun _ => rfl)]
    · rw [Fk_p f4 (p := 151) (fun _ => rfl), xs_fn, if_neg (by decide), Fk_p f2 (p := 151) (fun _ => rfl)]
end TSE
