/-! TASKS: the reference's questions, and manned, bare. -/
def askM (m n : Int) (T c sk hd : Int → Int) (d : xh_D) : Prop := tkM m T c sk d ∧ d 146 41 = n ∧ ∀ q, 0 ≤ q → q < n → d 164 q = hd q ∧ yR (hd q)
section TSA
variable {R : xR} {b : Int} {L D : Nat} {d dx : xh_D} {e e' : xd_E} {m n : Int} {T c sk hd : Int → Int} {P : Int → xh_D → xd_E → Prop}
theorem plF_k {d' : xh_D} (h : plF d d') : Fk sm d d' := fun p i s => by
  by_cases h1 : p = 146
  · rw [h1] at s ⊢
    exact h.2 i (fun w => by rw [w] at s; exact absurd s (by decide))
  · by_cases h2 : p = 166
    · rw [h2] at s; exact absurd (show true = false from s) (by decide)
    · rw [h.1 p h1 h2]
theorem askM_c {d' : xh_D} (h : askM m n T c sk hd d) (f : plF d d') : askM m n T c sk hd d' := by
  obtain ⟨a, b, c⟩ := h
  refine ⟨tkM_c a f, ?_, ?_⟩
  · rw [f.2 41 (by decide)]; exact b
  · rw [f.1 164 (by decide) (by decide)]; exact c
theorem sq_243w {day : Int} (hD : 14 ≤ D) (a : askM m n T c sk hd d) (hday : yR day) (hn : 0 ≤ n ∧ n ≤ 10) (h : ∀ d', plF d d' → P (WN m n T c sk (fun q => !decide (hd q = day))) d' e) : yC D 243 L [.ref 146, .int (xJ day)] d e P := by
  refine sq_243 hD a.1 hday hn a.2.1 a.2.2 fun d' f w => ?_
  rw [WN_is a.1.1 hn (fun j x y => (a.1.2.2.1 j x y).2.2.1) (fun j x y => (a.1.2.2.1 j x y).2.2.2) w]
  exact h d' f
theorem sq_244 (hD : 16 ≤ D) (a : askM m n T c sk hd d) (hn : 0 ≤ n ∧ n ≤ 10) (h : ∀ d', plF d d' → P (wA m n T c sk (fun _ => true) hd) d' e) : yC D 244 L [.ref 146] d e P := by
  refine yC_of rfl rfl rfl (by omega) (yk_244_0 ?_)
  refine lp_up (n := 9) (X := fun i => ∀ d', plF d d' → yB (D - 1) xm_c244 (yQi L P) L 4 [.ref 146, .int (xJ (sI (fun h => WN m n T c sk (fun q => (fun _ => true) q && !decide (hd q = h))) i)), .int (xJ i)] [] d' e) (by omega) ?_ ?_ d ⟨fun _ _ _ => rfl, fun _ _ => rfl⟩
  · intro i x y ih d' f'
    refine yk_244_4 ⟨by omega, fun z => by omega, fun _ => sq_243w (by omega) (askM_c a f') (by omega) hn fun d2 f2 => ?_⟩
    have := sI_s (fun h => WN m n T c sk (fun q => (fun _ => true) q && !decide (hd q = h))) x
    have i2 := ih d2 (plF_t f' f2)
    rw [this] at i2
    exact i2
  · intro d' f'
    exact yk_244_4 ⟨by omega, fun _ => h d' f', fun z => by omega⟩
theorem tkP_I (hI : Inv R b d e) : tkP (d 127 8) (d 6 4) (d 128) (d 129) (d 14) := by
  obtain ⟨hP, hT, hW, hL, hS, hU, hK, hR, hQ, hV, hH, hG⟩ := hI
  exact ⟨hQ.1, hP.1, fun j a c => (hQ.2.2 j a c).2.2.1, fun j a c => (hQ.2.2 j a c).2.2.2, iS_t hS⟩
theorem sq_lookl {P : xh_D → xd_E → Prop} (hD : 4 ≤ D) (hI : Inv R b d e) (fx : Fk sr d dx) (h : ∀ d', Fk sl dx d' → tkC (d 127 8) (d 6 4) (d 128) (d 129) (d 14) d' → hdC (d 6 4) (fun _ => true) (d 12) d' → P d' e') : yV D 63 L [.ref 127, .ref 11, .int (xJ (d 6 4))] dx e' P := by
  have tp := tkP_I hI
  obtain ⟨hP, hT, hW, hL, hS, hU, hK, hR, hQ, hV, hH, hG⟩ := hI
  have c12 : dx 12 = d 12 := Fk_p fx (fun _ => rfl)
  have c14 : dx 14 = d 14 := Fk_p fx (fun _ => rfl)
  have c128 : dx 128 = d 128 := Fk_p fx (fun _ => rfl)
  have c129 : dx 129 = d 129 := Fk_p fx (fun _ => rfl)
  refine sq_63 hD tp (fx 127 8 rfl) (fun j a c => by rw [c128, c129]; exact ⟨rfl, rfl⟩) (by rw [c12]; exact iS_h hS) (fun p a c => by rw [c14]) ?_
  rw [c12]
  exact h
theorem sq_look {P : xh_D → xd_E → Prop} (hD : 4 ≤ D) (hI : Inv R b d e) (fx : Fk sr d dx) (h : ∀ d', Fk sx dx d' → tkC (d 127 8) (d 6 4) (d 128) (d 129) (d 14) d' → hdC (d 6 4) (fun _ => true) (d 12) d' → P d' e') : yV D 63 L [.ref 127, .ref 11, .int (xJ (d 6 4))] dx e' P := sq_lookl hD hI fx fun d' f => h d' (sl_x f)
/-- what the reference asks of is as it was -/
def fxM (d dx : xh_D) : Prop := dx 147 = d 147 ∧ dx 163 = d 163 ∧ dx 146 1 = d 146 1 ∧ dx 146 38 = d 146 38
theorem fxM_k (h : Fk sr d dx) : fxM d dx := ⟨Fk_p h (fun _ => rfl), Fk_p h (fun _ => rfl), h 146 1 rfl, h 146 38 rfl⟩
theorem sq_ask {P : xh_D → xd_E → Prop} (hD : 2 ≤ D) (hI : Inv R b d e) (fx : fxM d dx) (h : ∀ d', Fk sm dx d' → (∀ j, ¬ j = 41 → d' 146 j = dx 146 j) → (∀ q, ¬ q = 146 → ¬ q = 164 → ¬ q = 165 → d' q = dx q) → askM (d 127 8) (d 6 4) (d 128) (d 129) (d' 165) (d 12) d' → (∀ q, 0 ≤ q → q < d 6 4 → d' 165 q = d 14 q) → P d' e') : yV D 241 L [.ref 146] dx e' P := by
  obtain ⟨hP, hT, hW, hL, hS, hU, hK, hR, hQ, hV, hH, hG⟩ := hI
  have p2 := hP.2.1
  have c147 : dx 147 = d 147 := fx.1
  have c163 : dx 163 = d 163 := fx.2.1
  refine sq_241 hD hP.1 (by rw [fx.2.2.1, p2]) fun d' f1 f2 f3 f4 => h d' (fun p i s => ?_) f2 f1 ⟨⟨hQ.1, ?_, fun j a c => ?_, fun q _ _ => rfl⟩, f3, fun q a c => ?_⟩ (fun q a c => ?_)
  · by_cases h1 : p = 146
    · rw [h1] at s ⊢
      exact f2 i (fun w => by rw [w] at s; exact absurd s (by decide))
    · by_cases h2 : p = 164
      · rw [h2] at s; exact absurd (show true = false from s) (by decide)
      · by_cases h3 : p = 165
        · rw [h3] at s; exact absurd (show true = false from s) (by decide)
        · rw [f1 p h1 h2 h3]
  · rw [f2 38 (by decide), fx.2.2.2, hQ.2.1]
  · rw [f1 163 (by decide) (by decide) (by decide), c163]; exact hQ.2.2 j a c
  · have := hS.1 q a c
    rw [(f4 q a c).1, c147, this.2.2.2.1]
    exact ⟨rfl, by omega⟩
  · rw [(f4 q a c).2, c147, (hS.1 q a c).2.2.2.2.2]
theorem Fk_132 {d' : xh_D} (h : ∀ q, ¬ q = 132 → d' q = d q) : Fk sr d d' := fun p i s => by
  by_cases h1 : p = 132
  · rw [h1] at s; exact absurd (show true = false from s) (by decide)
  · rw [h p h1]
theorem op_manned {a1 : Int} (r1 : yR a1) (hI : Inv R b d e) : Op R b b L 134 245 [.int (xJ a1)] d e := by
  have tp := tkP_I hI
  have hI0 := hI
  obtain ⟨hP, hT, hW, hL, hS, hU, hK, hR, hQ, hV, hH, hG⟩ := hI
  have p1 := hP.1
  have p2 := hP.2.1
  refine yC_of rfl rfl rfl (by omega) (yk_134_0 (by omega) ⟨r1, fun a => ?_, fun a => ?_⟩)
  · refine sq_look (by omega) hI0 Fk_refl fun d2 f2 tk2 hc2 => ⟨by omega, ?_⟩
    rw [see_b p1.2 hc2 ⟨a.1, by omega⟩, bI_bc (by omega)]
    obtain ⟨d3, e3⟩ : ∃ d3, d3 = xs (xs (xs d2 4 1 0) 5 0 (cI (fun q => (fun _ => true) q && !decide (d 12 q = a1)) (d 6 4))) 4 1 1 := ⟨_, rfl⟩
    rw [← e3]
    have f3 : Fk sr d d3 := by rw [e3]; exact Fk_xs (Fk_xs (Fk_xs (Fk_x f2) rfl) rfl) rfl
    have tk3 : tkC (d 127 8) (d 6 4) (d 128) (d 129) (d 14) d3 := by rw [e3]; exact tkC_c tk2 (by rw [xs_np (by decide), xs_np (by decide), xs_np (by decide)]) (by rw [xs_fn, if_neg (by decide), xs_fn, if_neg (by decide), xs_fn, if_neg (by decide)]) (by rw [xs_fn, if_neg (by decide), xs_fn, if_neg (by decide), xs_fn, if_neg (by decide)]) (by rw [xs_fn, if_neg (by decide), xs_fn, if_neg (by decide), xs_fn, if_neg (by decide)])
    refine sq_65 (by omega) tp tk3 fun d4 _ f4 => ?_
    have g4 : Fk sr d d4 := Fk_trans f3 (Fk_132 f4)
    have w4 : d4 4 1 = 1 := by rw [f4 4 (by decide), e3, xs_eq]
    have w5 : d4 5 0 = cI (fun q => (fun _ => true) q && !decide (d 12 q = a1)) (d 6 4) := by rw [f4 5 (by decide), e3, xs_np (by decide), xs_eq]
    refine yC_of rfl rfl rfl (by omega) (yk_245_0 (by omega) ⟨r1, fun _ => ?_, fun a' => absurd a a'⟩)
    refine sq_ask (by omega) hI0 (dx := xs d4 146 8 0) (fxM_k (Fk_xs g4 rfl)) fun d5 k1 k2 k3 k4 k5 => ?_
    have g5 : Fk sr d (xs d5 146 7 0) := Fk_xs (Fk_trans (Fk_xs g4 rfl) (Fk_m k1)) rfl
    have c1 : xs d5 146 7 0 146 1 = d 6 4 := by rw [g5 146 1 rfl, p2]
    have c147 : xs d5 146 7 0 147 = d 147 := Fk_p g5 (fun _ => rfl)
    refine sq_217_147 (by omega) ⟨a.1, by omega⟩ (by rw [c1]; exact p1) (by rw [c1, c147]; have := iS_mh hP hS; rw [p2] at this; exact this) ?_
    rw [xs_eq]
    refine ⟨by omega, ?_⟩
    rw [c1, c147, bI_bc (by omega), show d5 146 1 = d 6 4 by rw [← c1, xs_ni (by decide)]]
    obtain ⟨d6, e6⟩ : ∃ d6, d6 = xs (xs (xs d5 146 7 0) 151 0 (d 6 4 - cI (fun p => decide (d 147 p = a1 % 9)) (d 6 4))) 146 7 (0 + 1) := ⟨_, rfl⟩
    rw [← e6]
    have g6 : Fk sr d d6 := by rw [e6]; exact Fk_xs (Fk_xs g5 rfl) rfl
    have k6 : askM (d 127 8) (d 6 4) (d 128) (d 129) (d5 165) (d 12) d6 := by
      unfold askM tkM at k4 ⊢
      have x163 : d6 163 = d5 163 := by rw [e6, xs_fn, if_neg (by decide), xs_fn, if_neg (by decide), xs_fn, if_neg (by decide)]
      have x164 : d6 164 = d5 164 := by rw [e6, xs_fn, if_neg (by decide), xs_fn, if_neg (by decide), xs_fn, if_neg (by decide)]
      have x165 : d6 165 = d5 165 := by rw [e6, xs_fn, if_neg (by decide), xs_fn, if_neg (by decide), xs_fn, if_neg (by decide)]
      have x38 : d6 146 38 = d5 146 38 := by rw [e6, xs_ni (by decide), xs_np (by decide), xs_ni (by decide)]
      have x41 : d6 146 41 = d5 146 41 := by rw [e6, xs_ni (by decide), xs_np (by decide), xs_ni (by decide)]
      rw [x163, x164, x165, x38, x41]
      exact k4
    refine sq_243w (by omega) k6 r1 (by omega) fun d7 f7 => ⟨WN_cc fun q x y => ⟨rfl, (k5 q x y).symm⟩, Inv_fk hI0 (Fk_trans g6 (Fk_m (plF_k f7))) Ek_refl (iW1 ?_ ?_ ?_)⟩
    · rw [f7.1 4 (by decide) (by decide), e6, xs_np (by decide), xs_np (by decide), xs_np (by decide), k3 4 (by decide) (by decide) (by decide), xs_np (by decide), w4]
    · rw [f7.2 7 (by decide), e6, xs_eq]; rfl
    · rw [f7.1 151 (by decide) (by decide), f7.1 5 (by decide) (by decide), e6, xs_np (by decide), xs_eq, xs_np (by decide), xs_np (by decide), xs_np (by decide), k3 5 (by decide) (by decide) (by decide), xs_np (by decide), w5]
      have s1 := cI_split (f := fun _ => true) (g := fun q => decide (d 12 q = a1)) p1.1
      have s2 : cI (fun p => decide (d 147 p = a1 % 9)) (d 6 4) = cI (fun i => (fun _ => true) i && (fun q => decide (d 12 q = a1)) i) (d 6 4) := cI_congr fun p x y => by rw [(hS.1 p x y).2.2.2.1, show a1 % 9 = a1 by omega]; rfl
      have s3 : cI (fun _ => true) (d 6 4) = d 6 4 := by
        have key : ∀ k : Nat, cI (fun _ => true) k = k := fun k => by
          induction k with
          | zero => rfl
          | succ k ih => rw [show ((k + 1 : Nat) : Int) = (k : Int) + 1 from rfl, cI_t (by omega) rfl, ih]
        have := key (d 6 4).toNat
        rwa [show (((d 6 4).toNat : Nat) : Int) = d 6 4 by omega] at this
      try dsimp only at s1 s2 s3 ⊢
      omega
  · refine yC_of rfl rfl rfl (by omega) (yk_245_0 (by omega) ⟨r1, fun a' => absurd a' a, fun _ => ⟨rfl, Inv_fk hI0 (Fk_xs Fk_refl rfl) Ek_refl (iW_fk hW ?_ ?_ ?_ ?_)⟩⟩)
    · rw [xs_np (by decide)]
    · rw [xs_ni (by decide)]
    · rw [xs_fn, if_neg (by decide)]
    · rw [xs_fn, if_neg (by decide)]
theorem op_bare (hI : Inv R b d e) : Op R b b L 135 246 [] d e := by
  have tp := tkP_I hI
  have hI0 := hI
  obtain ⟨hP, hT, hW, hL, hS, hU, hK, hR, hQ, hV, hH, hG⟩ := hI
  have p1 := hP.1
  have p2 := hP.2.1
  obtain ⟨w, ew⟩ : ∃ w : Int → Int, w = fun h => WN (d 127 8) (d 6 4) (d 128) (d 129) (d 14) (fun q => (fun _ => true) q && !decide (d 12 q = h)) := ⟨_, rfl⟩
  have wr : ∀ h, 0 ≤ w h ∧ w h ≤ 18 := fun h => by rw [ew]; exact WN_18 tp.1
  have wr' : ∀ i, 0 ≤ i → i ≤ 9 → 0 ≤ sI w i ∧ sI w i ≤ 162 := fun i x y => by have := sI_b (f := w) (n := i) (lo := 0) (hi := 18) x (fun i _ _ => wr i); omega
  refine yC_of rfl rfl rfl (by omega) (yk_135_0 ?_)
  refine sq_look (by omega) hI0 Fk_refl fun d1 f1 tk1 hc1 => ?_
  have ref : ∀ d3 : xh_D, Fk sr d d3 → d3 4 1 = 1 → d3 5 0 = sI w 9 → yC 150 246 L [.ref 146] d3 e (fun r2 d2 e2 => bI (fun h => decide (0 < w h)) 9 = r2 ∧ Inv R b d2 e2) := by
    intro d3 f3 w4 w5
    refine yC_of rfl rfl rfl (by omega) (yk_246_0 ?_)
    refine sq_ask (by omega) hI0 (dx := xs d3 146 8 0) (fxM_k (Fk_xs f3 rfl)) fun d5 k1 k2 k3 k4 k5 => ?_
    have g5 : Fk sr d d5 := Fk_trans (Fk_xs f3 rfl) (Fk_m k1)
    refine lp_up (n := 9) (X := fun i => ∀ d', plF d5 d' → yB (150 - 1) xm_c246 (yQi L (fun r2 d2 e2 => bI (fun h => decide (0 < w h)) 9 = r2 ∧ Inv R b d2 e2)) L 11 [.ref 146, .int (xJ (bI (fun h => decide (0 < w h)) i)), .int (xJ (sI w i)), .int (xJ i), .double 0] [] d' e) (by omega) ?_ ?_ d5 ⟨fun _ _ _ => rfl, fun _ _ => rfl⟩
    · intro i x y ih d' f'
      have er : WN (d 127 8) (d 6 4) (d 128) (d 129) (d5 165) (fun q => !decide (d 12 q = i)) = w i := by rw [ew]; exact WN_cc fun q x y => ⟨rfl, k5 q x y⟩
      refine yk_246_11 (by omega) ⟨by omega, fun z => by omega, fun _ => sq_243w (by omega) (askM_c k4 f') (by omega) (by omega) fun d2 f2 => ?_⟩
      rw [er]
      have i2 := ih d2 (plF_t f' f2)
      have := wr i
      rw [sI_s _ x] at i2
      refine ⟨by omega, fun z => ?_, fun z => ?_⟩
      · rw [bI_f (by omega) (by simp; omega)]; exact i2
      · rw [bI_t (by omega) (by simp; omega)]; exact i2
    · intro d' f'
      have g6 : Fk sr d d' := Fk_trans g5 (Fk_m (plF_k f'))
      refine yk_246_11 (by omega) ⟨by omega, fun _ => ⟨rfl, Inv_fk hI0 (Fk_xs (Fk_xs (Fk_xs g6 rfl) rfl) rfl) Ek_refl (iW1 ?_ ?_ ?_)⟩, fun z => by omega⟩
      · rw [xs_np (by decide), xs_np (by decide), xs_np (by decide), f'.1 4 (by decide) (by decide), k3 4 (by decide) (by decide) (by decide), xs_np (by decide), w4]
      · rw [xs_eq]; rfl
      · rw [xs_np (by decide), xs_eq, xs_np (by decide), xs_np (by decide), xs_np (by decide), f'.1 5 (by decide) (by decide), k3 5 (by decide) (by decide) (by decide), xs_np (by decide), w5]
  refine lp_up (n := 9) (X := fun i => ∀ d', tkC (d 127 8) (d 6 4) (d 128) (d 129) (d 14) d' → (∀ q, ¬ q = 132 → d' q = d1 q) → yB (150 - 1) xm_c135 (yQi L (fun r1 d1 e1 => yC 150 246 L [.ref 146] d1 e1 (fun r2 d2 e2 => r1 = r2 ∧ Inv R b d2 e2))) L 12 [.ref 1, .int (xJ (bI (fun h => decide (0 < w h)) i)), .int (xJ i)] [] d' e) (by omega) ?_ ?_ d1 tk1 (fun _ _ => rfl)
  · intro i x y ih d' tk' f'
    have hc' : hdC (d 6 4) (fun _ => true) (d 12) d' := by unfold hdC at hc1 ⊢; rw [f' 127 (by decide), f' 133 (by decide)]; exact hc1
    refine yk_135_12 (by omega) ⟨by omega, fun z => by omega, fun _ => ⟨by omega, ?_⟩⟩
    rw [see_b p1.2 hc' ⟨x, y⟩]
    refine sq_65 (by omega) tp tk' fun d2 tk2 f2 => ?_
    have i2 := ih d2 tk2 (fun q hq => by rw [f2 q hq, f' q hq])
    have := wr i
    rw [show WN (d 127 8) (d 6 4) (d 128) (d 129) (d 14) (fun q => (fun _ => true) q && !decide (d 12 q = i)) = w i by rw [ew]]
    refine ⟨by omega, fun z => ?_, fun z => ?_⟩
    · rw [bI_f (by omega) (by simp; omega)]; exact i2
    · rw [bI_t (by omega) (by simp; omega)]; exact i2
  · intro d' tk' f'
    have hc' : hdC (d 6 4) (fun _ => true) (d 12) (xs d' 4 1 0) := by unfold hdC at hc1 ⊢; rw [xs_fn, if_neg (by decide), xs_fn, if_neg (by decide), f' 127 (by decide), f' 133 (by decide)]; exact hc1
    refine yk_135_12 (by omega) ⟨by omega, fun _ => ?_, fun z => by omega⟩
    refine sq_67 (by omega) tp (tkC_c tk' (by rw [xs_np (by decide)]) (by rw [xs_fn, if_neg (by decide)]) (by rw [xs_fn, if_neg (by decide)]) (by rw [xs_fn, if_neg (by decide)])) hc' fun d2 tk2 f2 => ?_
    have z4 : d2 4 1 = 0 := by rw [f2 4 (by decide), xs_eq]
    rw [z4]
    refine ⟨by omega, ref _ (Fk_xs (Fk_xs (Fk_trans (Fk_xs (Fk_trans (Fk_x f1) (Fk_132 f')) rfl) (Fk_132 f2)) rfl) rfl) (by rw [xs_eq]; rfl) (by rw [xs_np (by decide), xs_eq, ew]; rfl)⟩
end TSA
