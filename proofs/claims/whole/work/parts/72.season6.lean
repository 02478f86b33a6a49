/-! CALLS: season. -/
section SE6
variable {b : Int} {L D : Nat} {d : xh_D} {e : xd_E}
def sT (p : Nat) (i : Int) : Bool := sa p i || (p == 2 && decide (i = 1)) || (p == 146 && decide (i = 5))
theorem sT_m {d d' : xh_D} (f : Fk sa d d') : Fk sT d d' := Fk_mono f (fun p i q => by
  unfold sT at q
  cases w : sa p i
  · rfl
  · rw [w] at q; simp at q)
theorem Inv_t0 {R : xR} (hI : Inv R b d e) : Inv R b (xs (xs d 2 1 0) 146 5 0) e :=
  Inv_te hI (fun p h1 h2 h3 h4 h5 => by rw [xs_fn, if_neg h3, xs_fn, if_neg h1]) (fun i _ h2 => by rw [xs_ni h2, xs_np (by decide)]) (iT_0 (by rw [xs_np (by decide), xs_eq]) (by rw [xs_eq]))
theorem sr_sa {d d' : xh_D} (f : Fk sr d d') : Fk sa d d' := Fk_mono f (fun p i q => by
  unfold sa at q
  cases w : sr p i
  · rfl
  · rw [w] at q; simp at q)
theorem s1_sT {d d' : xh_D} (f : Fk (fun p i => sm p i || p == 147 || (p == 146 && decide (i = 34))) d d') : Fk sT d d' := Fk_mono f (fun p i q => by
  show (sm p i || p == 147 || (p == 146 && decide (i = 34))) = false
  cases w : (sm p i || p == 147 || (p == 146 && decide (i = 34)))
  · rfl
  · exfalso
    rcases Bool.or_eq_true_iff.mp w with w | w
    · rcases Bool.or_eq_true_iff.mp w with w | w
      · unfold sT sa sr at q; rw [w] at q; simp at q
      · have : p = 147 := by simpa using w
        subst this; exact absurd (show true = false from q) (by decide)
    · have : p = 146 ∧ i = 34 := by simpa using w
      rw [this.1, this.2] at q; exact absurd (show true = false from q) (by decide))
theorem sT_t {d d' : xh_D} (f : Fk sT d d') (h1 : d' 2 1 = 0) (h2 : d' 146 5 = 0) : Fk sa (xs (xs d 2 1 0) 146 5 0) d' := fun p i q => by
  rw [xs_app, xs_app]
  by_cases c1 : p = 146 ∧ i = 5
  · rw [if_pos c1, c1.1, c1.2]; exact h2
  · rw [if_neg c1]
    by_cases c2 : p = 2 ∧ i = 1
    · rw [if_pos c2, c2.1, c2.2]; exact h1
    · rw [if_neg c2]
      refine f p i ?_
      unfold sT
      rw [q]
      have e1 : (p == 2 && decide (i = 1)) = false := by simp; omega
      have e2 : (p == 146 && decide (i = 5)) = false := by simp; omega
      rw [e1, e2]
      rfl
theorem op_season (hb : b < 1000000000) (hI : Inv iR b d e) : Op iR b (b + 720) L 121 229 [] d e := by
  have hI0 := hI
  obtain ⟨hP, hT, hW, hL, hS, hU, hK, hR, hQ, hV, hH, hG⟩ := hI
  have p1 := hP.1
  have p2 := hP.2.1
  have t1 := hT.1.1
  have t2 := hT.2.1
  obtain ⟨F, hX, hM⟩ := id hR
  have smf : ∀ i, sm 146 i = false → ¬ i = 5 → ¬ (i = 5 ∨ (8 ≤ i ∧ i ≤ 13)) := fun i h h5 c => by
    have : i = 8 ∨ i = 9 ∨ i = 10 ∨ i = 11 ∨ i = 12 ∨ i = 13 := by omega
    rcases this with rfl | rfl | rfl | rfl | rfl | rfl <;> exact absurd h (by decide)
  refine yC_of rfl rfl rfl (by omega) (yk_121_0 ?_)
  refine sq_122 (by omega) hT.1 ?_
  have rr := se_r (T := xt_at d) (N := d 2 1) t1 (min (d 2 1) 60).toNat 0 0 (by omega) (by omega)
  have et : se (xt_at d) (d 2 1) 0 0 = seF (xt_at d) (d 2 1) (min (d 2 1) 60).toNat 0 0 := by unfold se; rw [Int.sub_zero]
  generalize hr0 : seF (xt_at d) (d 2 1) (min (d 2 1) 60).toNat 0 0 = r0 at rr et
  refine ⟨by omega, fun g => ?_, fun g => ?_⟩
  · subst g
    refine sq_85 (by omega) (fun d5 z1 z2 z3 z4 z5 => ?_)
    obtain ⟨T, eT⟩ : ∃ T, xt_at d = T := ⟨_, rfl⟩
    obtain ⟨N, eN⟩ : ∃ N, d 2 1 = N := ⟨_, rfl⟩
    obtain ⟨n, en⟩ : ∃ n, d 6 4 = n := ⟨_, rfl⟩
    obtain ⟨pos, epos⟩ : ∃ pos, hpC (tSt T) N = pos := ⟨_, rfl⟩
    have kr := cI_r (tSt T) (n := N) (by omega)
    obtain ⟨K, eK⟩ : ∃ K, cI (tSt T) N = K := ⟨_, rfl⟩
    rw [eK] at kr
    have hx : ∀ j, 0 ≤ j → j < K → (0 ≤ pos j ∧ pos j < N) ∧ tSt T (pos j) = true ∧ cI (tSt T) (pos j) = j := fun j a c => by
      have := (hpC_ok (hf := tSt T) (n := N) (by omega)).2 j a (by rw [eK]; exact c)
      rw [epos] at this
      exact ⟨⟨this.1, this.2.1⟩, this.2.2.1, this.2.2.2⟩
    have val : ∀ j, 0 ≤ j → j < K → acV T (pos j) := fun j a c => by
      have hj := hx j a c
      have so := se_ok (T := T) (N := N) (by omega) (min N 60).toNat 0 0 (by omega) (by omega) (by omega) (fun _ => by simp [tSt]) (fun z => absurd rfl z) (by rw [← eT, ← eN]; exact hr0)
      exact so.2.2.2.2.2.2 (pos j) hj.1.1 hj.1.2 hj.2.1
    obtain ⟨m, hm, hB, hBm⟩ := fst_c (fun j => acC n T (pos j)) K.toNat
    generalize hXe : ((d 14, d 15, d 11 5, fun j p => d 147 (83 + 9 * j + p)) : dT) = X
    obtain ⟨Y, eY⟩ : ∃ Y : Int → yT, Y = fun j => fI (fun j y => acF F (d 7) n T (pos j) y) ((d 12, d 13, X, (0, 0, 0, fun _ => 0)) : yT) j := ⟨_, rfl⟩
    have Y0 : Y 0 = (d 12, d 13, X, (0, 0, 0, fun _ => 0)) := by rw [eY]; rfl
    have Ys : ∀ j, 0 ≤ j → Y (j + 1) = acF F (d 7) n T (pos j) (Y j) := fun j a => by rw [eY]; exact fI_s _ _ a
    have okX : okD b n (d 12) (d 13) X := by rw [← hXe, ← en]; exact iSt_ok p1 hS
    have Yo : ∀ j, 0 ≤ j → j ≤ m → okY (b + 9 * j) n (Y j) := by
      have key : ∀ k : Nat, (k : Int) ≤ m → okY (b + 9 * k) n (Y k) := by
        intro k
        induction k with
        | zero => intro _; rw [show b + 9 * ((0 : Nat) : Int) = b by omega, show ((0 : Nat) : Int) = 0 from rfl, Y0]; exact okX
        | succ k ih =>
          intro hk
          rw [show ((k + 1 : Nat) : Int) = (k : Int) + 1 from rfl, Ys k (by omega), show b + 9 * ((k : Int) + 1) = b + 9 * (k : Int) + 9 by omega]
          exact acF_ok (ih (by omega)) (val k (by omega) (by omega)) (hB k (by omega) (by omega))
      intro j a c
      have := key j.toNat (by omega)
      rwa [show ((j.toNat : Nat) : Int) = j by omega] at this
    -- the class's memory between two acts
    obtain ⟨CS, hCS⟩ : ∃ CS : Int → xh_D → xd_E → Prop, CS = fun j dc ec => ∃ d6 e6, RmO j d5 e d6 e6 ∧ (j = 0 → dc = d5 ∧ ec = e) ∧ Fk sB d6 dc ∧ (∀ q, ¬ q = 16 → ec q = e6 q) ∧ clD 11 n (Y j).1 (Y j).2.1 (Y j).2.2.1 (Y j).2.2.2 dc ec := ⟨_, rfl⟩
    have y5 : ∀ p, ¬ p = 118 → ¬ p = 126 → d5 p = d p := z1
    have u3 : 0 ≤ d5 23 3 ∧ d5 23 3 < 12 := by rw [y5 23 (by decide) (by decide)]; exact hU.2.1
    have u4 : 0 ≤ d5 23 4 ∧ d5 23 4 ≤ 12 := by rw [y5 23 (by decide) (by decide)]; exact hU.1
    have cz : ∀ j dc ec, CS j dc ec → (∀ p, ¬ p = 23 → ¬ p = 118 → ¬ p = 126 → (p < 27 ∨ 98 < p) → (∀ i, sB p i = false) → dc p = d p) := by
      intro j dc ec h p h1 h2 h3 h4 h5
      rw [hCS] at h
      obtain ⟨d6, e6, g1, g2, g3, g4, g5⟩ := h
      rw [Fk_p g3 h5, (RmO_z g1 u3).2.1 p h1 h4, y5 p h2 h3]
    have fin : ∀ dc ec fl, CS m dc ec → fl = (if m < K then 1 else 0) → yB (150 - 1) xm_c121 (yQi L (fun r1 d1 e1 => yC 150 229 L [.ref 146] d1 e1 (fun r2 d2 e2 => r1 = r2 ∧ Inv iR (b + 720) d2 e2))) L 55 [.ref 1, .double 0, .int (xJ m), .int (xJ fl), .double 0] [] dc ec := by
      intro dc ec fl cs hfl
      have g := cz _ _ _ cs
      have cs' := cs
      rw [hCS] at cs'
      obtain ⟨d6, e6, q1, q2, q3, q4, q5⟩ := cs'
      obtain ⟨c1, c2, c3, c4, c5, c6, c7, c8, c9, c10⟩ := id q5
      have om := Yo m (by omega) (by omega)
      have fc : Fk sa d dc := Fk_trans (Fk_trans (sr_sa (Fk_x (cp_f2 z1))) (RmO_z q1 u3).1) (sB_sa q3)
      refine yk_121_55 (by omega) ?_
      rw [c7]
      generalize hdA : xs (xs (xs (xs (xs (xs dc 2 1 0) 4 1 0) 5 0 fl) 4 1 1) 5 1 (Y m).2.2.2.1) 4 1 2 = dA
      have fA : Fk sT d dA := by rw [← hdA]; exact Fk_xs (Fk_xs (Fk_xs (Fk_xs (Fk_xs (Fk_xs (sT_m fc) rfl) rfl) rfl) rfl) rfl) rfl
      have gA : ∀ p, ¬ p = 2 → ¬ p = 4 → ¬ p = 5 → dA p = dc p := fun p h1 h2 h3 => by rw [← hdA, xs_fn, if_neg h2, xs_fn, if_neg h3, xs_fn, if_neg h2, xs_fn, if_neg h3, xs_fn, if_neg h2, xs_fn, if_neg h1]
      have gD : ∀ p, 127 ≤ p → dA p = d p := fun p h1 => by
        rw [gA p (by omega) (by omega) (by omega)]
        exact g p (by omega) (by omega) (by omega) (by omega) (fun i => by simp [sB, sD, sF]; omega)
      refine md_sea (d := d) (r0 := -1) (by omega) hT (gD 146 (by decide)) (gD 150 (by decide)) et (fun dk K' f1 f2 f3 f4 _ hK' v => ?_) (fun _ _ _ _ z => absurd rfl z)
      rw [eT, eN] at v hK'
      rw [eK] at hK'
      rw [epos] at v
      subst hK'
      have fk : Fk sT d dk := Fk_trans fA (fun p i q => by
        by_cases w1 : p = 146
        · subst w1
          have : ¬ (i = 5 ∨ (8 ≤ i ∧ i ≤ 13)) := fun w => by
            have : i = 5 ∨ i = 8 ∨ i = 9 ∨ i = 10 ∨ i = 11 ∨ i = 12 ∨ i = 13 := by omega
            rcases this with rfl | rfl | rfl | rfl | rfl | rfl | rfl <;> exact absurd q (by decide)
          exact f2 i this
        · have : ¬ p = 160 := fun z => by subst z; exact absurd (show true = false from q) (by decide)
          rw [f1 p w1 this])
      refine yk_229_47 (by omega) ?_
      rw [f4]
      refine ⟨by omega, fun _ => sc_225_147_159 (by omega) (by decide) ?_, fun z => absurd rfl z⟩
      generalize hdB : xs (xwo dk 159 0 353 (dk 147)) 146 34 0 = dB
      have fB : Fk sT d dB := by
        rw [← hdB]
        refine Fk_xs (Fk_trans fk (fun p i q => ?_)) rfl
        rw [xwo_np (fun z => by subst z; exact absurd (show true = false from q) (by decide))]
      have gB : ∀ p, ¬ p = 146 → ¬ p = 159 → ¬ p = 160 → dB p = dA p := fun p h1 h2 h3 => by
        rw [← hdB, xs_fn, if_neg h1]
        funext i
        rw [xwo_np h2, f1 p h1 h3]
      have gBm : ∀ j, ¬ (j = 5 ∨ (8 ≤ j ∧ j ≤ 13)) → ¬ j = 34 → dB 146 j = d 146 j := fun j h1 h2 => by
        rw [← hdB, xs_ni h2, xwo_np (by decide), f2 j h1, gD 146 (by decide)]
      have gB160 : ∀ j, dB 160 j = dk 160 j := fun j => by rw [← hdB, xs_np (by decide), xwo_np (by decide)]
      have gB159 : ∀ i, 0 ≤ i → i < 353 → dB 159 i = d 147 i := fun i a c => by
        rw [← hdB, xs_np (by decide), xwo_at ⟨a, by omega⟩, Int.sub_zero, f1 147 (by decide) (by decide), gD 147 (by decide)]
      have gBD : ∀ p, 127 ≤ p → ¬ p = 146 → ¬ p = 159 → ¬ p = 160 → dB p = d p := fun p h0 h1 h2 h3 => by rw [gB p h1 h2 h3, gD p h0]
      -- the end
      have last : ∀ dm, Fk (fun p i => sm p i || p == 147 || (p == 146 && decide (i = 34))) dB dm → (∀ q, ¬ q = 146 → ¬ q = 154 → ¬ q = 155 → ¬ q = 157 → ¬ q = 147 → dm q = dB q) → mdD 147 n (Y m).1 (Y m).2.1 (Y m).2.2.1 dm → dm 146 34 = (Y m).2.2.2.1 → yB (150 - 1) xm_c229 (yQi L (fun r2 d2 e2 => m = r2 ∧ Inv iR (b + 720) d2 e2)) L 77 [.ref 146, .int (xJ K'), .double 0, .int (xJ m)] [] dm ec := by
        intro dm fm qm mdm hm34
        have m31 : dm 146 31 = d 146 31 := by rw [fm 146 31 rfl, gBm 31 (by omega) (by omega)]
        have l83 : ∀ dR, RmN m 159 dm dR → yB (150 - 1) xm_c229 (yQi L (fun r2 d2 e2 => m = r2 ∧ Inv iR (b + 720) d2 e2)) L 83 [.ref 146, .int (xJ K'), .double 0, .int (xJ m)] [] dR ec := by
          intro dR nR
          obtain ⟨nRa, nRz, nRm⟩ := RmN_z nR
          have r34 : dR 146 34 = (Y m).2.2.2.1 := by rw [nRm 34 (by decide), hm34]
          have inv : m = m ∧ Inv iR (b + 720) (xs (xs (xs (xs (xs dR 146 7 0) 151 0 fl) 146 7 (0 + 1)) 151 (0 + 1) (Y m).2.2.2.1) 146 7 (0 + 1 + 1)) ec := by
            refine ⟨rfl, ?_⟩
            generalize hdZ : xs (xs (xs (xs (xs dR 146 7 0) 151 0 fl) 146 7 (0 + 1)) 151 (0 + 1) (Y m).2.2.2.1) 146 7 (0 + 1 + 1) = dZ
            have fZ : Fk sT d dZ := by rw [← hdZ]; exact Fk_xs (Fk_xs (Fk_xs (Fk_xs (Fk_xs (Fk_trans (Fk_trans fB (s1_sT fm)) (sT_m nRa)) rfl) rfl) rfl) rfl) rfl
            have gZ : ∀ p, ¬ p = 146 → ¬ p = 151 → dZ p = dR p := fun p h1 h2 => by rw [← hdZ, xs_fn, if_neg h1, xs_fn, if_neg h2, xs_fn, if_neg h1, xs_fn, if_neg h2, xs_fn, if_neg h1]
            have zA : ∀ p, p < 146 → dZ p = dA p := fun p h => by rw [gZ p (by omega) (by omega), nRz p (by omega) (by omega), qm p (by omega) (by omega) (by omega) (by omega) (by omega), gB p (by omega) (by omega) (by omega)]
            have zC : ∀ p, p < 146 → ¬ p = 2 → ¬ p = 4 → ¬ p = 5 → dZ p = dc p := fun p h h2 h3 h4 => by rw [zA p h, gA p h2 h3 h4]
            have z6 : dZ 6 4 = n := by rw [zC 6 (by decide) (by decide) (by decide) (by decide), g 6 (by decide) (by decide) (by decide) (by decide) (fun _ => rfl)]; exact en
            have zD : ∀ p, 168 ≤ p → dZ p = d p := fun p h => by rw [gZ p (by omega) (by omega), nRz p (by omega) (by omega), qm p (by omega) (by omega) (by omega) (by omega) (by omega), gBD p (by omega) (by omega) (by omega) (by omega)]
            refine Inv_st (Inv_t0 hI0) (sT_t fZ ?_ ?_) (iW2 ?_ ?_ ?_ ?_) ?_ (iU_mono (b := b) (by omega) ?_) ?_
            · rw [zA 2 (by decide), ← hdA]; rfl
            · rw [← hdZ, xs_ni (by decide), xs_np (by decide), xs_ni (by decide), xs_np (by decide), xs_ni (by decide), nRm 5 (by decide), fm 146 5 rfl, ← hdB, xs_ni (by decide), xwo_np (by decide)]; exact f3
            · rw [zA 4 (by decide), ← hdA, xs_eq]
            · rw [← hdZ, xs_eq]; rfl
            · rw [zA 5 (by decide), ← hdA, ← hdZ]; rfl
            · rw [zA 5 (by decide), ← hdA, ← hdZ]; rfl
            · show iSt (b + 720) (dZ 6 4) (dZ 12) (dZ 13) (dZ 14) (dZ 15) (dZ 11 5) (ec 16) (dZ 147)
              have c1' : dc 12 = (Y m).1 := c1
              have c2' : dc 13 = (Y m).2.1 := c2
              have c3' : dc 14 = (Y m).2.2.1.1 := c3
              have c4' : dc 15 = (Y m).2.2.1.2.1 := c4
              rw [z6, zC 12 (by decide) (by decide) (by decide) (by decide), zC 13 (by decide) (by decide) (by decide) (by decide), zC 14 (by decide) (by decide) (by decide) (by decide), zC 15 (by decide) (by decide) (by decide) (by decide), zC 11 (by decide) (by decide) (by decide) (by decide), c1', c2', c3', c4', c5, gZ 147 (by decide) (by decide), nRz 147 (by decide) (by decide)]
              exact iSt_mono (by omega) (iSt_jn om c6 mdm)
            · have hU5 : iU b d5 e := iU_c hU (fun p h1 h2 => y5 p (by omega) (by omega)) (by rw [y5 23 (by decide) (by decide)]) (by rw [y5 23 (by decide) (by decide)]) (by rw [y5 146 (by decide) (by decide)]) (by rw [y5 6 (by decide) (by decide)]) (y5 158 (by decide) (by decide))
              have hS5 : iS b d5 e := by
                unfold iS at hS ⊢
                rw [y5 6 (by decide) (by decide), y5 12 (by decide) (by decide), y5 13 (by decide) (by decide), y5 14 (by decide) (by decide), y5 15 (by decide) (by decide), y5 11 (by decide) (by decide), y5 147 (by decide) (by decide)]
                exact hS
              refine iU_rmo (d := d5) (e := e) (m := m) (q := 159) (da := dm) (d2 := dR) (by rw [y5 6 (by decide) (by decide)]; exact p1) hU5 hS5 q1 nR (fun i a c => ?_) ?_ ?_ (fun p h1 h2 => ?_) (fun p h1 h2 => q4 p (by omega)) ?_ ?_ ?_ ?_
              · rw [qm 159 (by decide) (by decide) (by decide) (by decide) (by decide), gB159 i a c, y5 147 (by decide) (by decide)]
              · rw [m31, y5 146 (by decide) (by decide)]
              · rw [qm 158 (by decide) (by decide) (by decide) (by decide) (by decide), gBD 158 (by decide) (by decide) (by decide) (by decide), y5 158 (by decide) (by decide)]
              · rw [zC p (by omega) (by omega) (by omega) (by omega), Fk_p q3 (fun i => by simp [sB, sD, sF]; omega)]
              · rw [zC 23 (by decide) (by decide) (by decide) (by decide), Fk_p q3 (fun _ => rfl)]
              · rw [gZ 158 (by decide) (by decide)]
              · rw [← hdZ, xs_ni (by decide), xs_np (by decide), xs_ni (by decide), xs_np (by decide), xs_ni (by decide)]
              · rw [z6, y5 6 (by decide) (by decide)]; exact en.symm
            · refine iK_z (by omega) hK (fun p h1 h2 => ?_) (fun p h1 h2 => ?_) ?_ (zD 174 (by decide)) (zD 175 (by decide)) (zD 176 (by decide))
              · rw [zC p (by omega) (by omega) (by omega) (by omega)]
                exact g p (by omega) (by omega) (by omega) (by omega) (fun i => by simp [sB, sD, sF]; omega)
              · rw [q4 p (by omega), (RmO_z q1 u3).2.2 p (by omega)]
              · rw [zC 26 (by decide) (by decide) (by decide) (by decide), g 26 (by decide) (by decide) (by decide) (by decide) (fun _ => rfl)]
          refine yk_229_83 (by omega) ?_
          rw [r34]
          refine ⟨by omega, by omega, fun z => ?_, fun z => ?_⟩
          · rw [hfl, if_neg (by omega)] at inv; exact inv
          · rw [hfl, if_pos (by omega)] at inv; exact inv
        refine yk_229_77 ⟨by omega, fun z => l83 dm (Or.inl ⟨z, rfl⟩), fun z => ?_⟩
        exact sc_226_159 (by omega) (by rw [m31, hU.2.2.1]; exact hU.1) (fun d2 mm => l83 d2 (Or.inr ⟨by omega, mm⟩))
      have one : ∀ j dm, 0 ≤ j → j ≤ m → j < K' → Fk (fun p i => sm p i || p == 147 || (p == 146 && decide (i = 34))) dB dm → (∀ q, ¬ q = 146 → ¬ q = 154 → ¬ q = 155 → ¬ q = 157 → ¬ q = 147 → dm q = dB q) → mdD 147 n (Y j).1 (Y j).2.1 (Y j).2.2.1 dm → dm 146 34 = (Y j).2.2.2.1 → ∀ (P1 P0 : xh_D → xd_E → Prop), (acC n T (pos j) → ∀ d', Fk (fun p i => sm p i || p == 147 || (p == 146 && decide (i = 34))) dB d' → (∀ q, ¬ q = 146 → ¬ q = 154 → ¬ q = 155 → ¬ q = 157 → ¬ q = 147 → d' q = dB q) → mdD 147 n (Y (j + 1)).1 (Y (j + 1)).2.1 (Y (j + 1)).2.2.1 d' → d' 146 34 = (Y (j + 1)).2.2.2.1 → P1 d' ec) → (¬ acC n T (pos j) → P0 dm ec) → yZ (150 - 1) 231 L [.ref 146, .int (xJ (3 * j))] dm ec P1 P0 := by
        intro j dm a c c' fm qm mdm hm34 P1 P0 h1 h0
        have v160 : ∀ i, dm 160 i = dk 160 i := fun i => by rw [qm 160 (by decide) (by decide) (by decide) (by decide) (by decide), gB160]
        refine sq_231 (F := F) (tr := d 7) (T := T) (b := b + 9 * j) (n := n) (p := pos j) (y := Y j) (by omega) (by omega) ?_ ?_ ?_ ?_ (Yo j a c) (by omega) (acW_c (v j a c') (v160 _) (v160 _) (v160 _)) (val j a c') mdm hm34 (fun ok d' f' q' md' h34' => ?_) h0
        · rw [fm 146 16 rfl, gBm 16 (by omega) (by omega), qm 153 (by decide) (by decide) (by decide) (by decide) (by decide), gBD 153 (by decide) (by decide) (by decide) (by decide)]; exact hM
        · rw [fm 146 1 rfl, gBm 1 (by omega) (by omega), p2]; exact en
        · rw [qm 148 (by decide) (by decide) (by decide) (by decide) (by decide), gBD 148 (by decide) (by decide) (by decide) (by decide), ← en]; exact (okM_i hP hL hS).2.2.2
        · rw [qm 156 (by decide) (by decide) (by decide) (by decide) (by decide), gBD 156 (by decide) (by decide) (by decide) (by decide)]; exact fun g a c => hG.2 g a (by omega)
        · rw [← Ys j a] at md' h34'
          exact h1 ok d' (Fk_trans fm f') (fun q a1 a2 a3 a4 a5 => by rw [q' q a1 a2 a3 a4 a5, qm q a1 a2 a3 a4 a5]) md' h34'
      refine lp_up (n := m) (X := fun j => ∀ dm, Fk (fun p i => sm p i || p == 147 || (p == 146 && decide (i = 34))) dB dm → (∀ q, ¬ q = 146 → ¬ q = 154 → ¬ q = 155 → ¬ q = 157 → ¬ q = 147 → dm q = dB q) → mdD 147 n (Y j).1 (Y j).2.1 (Y j).2.2.1 dm → dm 146 34 = (Y j).2.2.2.1 → yB (150 - 1) xm_c229 (yQi L (fun r2 d2 e2 => m = r2 ∧ Inv iR (b + 720) d2 e2)) L 66 [.ref 146, .int (xJ K'), .double 0, .int (xJ j)] [] dm ec) (by omega) ?_ ?_ dB Fk_refl (fun _ _ _ _ _ _ => rfl) ?_ ?_
      · intro j a c ih dm fm qm mdm hm34
        refine yk_229_66 ⟨by omega, by omega, fun z => by omega, fun _ => ?_⟩
        exact one j dm a (by omega) (by omega) fm qm mdm hm34 _ _ (fun _ d' f' q' md' h' => ih d' f' q' md' h') (fun z => absurd (hB j a c) z)
      · intro dm fm qm mdm hm34
        refine yk_229_66 ⟨by omega, by omega, fun z => last dm fm qm mdm hm34, fun z => ?_⟩
        exact one m dm (by omega) (by omega) (by omega) fm qm mdm hm34 _ _ (fun z => absurd z (hBm (by omega))) (fun _ => last dm fm qm mdm hm34)
      · rw [Y0, ← hXe, ← en]
        exact iSt_md hS (fun i a c => by rw [gBD 147 (by decide) (by decide) (by decide) (by decide)]) p1.2
      · rw [Y0, ← hdB, xs_eq]
    refine lp_up (n := N) (X := fun i => ∀ dc ec, CS (cI (tSt T) i) dc ec → cI (tSt T) i ≤ m → yB (150 - 1) xm_c121 (yQi L (fun r1 d1 e1 => yC 150 229 L [.ref 146] d1 e1 (fun r2 d2 e2 => r1 = r2 ∧ Inv iR (b + 720) d2 e2))) L 23 [.ref 1, .double 0, .int (xJ (cI (tSt T) i)), .int (xJ 0), .int (xJ i)] [] dc ec) (by omega) ?_ ?_ d5 e ?_ (by rw [cI_0]; omega)
    · intro i a c ih dc ec cs cm
      have cr := cI_r (tSt T) a
      have g := cz _ _ _ cs
      have g2 := g 2 (by decide) (by decide) (by decide) (by decide) (fun _ => rfl)
      have g3 := g 3 (by decide) (by decide) (by decide) (by decide) (fun _ => rfl)
      have g6 : dc 6 4 = n := by rw [g 6 (by decide) (by decide) (by decide) (by decide) (fun _ => rfl)]; exact en
      have okc : xt_ok dc := by have := hT.1; unfold xt_ok at this ⊢; rw [g2, g3]; exact this
      have ec' : xt_at dc = T := by rw [← eT]; funext p; unfold xt_at; rw [g2, g3]
      refine yk_121_23 (by omega) ?_
      rw [g2, eN, ec']
      refine ⟨by omega, by omega, fun z => by omega, fun _ => ⟨by omega, fun z => absurd rfl z, fun _ => ⟨by omega, okc, fun st => ?_, fun st => ?_⟩⟩⟩
      · have st' : tSt T i = true := by unfold tSt; simpa using st
        have hp := hpC_at (hf := tSt T) (N := N) (by omega) ⟨a, c⟩ st'
        rw [epos] at hp
        have mo := cI_mono (h := tSt T) (i := i + 1) (j := N) (by omega) (by omega)
        rw [eK, cI_t a st'] at mo
        rw [cI_t a st'] at ih
        generalize hj : cI (tSt T) i = j at cs cm cr hp mo ih
        refine sq_125 (by omega) okc (by omega) (by omega) (fun ok => ?_) (fun nok => ?_)
        · rw [g6, ec'] at ok
          have jm : j < m := by
            by_cases z : j = m
            · rw [← z, hp] at hBm; exact absurd ok (hBm (by omega))
            · omega
          have vj := val j cr.1 (by omega)
          have oj := Yo j cr.1 (by omega)
          rw [hp] at vj
          have yj : Y (j + 1) = acF F (d 7) n T i (Y j) := by rw [Ys j cr.1, hp]
          rw [hCS] at cs
          obtain ⟨d6, e6, q1, q2, q3, q4, q5⟩ := cs
          have act : ∀ d8 e8 d9 e9, RmO (j + 1) d5 e d8 e8 → Fk sB d8 d9 → (∀ q, ¬ q = 16 → e9 q = e8 q) → clD 11 n (Y j).1 (Y j).2.1 (Y j).2.2.1 (Y j).2.2.2 d9 e9 → yV (150 - 1) 126 L [.ref 1, .int (xJ i)] d9 e9 (fun d11 e12 => yB (150 - 1) xm_c121 (yQi L (fun r1 d1 e1 => yC 150 229 L [.ref 146] d1 e1 (fun r2 d2 e2 => r1 = r2 ∧ Inv iR (b + 720) d2 e2))) L 23 [.ref 1, .double 0, .int (xJ (j + 1)), .int (xJ 0), .int (xJ (i + 1))] [] d11 e12) := by
            intro d8 e8 d9 e9 w1 w2 w3 w4
            have h9 : ∀ p, ¬ p = 23 → ¬ p = 118 → ¬ p = 126 → (p < 27 ∨ 98 < p) → (∀ i, sB p i = false) → d9 p = d p := fun p a1 a2 a3 a4 a5 => by rw [Fk_p w2 a5, (RmO_z w1 u3).2.1 p a1 a4, y5 p a2 a3]
            have k2 := h9 2 (by decide) (by decide) (by decide) (by decide) (fun _ => rfl)
            have k3 := h9 3 (by decide) (by decide) (by decide) (by decide) (fun _ => rfl)
            have k7 := h9 7 (by decide) (by decide) (by decide) (by decide) (fun _ => rfl)
            refine sq_126 (F := F) (T := T) (b := b + 9 * j) (n := n) (y := Y j) (by omega) (by rw [h9 111 (by decide) (by decide) (by decide) (by decide) (fun _ => rfl), h9 112 (by decide) (by decide) (by decide) (by decide) (fun _ => rfl)]; exact hX) (by rw [h9 6 (by decide) (by decide) (by decide) (by decide) (fun _ => rfl)]; exact en) (by rw [k7]; exact iL_t hL) oj (by omega) (by have := hT.1; unfold xt_ok at this ⊢; rw [k2, k3]; exact this) (by rw [← eT]; funext p; unfold xt_at; rw [k2, k3]) (by omega) vj ok w4 (fun d' e' f' ef' cl' => ?_)
            rw [k7, ← yj] at cl'
            refine ih d' e' ?_ (by omega)
            rw [hCS]
            exact ⟨d8, e8, w1, fun z => by omega, Fk_trans w2 f', fun q hq => by rw [ef' q hq, w3 q hq], cl'⟩
          refine ⟨by omega, fun z => ?_, fun z => ?_⟩
          · refine act d6 e6 dc ec ?_ q3 q4 q5
            rcases q1 with q1 | q1
            · omega
            · exact Or.inr ⟨by omega, q1.2⟩
          · obtain ⟨rfl, rfl⟩ := q2 z
            refine sc_17 (by omega) u3 u4 (fun d8 e8 x => ?_)
            have x0 : RmO (j + 1) dc ec d8 e8 := Or.inr ⟨by omega, x⟩
            obtain ⟨xa, xz, xe⟩ := RmO_z x0 u3
            refine act d8 e8 d8 e8 x0 Fk_refl (fun _ _ => rfl) ?_
            obtain ⟨c1, c2, c3, c4, c5, c6, c7, c8, c9, c10⟩ := q5
            refine ⟨?_, ?_, ?_, ?_, ?_, ?_, ?_, ?_, ?_, ?_⟩
            · rw [xz _ (by decide) (by decide)]; exact c1
            · rw [xz _ (by decide) (by decide)]; exact c2
            · rw [xz _ (by decide) (by decide)]; exact c3
            · rw [xz _ (by decide) (by decide)]; exact c4
            · rw [xz _ (by decide) (by decide)]; exact c5
            · rw [xe _ (by decide)]; exact c6
            · rw [xz _ (by decide) (by decide)]; exact c7
            · rw [xz _ (by decide) (by decide)]; exact c8
            · rw [xz _ (by decide) (by decide)]; exact c9
            · rw [xz _ (by decide) (by decide)]; exact c10
        · rw [g6, ec'] at nok
          have jm : j = m := by
            by_cases z : j < m
            · have := hB j cr.1 z
              rw [hp] at this
              exact absurd this nok
            · omega
          rw [jm] at cs ⊢
          have f := fin dc ec 1 cs (by rw [if_pos (by omega)])
          refine yk_121_23 (by omega) ?_
          rw [g2, eN]
          exact ⟨by omega, by omega, fun _ => f, fun _ => ⟨by omega, fun _ => f, fun z => by omega⟩⟩
      · have st' : tSt T i = false := by unfold tSt; simpa using st
        rw [cI_f a st', Int.add_zero] at ih
        exact ih dc ec cs cm
    · intro dc ec cs cm
      rw [eK] at cs cm ⊢
      have : K = m := by omega
      subst this
      have g2 := cz _ _ _ cs 2 (by decide) (by decide) (by decide) (by decide) (fun _ => rfl)
      refine yk_121_23 (by omega) ?_
      rw [g2, eN]
      exact ⟨by omega, by omega, fun _ => fin dc ec 0 cs (by rw [if_neg (by omega)]), fun z => by omega⟩
    · rw [cI_0, hCS]
      refine ⟨d5, e, Or.inl ⟨by omega, rfl, rfl⟩, fun _ => ⟨rfl, rfl⟩, Fk_refl, fun _ _ => rfl, ?_⟩
      rw [Y0, ← hXe]
      refine ⟨y5 12 (by decide) (by decide), y5 13 (by decide) (by decide), y5 14 (by decide) (by decide), y5 15 (by decide) (by decide), by rw [y5 11 (by decide) (by decide)], ?_, z2, z3, z4, fun g a c => z5 g a (by omega)⟩
      rw [← en]
      exact iSt_bk hS
  · refine md_sea (d := d) (r0 := r0) (by omega) hT (by rw [xs_fn, if_neg (by decide)]) (by rw [xs_fn, if_neg (by decide)]) et (fun dc K _ _ _ _ z => absurd z g) (fun dc f1 f2 f3 _ => ⟨rfl, ?_⟩)
    refine Inv_mono (b := b) (by omega) (Inv_fk (Inv_t0 hI0) (fun p i q => ?_) Ek_refl (iW_fk hW ?_ ?_ ?_ ?_))
    · by_cases c1 : p = 146
      · subst c1
        by_cases c2 : i = 5
        · rw [c2, xs_eq]; exact f3
        · have : ¬ (i = 5 ∨ (8 ≤ i ∧ i ≤ 13)) := fun c => by
            have : i = 8 ∨ i = 9 ∨ i = 10 ∨ i = 11 ∨ i = 12 ∨ i = 13 := by omega
            rcases this with rfl | rfl | rfl | rfl | rfl | rfl <;> exact absurd q (by decide)
          rw [f2 i this, xs_ni c2]
      · have : ¬ p = 160 := fun z => by subst z; exact absurd (show true = false from q) (by decide)
        rw [f1 p c1 this, xs_np c1]
    · rw [f1 4 (by decide) (by decide), xs_np (by decide)]
    · rw [f2 7 (by omega), xs_np (by decide)]
    · rw [f1 5 (by decide) (by decide), xs_fn, if_neg (by decide)]
    · rw [f1 151 (by decide) (by decide), xs_fn, if_neg (by decide)]
end SE6
