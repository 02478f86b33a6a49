/-! CALLS: season. -/
section SE6
variable {b : Int} {L D : Nat} {d : xh_D} {e : xd_E}
def sT (p : Nat) (i : Int) : Bool := sa p i || (p == 2 && decide (i = 1)) || (p == 146 && decide (i = 5))
theorem sT_m {d d' : xh_D} (f : Fk sa d d') : Fk sT d d' := Fk_mono f (fun p i q => by
  unfold sT at q
  cases w : sa p i
  · rfl
  · rw [w] at q; simp at q)
theorem op_season (hb : b < 1000000000) (hI : Inv iR b d e) : Op iR b (b + 720) L 121 229 [] d e := by
  have hI0 := hI
  obtain ⟨hP, hT, hW, hL, hS, hU, hK, hR, hQ, hV, hH, hG⟩ := hI
  have p1 := hP.1
  have p2 := hP.2.1
  have t1 := hT.1.1
  have t2 := hT.2.1
  obtain ⟨F, hX, hM⟩ := id hR
  have smf : ∀ i, sm 146 i = false → ¬ i = 5 → ¬ (i = 5 ∨ (8 ≤ i ∧ i ≤ 13)) := fun i h h5 c => by
    have : i = 8 ∨ i = 9 ∨ i = 10 ∨ i = 11 ∨ i = 12 ∨ i = 13 := by omega
    rcases this with rfl | rfl | rfl | rfl | rfl | rfl <;> exact absurd h (by decide)
  refine yC_of rfl rfl rfl (by omega) (yk_121_0 ?_)
  refine sq_122 (by omega) hT.1 ?_
  have rr := se_r (T := xt_at d) (N := d 2 1) t1 (min (d 2 1) 60).toNat 0 0 (by omega) (by omega)
  have et : se (xt_at d) (d 2 1) 0 0 = seF (xt_at d) (d 2 1) (min (d 2 1) 60).toNat 0 0 := by unfold se; rw [Int.sub_zero]
  generalize hr0 : seF (xt_at d) (d 2 1) (min (d 2 1) 60).toNat 0 0 = r0 at rr et
  refine ⟨by omega, fun g => ?_, fun g => ?_⟩
  · subst g
    refine sq_85 (by omega) (fun d5 z1 z2 z3 z4 z5 => ?_)
    obtain ⟨T, eT⟩ : ∃ T, xt_at d = T := ⟨_, rfl⟩
    obtain ⟨N, eN⟩ : ∃ N, d 2 1 = N := ⟨_, rfl⟩
    obtain ⟨n, en⟩ : ∃ n, d 6 4 = n := ⟨_, rfl⟩
    obtain ⟨pos, epos⟩ : ∃ pos, hpC (tSt T) N = pos := ⟨_, rfl⟩
    have kr := cI_r (tSt T) (n := N) (by omega)
    obtain ⟨K, eK⟩ : ∃ K, cI (tSt T) N = K := ⟨_, rfl⟩
    rw [eK] at kr
    have hx : ∀ j, 0 ≤ j → j < K → (0 ≤ pos j ∧ pos j < N) ∧ tSt T (pos j) = true ∧ cI (tSt T) (pos j) = j := fun j a c => by
      have := (hpC_ok (hf := tSt T) (n := N) (by omega)).2 j a (by rw [eK]; exact c)
      rw [epos] at this
      exact ⟨⟨this.1, this.2.1⟩, this.2.2.1, this.2.2.2⟩
    have val : ∀ j, 0 ≤ j → j < K → acV T (pos j) := fun j a c => by
      have hj := hx j a c
      have so := se_ok (T := T) (N := N) (by omega) (min N 60).toNat 0 0 (by omega) (by omega) (by omega) (fun _ => by simp [tSt]) (fun z => absurd rfl z) (by rw [← eT, ← eN]; exact hr0)
      exact so.2.2.2.2.2.2 (pos j) hj.1.1 hj.1.2 hj.2.1
    obtain ⟨m, hm, hB, hBm⟩ := fst_c (fun j => acC n T (pos j)) K.toNat
    generalize hXe : ((d 14, d 15, d 11 5, fun j p => d 147 (83 + 9 * j + p)) : dT) = X
    obtain ⟨Y, eY⟩ : ∃ Y : Int → yT, Y = fun j => fI (fun j y => acF F (d 7) n T (pos j) y) ((d 12, d 13, X, (0, 0, 0, fun _ => 0)) : yT) j := ⟨_, rfl⟩
    have Y0 : Y 0 = (d 12, d 13, X, (0, 0, 0, fun _ => 0)) := by rw [eY]; rfl
    have Ys : ∀ j, 0 ≤ j → Y (j + 1) = acF F (d 7) n T (pos j) (Y j) := fun j a => by rw [eY]; exact fI_s _ _ a
    have okX : okD b n (d 12) (d 13) X := by rw [← hXe, ← en]; exact iSt_ok p1 hS
    have Yo : ∀ j, 0 ≤ j → j ≤ m → okY (b + 9 * j) n (Y j) := by
      have key : ∀ k : Nat, (k : Int) ≤ m → okY (b + 9 * k) n (Y k) := by
        intro k
        induction k with
        | zero => intro _; rw [show b + 9 * ((0 : Nat) : Int) = b by omega, show ((0 : Nat) : Int) = 0 from rfl, Y0]; exact okX
        | succ k ih =>
          intro hk
          rw [show ((k + 1 : Nat) : Int) = (k : Int) + 1 from rfl, Ys k (by omega), show b + 9 * ((k : Int) + 1) = b + 9 * (k : Int) + 9 by omega]
          exact acF_ok (ih (by omega)) (val k (by omega) (by omega)) (hB k (by omega) (by omega))
      intro j a c
      have := key j.toNat (by omega)
      rwa [show ((j.toNat : Nat) : Int) = j by omega] at this
    -- the class's memory between two acts
    obtain ⟨CS, hCS⟩ : ∃ CS : Int → xh_D → xd_E → Prop, CS = fun j dc ec => ∃ d6 e6, RmO j d5 e d6 e6 ∧ (j = 0 → dc = d5 ∧ ec = e) ∧ Fk sB d6 dc ∧ (∀ q, ¬ q = 16 → ec q = e6 q) ∧ clD 11 n (Y j).1 (Y j).2.1 (Y j).2.2.1 (Y j).2.2.2 dc ec := ⟨_, rfl⟩
    have y5 : ∀ p, ¬ p = 118 → ¬ p = 126 → d5 p = d p := z1
    have u3 : 0 ≤ d5 23 3 ∧ d5 23 3 < 12 := by rw [y5 23 (by decide) (by decide)]; exact hU.2.1
    have u4 : 0 ≤ d5 23 4 ∧ d5 23 4 ≤ 12 := by rw [y5 23 (by decide) (by decide)]; exact hU.1
    have cz : ∀ j dc ec, CS j dc ec → (∀ p, ¬ p = 23 → ¬ p = 118 → ¬ p = 126 → (p < 27 ∨ 98 < p) → (∀ i, sB p i = false) → dc p = d p) := by
      intro j dc ec h p h1 h2 h3 h4 h5
      rw [hCS] at h
      obtain ⟨d6, e6, g1, g2, g3, g4, g5⟩ := h
      rw [Fk_p g3 h5, (RmO_z g1 u3).2.1 p h1 h4, y5 p h2 h3]
    have fin : ∀ dc ec fl, CS m dc ec → fl = (if m < K then 1 else 0) → yB (150 - 1) xm_c121 (yQi L (fun r1 d1 e1 => yC 150 229 L [.ref 146] d1 e1 (fun r2 d2 e2 => r1 = r2 ∧ Inv iR (b + 720) d2 e2))) L 55 [.ref 1, .double 0, .int (xJ m), .int (xJ fl), .double 0] [] dc ec := by
      sorry
    refine lp_up (n := N) (X := fun i => ∀ dc ec, CS (cI (tSt T) i) dc ec → cI (tSt T) i ≤ m → yB (150 - 1) xm_c121 (yQi L (fun r1 d1 e1 => yC 150 229 L [.ref 146] d1 e1 (fun r2 d2 e2 => r1 = r2 ∧ Inv iR (b + 720) d2 e2))) L 23 [.ref 1, .double 0, .int (xJ (cI (tSt T) i)), .int (xJ 0), .int (xJ i)] [] dc ec) (by omega) ?_ ?_ d5 e ?_ (by rw [cI_0]; omega)
    · intro i a c ih dc ec cs cm
      have cr := cI_r (tSt T) a
      have g := cz _ _ _ cs
      have g2 := g 2 (by decide) (by decide) (by decide) (by decide) (fun _ => rfl)
      have g3 := g 3 (by decide) (by decide) (by decide) (by decide) (fun _ => rfl)
      have g6 : dc 6 4 = n := by rw [g 6 (by decide) (by decide) (by decide) (by decide) (fun _ => rfl)]; exact en
      have okc : xt_ok dc := by have := hT.1; unfold xt_ok at this ⊢; rw [g2, g3]; exact this
      have ec' : xt_at dc = T := by rw [← eT]; funext p; unfold xt_at; rw [g2, g3]
      refine yk_121_23 (by omega) ?_
      rw [g2, eN, ec']
      refine ⟨by omega, by omega, fun z => by omega, fun _ => ⟨by omega, fun z => absurd rfl z, fun _ => ⟨by omega, okc, fun st => ?_, fun st => ?_⟩⟩⟩
      · have st' : tSt T i = true := by unfold tSt; simpa using st
        have hp := hpC_at (hf := tSt T) (N := N) (by omega) ⟨a, c⟩ st'
        rw [epos] at hp
        have mo := cI_mono (h := tSt T) (i := i + 1) (j := N) (by omega) (by omega)
        rw [eK, cI_t a st'] at mo
        rw [cI_t a st'] at ih
        generalize hj : cI (tSt T) i = j at cs cm cr hp mo ih
        refine sq_125 (by omega) okc (by omega) (by omega) (fun ok => ?_) (fun nok => ?_)
        · rw [g6, ec'] at ok
          have jm : j < m := by
            by_cases z : j = m
            · rw [← z, hp] at hBm; exact absurd ok (hBm (by omega))
            · omega
          have vj := val j cr.1 (by omega)
          have oj := Yo j cr.1 (by omega)
          rw [hp] at vj
          have yj : Y (j + 1) = acF F (d 7) n T i (Y j) := by rw [Ys j cr.1, hp]
          rw [hCS] at cs
          obtain ⟨d6, e6, q1, q2, q3, q4, q5⟩ := cs
          have act : ∀ d8 e8 d9 e9, RmO (j + 1) d5 e d8 e8 → Fk sB d8 d9 → (∀ q, ¬ q = 16 → e9 q = e8 q) → clD 11 n (Y j).1 (Y j).2.1 (Y j).2.2.1 (Y j).2.2.2 d9 e9 → yV (150 - 1) 126 L [.ref 1, .int (xJ i)] d9 e9 (fun d11 e12 => yB (150 - 1) xm_c121 (yQi L (fun r1 d1 e1 => yC 150 229 L [.ref 146] d1 e1 (fun r2 d2 e2 => r1 = r2 ∧ Inv iR (b + 720) d2 e2))) L 23 [.ref 1, .double 0, .int (xJ (j + 1)), .int (xJ 0), .int (xJ (i + 1))] [] d11 e12) := by
            intro d8 e8 d9 e9 w1 w2 w3 w4
            have h9 : ∀ p, ¬ p = 23 → ¬ p = 118 → ¬ p = 126 → (p < 27 ∨ 98 < p) → (∀ i, sB p i = false) → d9 p = d p := fun p a1 a2 a3 a4 a5 => by rw [Fk_p w2 a5, (RmO_z w1 u3).2.1 p a1 a4, y5 p a2 a3]
            have k2 := h9 2 (by decide) (by decide) (by decide) (by decide) (fun _ => rfl)
            have k3 := h9 3 (by decide) (by decide) (by decide) (by decide) (fun _ => rfl)
            have k7 := h9 7 (by decide) (by decide) (by decide) (by decide) (fun _ => rfl)
            refine sq_126 (F := F) (T := T) (b := b + 9 * j) (n := n) (y := Y j) (by omega) (by rw [h9 111 (by decide) (by decide) (by decide) (by decide) (fun _ => rfl), h9 112 (by decide) (by decide) (by decide) (by decide) (fun _ => rfl)]; exact hX) (by rw [h9 6 (by decide) (by decide) (by decide) (by decide) (fun _ => rfl)]; exact en) (by rw [k7]; exact iL_t hL) oj (by omega) (by have := hT.1; unfold xt_ok at this ⊢; rw [k2, k3]; exact this) (by rw [← eT]; funext p; unfold xt_at; rw [k2, k3]) (by omega) vj ok w4 (fun d' e' f' ef' cl' => ?_)
            rw [k7, ← yj] at cl'
            refine ih d' e' ?_ (by omega)
            rw [hCS]
            exact ⟨d8, e8, w1, fun z => by omega, Fk_trans w2 f', fun q hq => by rw [ef' q hq, w3 q hq], cl'⟩
          refine ⟨by omega, fun z => ?_, fun z => ?_⟩
          · refine act d6 e6 dc ec ?_ q3 q4 q5
            rcases q1 with q1 | q1
            · omega
            · exact Or.inr ⟨by omega, q1.2⟩
          · obtain ⟨rfl, rfl⟩ := q2 z
            refine sc_17 (by omega) u3 u4 (fun d8 e8 x => ?_)
            have x0 : RmO (j + 1) dc ec d8 e8 := Or.inr ⟨by omega, x⟩
            obtain ⟨xa, xz, xe⟩ := RmO_z x0 u3
            refine act d8 e8 d8 e8 x0 Fk_refl (fun _ _ => rfl) ?_
            obtain ⟨c1, c2, c3, c4, c5, c6, c7, c8, c9, c10⟩ := q5
            refine ⟨?_, ?_, ?_, ?_, ?_, ?_, ?_, ?_, ?_, ?_⟩
            · rw [xz _ (by decide) (by decide)]; exact c1
            · rw [xz _ (by decide) (by decide)]; exact c2
            · rw [xz _ (by decide) (by decide)]; exact c3
            · rw [xz _ (by decide) (by decide)]; exact c4
            · rw [xz _ (by decide) (by decide)]; exact c5
            · rw [xe _ (by decide)]; exact c6
            · rw [xz _ (by decide) (by decide)]; exact c7
            · rw [xz _ (by decide) (by decide)]; exact c8
            · rw [xz _ (by decide) (by decide)]; exact c9
            · rw [xz _ (by decide) (by decide)]; exact c10
        · rw [g6, ec'] at nok
          have jm : j = m := by
            by_cases z : j < m
            · have := hB j cr.1 z
              rw [hp] at this
              exact absurd this nok
            · omega
          rw [jm] at cs ⊢
          have f := fin dc ec 1 cs (by rw [if_pos (by omega)])
          refine yk_121_23 (by omega) ?_
          rw [g2, eN]
          exact ⟨by omega, by omega, fun _ => f, fun _ => ⟨by omega, fun _ => f, fun z => by omega⟩⟩
      · have st' : tSt T i = false := by unfold tSt; simpa using st
        rw [cI_f a st', Int.add_zero] at ih
        exact ih dc ec cs cm
    · intro dc ec cs cm
      rw [eK] at cs cm ⊢
      have : K = m := by omega
      subst this
      have g2 := cz _ _ _ cs 2 (by decide) (by decide) (by decide) (by decide) (fun _ => rfl)
      refine yk_121_23 (by omega) ?_
      rw [g2, eN]
      exact ⟨by omega, by omega, fun _ => fin dc ec 0 cs (by rw [if_neg (by omega)]), fun z => by omega⟩
    · rw [cI_0, hCS]
      refine ⟨d5, e, Or.inl ⟨by omega, rfl, rfl⟩, fun _ => ⟨rfl, rfl⟩, Fk_refl, fun _ _ => rfl, ?_⟩
      rw [Y0, ← hXe]
      refine ⟨y5 12 (by decide) (by decide), y5 13 (by decide) (by decide), y5 14 (by decide) (by decide), y5 15 (by decide) (by decide), by rw [y5 11 (by decide) (by decide)], ?_, z2, z3, z4, fun g a c => z5 g a (by omega)⟩
      rw [← en]
      exact iSt_bk hS
  · refine md_sea (d := d) (r0 := r0) (by omega) hT (by rw [xs_fn, if_neg (by decide)]) (by rw [xs_fn, if_neg (by decide)]) et (fun dc K _ _ _ _ z => absurd z g) (fun dc f1 f2 f3 _ => ⟨rfl, ?_⟩)
    refine Inv_mono (b := b) (by omega) (Inv_te hI0 (fun p h1 h2 h3 h4 h5 => ?_) (fun i h1 h2 => by rw [f2 i (smf i h1 h2), xs_np (by decide)]) (iT_0 ?_ f3))
    · sorry
    · rw [f1 2 (by decide) (by decide), xs_eq]
end SE6
