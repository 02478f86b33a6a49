/-! CALLS: town. -/
section TW4
variable {R : xR} {b : Int} {L D : Nat} {d : xh_D} {e : xd_E}
theorem tw_r {T : Int → Int} {N : Int} (hN : 0 ≤ N ∧ N ≤ 80) : ∀ (f : Nat) (rm k l i : Int), 0 ≤ i → i + f ≤ 80 → -1 ≤ twF T N f rm k l i ∧ twF T N f rm k l i ≤ 80 := by
  intro f
  induction f with
  | zero =>
    intro rm k l i h1 h2
    simp only [twF]
    split
    · split <;> omega
    · omega
  | succ f ih =>
    intro rm k l i h1 h2
    simp only [twF]
    split
    · split
      · exact ih _ _ _ _ (by omega) (by omega)
      · split
        · omega
        · split
          · omega
          · exact ih _ _ _ _ (by omega) (by omega)
    · split
      · split
        · omega
        · exact ih _ _ _ _ (by omega) (by omega)
      · omega
theorem sq_102 {P : Int → xh_D → xd_E → Prop} (hD : 8 ≤ D) (ho : xt_ok d) (hn : 0 ≤ d 6 4 ∧ d 6 4 ≤ 9) (hK : d 6 4 + cI (tSt (xt_at d)) (d 2 1) ≤ 9) (h : ∀ dc, (∀ q, ¬ q = 6 → ¬ q = 12 → ¬ q = 13 → ¬ q = 14 → dc q = d q) → dc 6 4 = d 6 4 + cI (tSt (xt_at d)) (d 2 1) → (∀ q, 0 ≤ q → q < d 6 4 + cI (tSt (xt_at d)) (d 2 1) → (dc 12 q = if q < d 6 4 then d 12 q else tH (xt_at d) (d 2 1) (q - d 6 4)) ∧ (dc 13 q = if q < d 6 4 then d 13 q else tM (xt_at d) (d 2 1) (q - d 6 4)) ∧ (dc 14 q = if q < d 6 4 then d 14 q else tT (xt_at d) (d 2 1) (q - d 6 4))) → P (cI (tSt (xt_at d)) (d 2 1)) (xs dc 23 4 0) e) : yC D 102 L [.ref 1] d e P := by
  have o1 := ho.1
  generalize hT : xt_at d = T at hK h
  refine yC_of rfl rfl rfl (by omega) (yk_102_0 ?_)
  refine lp_up (n := d 2 1) (X := fun i => ∀ dc, (∀ q, ¬ q = 6 → ¬ q = 12 → ¬ q = 13 → ¬ q = 14 → dc q = d q) → dc 6 4 = d 6 4 + cI (tSt T) i → (∀ q, 0 ≤ q → q < d 6 4 + cI (tSt T) i → (dc 12 q = if q < d 6 4 then d 12 q else tH T (d 2 1) (q - d 6 4)) ∧ (dc 13 q = if q < d 6 4 then d 13 q else tM T (d 2 1) (q - d 6 4)) ∧ (dc 14 q = if q < d 6 4 then d 14 q else tT T (d 2 1) (q - d 6 4))) → yB (D - 1) xm_c102 (yQi L P) L 4 [.ref 1, .int (xJ (cI (tSt T) i)), .int (xJ i)] [] dc e) o1.1 ?_ ?_ d (fun _ _ _ _ _ => rfl) (by rw [cI_0, Int.add_zero]) (fun q a c => ?_)
  · intro i a c ih dc fc c6 cv
    have e2 := fc 2 (by decide) (by decide) (by decide) (by decide)
    have e3 := fc 3 (by decide) (by decide) (by decide) (by decide)
    have okc : xt_ok dc := by unfold xt_ok at ho ⊢; rw [e2, e3]; exact ho
    have ec : xt_at dc = T := by rw [← hT]; funext p; unfold xt_at; rw [e2, e3]
    have ed : ∀ p, xt_dig dc p = xt_dg (T p) := fun p => by unfold xt_dig; rw [ec]
    have cr := cI_r (tSt T) a
    refine yk_102_4 (by omega) ?_
    rw [e2, ec]
    refine ⟨by omega, by omega, fun z => by omega, fun _ => ⟨by omega, okc, fun st => ⟨by omega, ?_⟩, fun st => ?_⟩⟩
    · have st' : tSt T i = true := by unfold tSt; simpa using st
      have hp := hpC_at (hf := tSt T) (N := d 2 1) o1.1 ⟨a, c⟩ st'
      have mo := cI_mono (h := tSt T) (i := i + 1) (j := d 2 1) (by omega) (by omega)
      rw [cI_t a st'] at ih mo
      refine sq_103 (by omega) okc (by omega) ?_
      rw [c6, ed, ed, ec, e2]
      refine ⟨by omega, ih _ (fun q h1 h2 h3 h4 => ?_) ?_ (fun q a2 c2 => ?_)⟩
      · rw [xs_fn, if_neg h1, xs_fn, if_neg h4, xs_fn, if_neg h3, xs_fn, if_neg h2]
        exact fc q h1 h2 h3 h4
      · rw [xs_eq]; omega
      · rw [xs_np (by decide), xs_np (by decide), xs_np (by decide), xs_np (p := 13) (by decide), xs_np (p := 13) (by decide), xs_np (p := 14) (by decide)]
        simp only [xs_app, true_and]
        by_cases z : q = d 6 4 + cI (tSt T) i
        · rw [if_pos z, if_pos z, if_pos z, if_neg (by omega), if_neg (by omega), if_neg (by omega), show q - d 6 4 = cI (tSt T) i by omega]
          unfold tH tM tT
          rw [hp]
          exact ⟨rfl, rfl, rfl⟩
        · rw [if_neg z, if_neg z, if_neg z]
          have := cv q a2 (by omega)
          simpa using this
    · have st' : tSt T i = false := by unfold tSt; simpa using st
      rw [cI_f a st', Int.add_zero] at ih
      exact ih dc fc c6 cv
  · intro dc fc c6 cv
    refine yk_102_4 (by omega) ?_
    rw [fc 2 (by decide) (by decide) (by decide) (by decide)]
    exact ⟨by omega, by omega, fun _ => h dc fc c6 cv, fun z => by omega⟩
  · rw [cI_0, Int.add_zero] at c
    rw [if_pos c, if_pos c, if_pos c]
    exact ⟨rfl, rfl, rfl⟩
theorem md_town {dx : xh_D} {r0 : Int} {P : Int → xh_D → xd_E → Prop} (hD : 12 ≤ D) (hP : iP d) (hT : iT d) (hN : ¬ d 2 1 = 0) (h146 : dx 146 = d 146) (h150 : dx 150 = d 150) (hr : tw (xt_at d) (d 2 1) (9 - d 6 4) 0 (-1) 0 = r0) (hs : ∀ dc K, (∀ q, ¬ q = 146 → ¬ q = 152 → dc q = dx q) → (∀ j, ¬ (j = 5 ∨ (8 ≤ j ∧ j ≤ 13)) → dc 146 j = dx 146 j) → dc 146 5 = 0 → r0 = -1 → K = cI (tSt (xt_at d)) (d 2 1) → (∀ j, 0 ≤ j → j < K → dc 152 (3 * j) = tH (xt_at d) (d 2 1) j ∧ dc 152 (3 * j + 1) = tM (xt_at d) (d 2 1) j ∧ dc 152 (3 * j + 2) = tT (xt_at d) (d 2 1) j) → yB (D - 1) xm_c197 (yQi L P) L 68 [.ref 146, .int (xJ K), .double 0, .int (xJ 0)] [] dc e) (hf : ∀ dc, (∀ q, ¬ q = 146 → ¬ q = 152 → dc q = dx q) → (∀ j, ¬ (j = 5 ∨ (8 ≤ j ∧ j ≤ 13)) → dc 146 j = dx 146 j) → dc 146 5 = 0 → ¬ r0 = -1 → P (-1 - r0) dc e) : yC D 197 L [.ref 146] dx e P := by
  have t1 := hT.1.1
  have t2 := hT.2.1
  have p1 := hP.1
  have p2 := hP.2.1
  refine yC_of rfl rfl rfl (by omega) (yk_197_0 (by omega) ?_)
  rw [h146, t2]
  refine ⟨by omega, fun _ => ?_, fun z => absurd z hN⟩
  generalize hdM : xs (xs (xs (xs (xs (xs (xs dx 146 8 0) 146 9 150) 146 10 (d 2 1)) 146 11 76) 146 12 0) 146 13 (-1)) 146 5 0 = dM
  have mp : ∀ q, ¬ q = 146 → dM q = dx q := fun q h => by rw [← hdM]; funext i; rw [xs_np h, xs_np h, xs_np h, xs_np h, xs_np h, xs_np h, xs_np h]
  have mj : ∀ j, ¬ (j = 5 ∨ (8 ≤ j ∧ j ≤ 13)) → dM 146 j = dx 146 j := fun j h => by
    rw [← hdM, xs_ni (by omega), xs_ni (by omega), xs_ni (by omega), xs_ni (by omega), xs_ni (by omega), xs_ni (by omega), xs_ni (by omega)]
  have m5 : dM 146 5 = 0 := by rw [← hdM, xs_eq]
  have fr : ∀ dc, rdF dM dc → (∀ q, ¬ q = 146 → ¬ q = 152 → dc q = dx q) ∧ (∀ j, ¬ (j = 5 ∨ (8 ≤ j ∧ j ≤ 13)) → dc 146 j = dx 146 j) ∧ dc 146 5 = 0 := fun dc f => ⟨fun q a c => by rw [f.1 q a c, mp q a], fun j a => by rw [f.2 j (by omega) (by omega), mj j a], by rw [f.2 5 (by decide) (by decide), m5]⟩
  refine sq_197 (T := xt_at d) (N := d 2 1) (n := d 6 4) (r0 := r0) (d := dM) (by omega) p1 (by rw [mj 1 (by omega), h146, p2]) (fun dc K f g1 g2 g3 => ?_) (fun dc f g => ?_) (9 - d 6 4).toNat 0 0 dM (by omega) (by omega) rdF_r ?_ (by omega) (by simp [tSt]) rfl ?_ (fun j a c => by omega)
  · have := fr dc f
    exact hs dc K this.1 this.2.1 this.2.2 g1 g2 g3
  · have := fr dc f
    exact hf dc this.1 this.2.1 this.2.2 g
  · refine ⟨?_, ?_, ?_, ?_, ?_, t1, by omega, by omega, fun j a c => ⟨?_, ?_⟩⟩
    · rw [← hdM]; rfl
    · rw [← hdM]; rfl
    · rw [← hdM]; rfl
    · rw [← hdM]; rfl
    · rw [← hdM]; rfl
    · unfold xt_at; rw [if_pos ⟨a, c⟩]; exact hT.1.2 j a c
    · rw [mp 150 (by decide), h150, hT.2.2 j a c]
      unfold xt_at; rw [if_pos ⟨a, c⟩]
  · rw [← hr, show (((9 - d 6 4).toNat : Nat) : Int) = 9 - d 6 4 by omega]
theorem op_town (hI : Inv R b d e) : Op R b b L 100 197 [] d e := by
  have hI0 := hI
  obtain ⟨hP, hT, hW, hL, hS, hU, hK, hR, hQ, hV, hH, hG⟩ := hI
  have p1 := hP.1
  have p2 := hP.2.1
  have t1 := hT.1.1
  have t2 := hT.2.1
  have smf : ∀ i, sm 146 i = false → ¬ i = 5 → ¬ (i = 5 ∨ (8 ≤ i ∧ i ≤ 13)) := fun i h h5 c => by
    have : i = 8 ∨ i = 9 ∨ i = 10 ∨ i = 11 ∨ i = 12 ∨ i = 13 := by omega
    rcases this with rfl | rfl | rfl | rfl | rfl | rfl <;> exact absurd h (by decide)
  refine yC_of rfl rfl rfl (by omega) (yk_100_0 ⟨by omega, fun c => ?_, fun c => ?_⟩)
  · refine sq_101 (by omega) hT.1 p1 ?_
    have rr := tw_r (T := xt_at d) (N := d 2 1) t1 (min (d 2 1) 76).toNat (9 - d 6 4) 0 (-1) 0 (by omega) (by omega)
    have et : tw (xt_at d) (d 2 1) (9 - d 6 4) 0 (-1) 0 = twF (xt_at d) (d 2 1) (min (d 2 1) 76).toNat (9 - d 6 4) 0 (-1) 0 := by unfold tw; rw [Int.sub_zero]
    generalize hr0 : twF (xt_at d) (d 2 1) (min (d 2 1) 76).toNat (9 - d 6 4) 0 (-1) 0 = r0 at rr et
    refine ⟨by omega, fun g => ?_, fun g => ?_⟩
    · refine md_town (d := d) (r0 := r0) (by omega) hP hT c (by rw [xs_fn, if_neg (by decide)]) (by rw [xs_fn, if_neg (by decide)]) et (fun dc K _ _ _ z => absurd z g) (fun dc f1 f2 f3 _ => ⟨rfl, ?_⟩)
      refine Inv_te hI0 (fun p h1 h2 h3 h4 h5 => by rw [f1 p h3 h5, xs_fn, if_neg h1]) (fun i h1 h2 => by rw [f2 i (smf i h1 h2), xs_np (by decide)]) (iT_0 ?_ f3)
      rw [f1 2 (by decide) (by decide), xs_eq]
    · subst g
      obtain ⟨-, k1, -, -, k2⟩ := tw_ok (T := xt_at d) (N := d 2 1) t1.1 (min (d 2 1) 76).toNat (9 - d 6 4) 0 (-1) 0 (by omega) (by omega) (by omega) (by omega) (by omega) (by omega) (fun _ => by simp [tSt]) (fun z => absurd rfl z) hr0
      rw [if_pos rfl, cI_0] at k1
      have ln : ∀ j, 0 ≤ j → j < cI (tSt (xt_at d)) (d 2 1) → (0 ≤ tH (xt_at d) (d 2 1) j ∧ tH (xt_at d) (d 2 1) j < 9) ∧ (0 ≤ tM (xt_at d) (d 2 1) j ∧ tM (xt_at d) (d 2 1) j < 9) ∧ 0 ≤ tT (xt_at d) (d 2 1) j ∧ tT (xt_at d) (d 2 1) j < 64 := fun j a cj => by
        have hx := (hpC_ok (hf := tSt (xt_at d)) (n := d 2 1) t1.1).2 j a cj
        have l := k2 _ hx.1 hx.2.1 hx.2.2.1
        unfold tH tM tT
        refine ⟨?_, ?_, l.2.2⟩
        · have := l.1; unfold tDg at this; unfold xt_dg; rw [if_pos (by omega)]; omega
        · have := l.2.1; unfold tDg at this; unfold xt_dg; rw [if_pos (by omega)]; omega
      have kp : 0 < cI (tSt (xt_at d)) (d 2 1) := by
        have := cI_mono (h := tSt (xt_at d)) (i := 0 + 1) (j := d 2 1) (by omega) (by omega)
        rw [cI_t (by omega) (by simp [tSt]), cI_0] at this
        omega
      refine sq_102 (by omega) hT.1 p1 (by omega) (fun dc fc c6 cv => ?_)
      generalize hK : cI (tSt (xt_at d)) (d 2 1) = K at k1 ln kp c6 cv
      generalize hdx : xs (xs dc 23 4 0) 2 1 0 = dx
      have gx : ∀ p, ¬ p = 2 → ¬ p = 6 → ¬ p = 12 → ¬ p = 13 → ¬ p = 14 → ¬ p = 23 → dx p = d p := fun p h1 h2 h3 h4 h5 h6 => by
        rw [← hdx, xs_fn, if_neg h1, xs_fn, if_neg h6, fc p h2 h3 h4 h5]
      have gy : ∀ p, ¬ p = 2 → ¬ p = 23 → dx p = dc p := fun p h1 h6 => by rw [← hdx, xs_fn, if_neg h1, xs_fn, if_neg h6]
      refine md_town (d := d) (r0 := -1) (by omega) hP hT c (gx 146 (by decide) (by decide) (by decide) (by decide) (by decide) (by decide)) (gx 150 (by decide) (by decide) (by decide) (by decide) (by decide) (by decide)) et (fun dm K' f1 f2 f3 _ hK' v => ?_) (fun _ _ _ _ z => absurd rfl z)
      rw [hK] at hK'
      subst hK'
      have m146 : ∀ i, sm 146 i = false → ¬ i = 5 → dm 146 i = d 146 i := fun i h1 h2 => by rw [f2 i (smf i h1 h2), gx 146 (by decide) (by decide) (by decide) (by decide) (by decide) (by decide)]
      refine lp_up (n := K') (X := fun k => ∀ dk, cmK dm (d 6 4) k (tH (xt_at d) (d 2 1)) (tM (xt_at d) (d 2 1)) (tT (xt_at d) (d 2 1)) dk → yB (150 - 1) xm_c197 (yQi L (fun r2 d2 e2 => K' = r2 ∧ Inv R b d2 e2)) L 68 [.ref 146, .int (xJ K'), .double 0, .int (xJ k)] [] dk e) (by omega) ?_ ?_ dm ?_
      · intro k a ck ih dk q
        have vk := v k a ck
        refine yk_197_68 ?_
        rw [q.1 152 (by decide) (by decide) (by decide) (by decide), vk.1, vk.2.1, vk.2.2]
        refine ⟨by omega, by omega, fun z => by omega, fun _ => ⟨by omega, by omega, by omega, ?_⟩⟩
        exact sc_199 (by omega) (by rw [q.2.2.1]; omega) (fun d3 m => ih d3 (cmK_s (by omega) q m))
      · intro dk q
        refine yk_197_68 ⟨by omega, by omega, fun _ => ⟨rfl, ?_⟩, fun z => by omega⟩
        refine Inv_come (d1 := dm) (k := K') (h := tH (xt_at d) (d 2 1)) (s := tM (xt_at d) (d 2 1)) (t := tT (xt_at d) (d 2 1)) hI0 (by omega) ln (fun p h1 h2 h3 h4 h5 h6 h7 h8 => by rw [f1 p h7 h8, gx p h1 h2 h3 h4 h5 h6]) (iT_0 ?_ f3) ?_ (fun q a c => ?_) (fun q a c => ?_) (fun q a c => ?_) ⟨?_, ?_⟩ m146 kp q
        · rw [f1 2 (by decide) (by decide), ← hdx, xs_eq]
        · rw [f1 6 (by decide) (by decide), gy 6 (by decide) (by decide)]; exact c6
        · rw [f1 12 (by decide) (by decide), gy 12 (by decide) (by decide)]; exact (cv q a c).1
        · rw [f1 13 (by decide) (by decide), gy 13 (by decide) (by decide)]; exact (cv q a c).2.1
        · rw [f1 14 (by decide) (by decide), gy 14 (by decide) (by decide)]; exact (cv q a c).2.2
        · rw [f1 23 (by decide) (by decide), ← hdx, xs_np (by decide), xs_ni (by decide), fc 23 (by decide) (by decide) (by decide) (by decide)]
        · rw [f1 23 (by decide) (by decide), ← hdx, xs_np (by decide), xs_eq]
      · refine ⟨fun _ _ _ _ _ => rfl, fun _ _ _ _ => rfl, ?_, by omega, fun c => by omega, fun q _ _ => by omega, fun q _ _ => ⟨rfl, rfl, rfl, fun _ _ _ => rfl, fun _ _ _ => rfl⟩, rfl, rfl, fun i _ _ => ⟨fun _ => rfl, fun _ _ => by omega⟩, fun i _ _ => ⟨fun _ => rfl, fun _ _ => by omega⟩⟩
        rw [m146 1 rfl (by decide)]
        omega
  · refine yC_of rfl rfl rfl (by omega) (yk_197_0 (by omega) ?_)
    rw [t2]
    refine ⟨by omega, fun z => absurd c z, fun _ => ⟨rfl, ?_⟩⟩
    refine Inv_te hI0 (fun p h1 h2 h3 h4 h5 => ?_) (fun i h1 h2 => ?_) (iT_0 ?_ (by rw [xs_eq]))
    · funext i; rw [xs_np h3, xs_np h3, xs_np h3, xs_np h3, xs_np h3, xs_np h3, xs_np h3]
    · have := smf i h1 h2
      rw [xs_ni (by omega), xs_ni (by omega), xs_ni (by omega), xs_ni (by omega), xs_ni (by omega), xs_ni (by omega), xs_ni (by omega)]
    · rw [xs_np (by decide), xs_np (by decide), xs_np (by decide), xs_np (by decide), xs_np (by decide), xs_np (by decide), xs_np (by decide)]; exact c
end TW4
