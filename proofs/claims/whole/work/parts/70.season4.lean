/-! CALLS: season, an act on both sides. -/
section SE4
variable {L D : Nat} {d : xh_D} {e : xd_E}
def sB (p : Nat) (i : Int) : Bool := sD 11 p i || p == 12 || p == 13
theorem xs_up {q : Nat} {j v : Int} : xs d q j v q = upI (d q) j v := by
  funext i
  rw [xs_app, upI_app]
  simp
theorem sq_125 {p : Int} {P1 P0 : xh_D → xd_E → Prop} (hD : 3 ≤ D) (ho : xt_ok d) (hn : 0 ≤ d 6 4 ∧ d 6 4 ≤ 9) (hp : 0 ≤ p ∧ p ≤ 100) (h1 : acC (d 6 4) (xt_at d) p → P1 d e) (h0 : ¬ acC (d 6 4) (xt_at d) p → P0 d e) : yZ D 125 L [.ref 1, .int (xJ p)] d e P1 P0 := by
  have r0 := xt_at_r ho p
  have r1 := xt_at_r ho (p + 1)
  have r2 := xt_at_r ho (p + 2)
  unfold acC at h1 h0
  refine yZ_of rfl rfl rfl (by omega) (yk_125_0 (by omega) ⟨by omega, ho, fun v ev => ?_⟩)
  subst ev
  refine ⟨by omega, by omega, fun c => ⟨fun c2 => ⟨by omega, by omega, fun c3 => h1 (by omega), fun c3 => h0 (by omega)⟩, fun c2 => ⟨by omega, by omega, by omega, by omega, fun c3 => h1 (by omega), fun c3 => h0 (by omega)⟩⟩, fun c => h1 (by omega)⟩
theorem sq_126 {F : (Int → Int) → Int} {T : Int → Int} {b n p : Int} {y : yT} {P : xh_D → xd_E → Prop} (hD : 20 ≤ D) (hX : rX F (d 111 6) (d 112)) (hn6 : d 6 4 = n) (ht : ∀ i, 0 ≤ i → i < 81 → 0 ≤ d 7 i ∧ d 7 i ≤ 9) (ok : okY b n y) (hb : b < 1700000000) (ho : xt_ok d) (hT : xt_at d = T) (hp : 0 ≤ p ∧ p ≤ 100) (hv : acV T p) (hc : acC n T p) (cl : clD 11 n y.1 y.2.1 y.2.2.1 y.2.2.2 d e) (hP : ∀ d' e', Fk sB d d' → (∀ q, ¬ q = 16 → e' q = e q) → clD 11 n (acF F (d 7) n T p y).1 (acF F (d 7) n T p y).2.1 (acF F (d 7) n T p y).2.2.1 (acF F (d 7) n T p y).2.2.2 d' e' → P d' e') : yV D 126 L [.ref 1, .int (xJ p)] d e P := by
  have hn := ok.1
  have r0 := xt_at_r ho p
  have r1 := xt_at_r ho (p + 1)
  have r2 := xt_at_r ho (p + 2)
  have ed : ∀ q, xt_dig d q = xt_dg (T q) := fun q => by unfold xt_dig; rw [hT]
  rw [hT] at r0 r1 r2
  have g1 := dg_r (T (p + 1))
  obtain ⟨k1, k2, k3, k4, k5, k6, k7, k8, k9, k10⟩ := cl
  have k1' : d 12 = y.1 := k1
  have k2' : d 13 = y.2.1 := k2
  have vr : ¬ T p = 100 → 0 ≤ T (p + 1) - 97 ∧ T (p + 1) - 97 < 9 := fun z => by unfold acC at hc; omega
  refine yV_of rfl rfl rfl (by omega) (yk_126_0 (by omega) ⟨by omega, ho, fun v ev => ?_⟩)
  rw [hT] at ev ⊢
  subst ev
  rw [ed, ed]
  refine ⟨by omega, by omega, fun c => ⟨by omega, vr (by omega), ?_⟩, fun c => ⟨by omega, vr (by omega), ?_⟩, fun c => ⟨by omega, vr (by omega), ?_, ?_⟩, fun c => ⟨by omega, ?_⟩⟩
  · have ea : acF F (d 7) n T p y = (upI y.1 (T (p + 1) - 97) (xt_dg (T (p + 2))), y.2.1, y.2.2.1, y.2.2.2) := if_pos c
    rw [ea] at hP
    have z : ∀ q, ¬ q = 12 → xs d 12 (T (p + 1) - 97) (xt_dg (T (p + 2))) q = d q := fun q h => by rw [xs_fn, if_neg h]
    refine hP _ _ (Fk_xs Fk_refl (by simp [sB])) (fun _ _ => rfl) ⟨?_, ?_, ?_, ?_, ?_, k6, ?_, ?_, ?_, ?_⟩
    · show xs d 12 _ _ 12 = _
      rw [xs_up, k1']
    · rw [z _ (by decide)]; exact k2
    · rw [z _ (by decide)]; exact k3
    · rw [z _ (by decide)]; exact k4
    · rw [z _ (by decide)]; exact k5
    · rw [z _ (by decide)]; exact k7
    · rw [z _ (by decide)]; exact k8
    · rw [z _ (by decide)]; exact k9
    · rw [z _ (by decide)]; exact k10
  · have ea : acF F (d 7) n T p y = (y.1, upI y.2.1 (T (p + 1) - 97) (xt_dg (T (p + 2))), y.2.2.1, y.2.2.2) := by unfold acF; rw [if_neg (by omega), if_pos c]
    rw [ea] at hP
    have z : ∀ q, ¬ q = 13 → xs d 13 (T (p + 1) - 97) (xt_dg (T (p + 2))) q = d q := fun q h => by rw [xs_fn, if_neg h]
    refine hP _ _ (Fk_xs Fk_refl (by simp [sB])) (fun _ _ => rfl) ⟨?_, ?_, ?_, ?_, ?_, k6, ?_, ?_, ?_, ?_⟩
    · rw [z _ (by decide)]; exact k1
    · show xs d 13 _ _ 13 = _
      rw [xs_up, k2']
    · rw [z _ (by decide)]; exact k3
    · rw [z _ (by decide)]; exact k4
    · rw [z _ (by decide)]; exact k5
    · rw [z _ (by decide)]; exact k7
    · rw [z _ (by decide)]; exact k8
    · rw [z _ (by decide)]; exact k9
    · rw [z _ (by decide)]; exact k10
  · unfold acC at hc; omega
  · have ea : acF F (d 7) n T p y = (upI (upI y.1 (T (p + 1) - 97) (y.1 (T (p + 2) - 97))) (T (p + 2) - 97) (y.1 (T (p + 1) - 97)), y.2.1, y.2.2.1, y.2.2.2) := by unfold acF; rw [if_neg (by omega), if_neg (by omega), if_pos c]
    rw [ea] at hP
    have z : ∀ q u w, ¬ q = 12 → xs (xs d 12 (T (p + 1) - 97) u) 12 (T (p + 2) - 97) w q = d q := fun q u w h => by rw [xs_fn, if_neg h, xs_fn, if_neg h]
    rw [k1']
    refine hP _ _ (Fk_xs (Fk_xs Fk_refl (by simp [sB])) (by simp [sB])) (fun _ _ => rfl) ⟨?_, ?_, ?_, ?_, ?_, k6, ?_, ?_, ?_, ?_⟩
    · show xs (xs d 12 _ _) 12 _ _ 12 = _
      rw [xs_up, xs_up, k1']
    · rw [z _ _ _ (by decide)]; exact k2
    · rw [z _ _ _ (by decide)]; exact k3
    · rw [z _ _ _ (by decide)]; exact k4
    · rw [z _ _ _ (by decide)]; exact k5
    · rw [z _ _ _ (by decide)]; exact k7
    · rw [z _ _ _ (by decide)]; exact k8
    · rw [z _ _ _ (by decide)]; exact k9
    · rw [z _ _ _ (by decide)]; exact k10
  · have ea : acF F (d 7) n T p y = (y.1, y.2.1, (fI (dF F (d 7) y.1 y.2.1 n) (y.2.2.1, y.2.2.2) (max 1 (xt_dg (T (p + 1))))).1, (fI (dF F (d 7) y.1 y.2.1 n) (y.2.2.1, y.2.2.2) (max 1 (xt_dg (T (p + 1))))).2) := by unfold acF; rw [if_neg c.1, if_neg c.2.1, if_neg c.2.2]
    rw [ea] at hP
    refine sq_86_11 (F := F) (n := n) (b := b) (X := y.2.2.1) (Z := y.2.2.2) (by omega) hX hn6 ht ok (by omega) (by omega) ⟨k1, k2, k3, k4, k5, k6, k7, k8, k9, k10⟩ (fun d3 e3 f3 ef3 cl3 => ?_)
    exact hP d3 e3 (Fk_mono f3 (fun q i w => by
      unfold sB at w
      cases u : sD 11 q i
      · rfl
      · rw [u] at w; simp at w)) ef3 cl3
theorem sq_231 {F : (Int → Int) → Int} {tr T : Int → Int} {b n p a1 : Int} {y : yT} {P1 P0 : xh_D → xd_E → Prop} (hD : 118 ≤ D) (ha : 0 ≤ a1 ∧ a1 ≤ 237) (hM : rM F (d 146 16) (d 153)) (hn1 : d 146 1 = n) (ht : ∀ p g, 0 ≤ p → p < n → 0 ≤ g → g < n → d 148 (p * 9 + g) = tr (p * 9 + g) ∧ 0 ≤ tr (p * 9 + g) ∧ tr (p * 9 + g) ≤ 9) (h156 : ∀ g, 0 ≤ g → g < n → d 156 g = 0) (ok : okY b n y) (hb : b < 1700000000) (w : acW T d a1 p) (hv : acV T p) (md : mdD 147 n y.1 y.2.1 y.2.2.1 d) (h34 : d 146 34 = y.2.2.2.1) (h1 : acC n T p → ∀ d', Fk (fun p i => sm p i || p == 147 || (p == 146 && decide (i = 34))) d d' → (∀ q, ¬ q = 146 → ¬ q = 154 → ¬ q = 155 → ¬ q = 157 → ¬ q = 147 → d' q = d q) → mdD 147 n (acF F tr n T p y).1 (acF F tr n T p y).2.1 (acF F tr n T p y).2.2.1 d' → d' 146 34 = (acF F tr n T p y).2.2.2.1 → P1 d' e) (h0 : ¬ acC n T p → P0 d e) : yZ D 231 L [.ref 146, .int (xJ a1)] d e P1 P0 := by
  have hn := ok.1
  obtain ⟨w0, w1, w2, w3, w4⟩ := w
  have rg : (0 ≤ T (p + 1) - 97 ∧ T (p + 1) - 97 < 9) ∨ T p = 100 := by unfold acV lTr at hv; omega
  have dr := dg_r (T (p + 1))
  refine yZ_of rfl rfl rfl (by omega) (yk_231_0 (by omega) ?_)
  rw [w0, hn1]
  refine ⟨by omega, by omega, by omega, by unfold acV at hv; omega, fun c => ?_, fun c => ?_, fun c => ?_⟩
  · -- days
    have ea : acF F tr n T p y = (y.1, y.2.1, (fI (dF F tr y.1 y.2.1 n) (y.2.2.1, y.2.2.2) (max 1 (xt_dg (T (p + 1))))).1, (fI (dF F tr y.1 y.2.1 n) (y.2.2.1, y.2.2.2) (max 1 (xt_dg (T (p + 1))))).2) := by unfold acF; rw [if_neg (by omega), if_neg (by omega), if_neg (by omega)]
    have h1' := h1 (Or.inl c)
    rw [ea] at h1'
    rw [w1 c]
    generalize hm : max 1 (xt_dg (T (p + 1))) = m at h1' ⊢
    obtain ⟨W, hW⟩ : ∃ W : Int → dT × dZT, W = fun i => fI (dF F tr y.1 y.2.1 n) (y.2.2.1, y.2.2.2) i := ⟨_, rfl⟩
    have W0 : W 0 = (y.2.2.1, y.2.2.2) := by rw [hW]; rfl
    have Ws : ∀ i, 0 ≤ i → W (i + 1) = dF F tr y.1 y.2.1 n i (W i) := fun i a => by rw [hW]; exact fI_s _ _ a
    have Wo : ∀ i, 0 ≤ i → okD (b + i) n y.1 y.2.1 (W i).1 := fun i a => by rw [hW]; exact okD_i ok a
    have Wm : fI (dF F tr y.1 y.2.1 n) (y.2.2.1, y.2.2.2) m = W m := by rw [hW]
    rw [Wm] at h1'
    refine lp_up (n := m) (X := fun i => ∀ dc, Fk (fun p i => sm p i || p == 147 || (p == 146 && decide (i = 34))) d dc → (∀ q, ¬ q = 146 → ¬ q = 154 → ¬ q = 155 → ¬ q = 157 → ¬ q = 147 → dc q = d q) → mdD 147 n y.1 y.2.1 (W i).1 dc → dc 146 34 = (W i).2.1 → yB (D - 1) xm_c231 (yQz L P1 P0) L 21 [.ref 146, .double 0, .int (xJ m), .double 0, .int (xJ i)] [] dc e) (by omega) ?_ ?_ d Fk_refl (fun _ _ _ _ _ _ => rfl) (by rw [W0]; exact md) (by rw [W0]; exact h34)
    · intro i a ci ih dc fc qc mdc hc34
      refine yk_231_21 ⟨by omega, by omega, fun z => by omega, fun _ => ?_⟩
      refine sq_223_147 (F := F) (tr := tr) (n := n) (b := b + i) (by omega) (by rw [fc 146 16 rfl, qc 153 (by decide) (by decide) (by decide) (by decide) (by decide)]; exact hM) (by rw [fc 146 1 rfl]; exact hn1) (by rw [qc 148 (by decide) (by decide) (by decide) (by decide) (by decide)]; exact ht) (by rw [qc 156 (by decide) (by decide) (by decide) (by decide) (by decide)]; exact h156) (Wo i a) (by omega) mdc (fun d3 f3 q3 md3 r28 _ _ _ => ?_)
      have e34 : d3 146 34 = (W i).2.1 := by rw [f3 146 34 rfl, hc34]
      refine ih _ (Fk_xs (Fk_trans fc (Fk_mono f3 (fun q j u => ?_))) (by simp)) (fun q a1 a2 a3 a4 a5 => ?_) ?_ ?_
      · have : (sm q j || q == 147) = false := by
          cases v : (sm q j || q == 147)
          · rfl
          · rw [v] at u; simp at u
        exact this
      · rw [xs_fn, if_neg a1, q3 q a1 a2 a3 a4 a5, qc q a1 a2 a3 a4 a5]
      · rw [Ws i a]
        unfold mdD at md3 ⊢
        rw [show xs d3 146 34 (d3 146 34 + d3 146 28) 147 = d3 147 by rw [xs_fn, if_neg (by decide)]]
        exact md3
      · rw [xs_eq, e34, r28, Ws i a]; rfl
    · intro dc fc qc mdc hc34
      exact yk_231_21 ⟨by omega, by omega, fun _ => h1' dc fc qc mdc hc34, fun z => by omega⟩
  · -- a swap
    have hp2 : 0 ≤ T (p + 2) - 97 ∧ T (p + 2) - 97 < 9 := by unfold acV lTr at hv; omega
    rw [w2 (by omega), w3 c]
    refine ⟨by omega, by omega, hn, fun g => ⟨by omega, by omega, ?_⟩, fun g => h0 (by unfold acC; omega)⟩
    have ea : acF F tr n T p y = (upI (upI y.1 (T (p + 1) - 97) (y.1 (T (p + 2) - 97))) (T (p + 2) - 97) (y.1 (T (p + 1) - 97)), y.2.1, y.2.2.1, y.2.2.2) := by unfold acF; rw [if_neg (by omega), if_neg (by omega), if_pos c]
    have h1' := h1 (by unfold acC; omega)
    rw [ea] at h1'
    rw [(md.1 _ g.1.1 g.1.2).1, (md.1 _ g.2.1.1 g.2.1.2).1]
    have z : ∀ u v i, ¬ (0 ≤ i ∧ i < n) → xs (xs d 147 (T (p + 1) - 97) u) 147 (T (p + 2) - 97) v 147 i = d 147 i := fun u v i h => by rw [xs_ni (by omega), xs_ni (by omega)]
    refine h1' _ (Fk_xs (Fk_xs Fk_refl (by simp)) (by simp)) (fun q _ _ _ _ h5 => by rw [xs_fn, if_neg h5, xs_fn, if_neg h5]) ⟨fun q a c => ⟨?_, ?_, ?_⟩, fun q k a c a2 c2 => ?_, ?_, ?_, fun j q a c c2 a2 c3 => ?_⟩ (by rw [xs_np (by decide), xs_np (by decide)]; exact h34)
    · dsimp only
      rw [xs_app, xs_app, upI_app, upI_app]
      simp only [true_and]
      rw [(md.1 q a c).1]
    · rw [z _ _ _ (by omega)]; exact (md.1 q a c).2.1
    · rw [z _ _ _ (by omega)]; exact (md.1 q a c).2.2
    · rw [z _ _ _ (by omega)]; exact md.2.1 q k a c a2 c2
    · rw [z _ _ _ (by omega)]; exact md.2.2.1
    · rw [z _ _ _ (by omega)]; exact md.2.2.2.1
    · rw [z _ _ _ (by omega)]; exact md.2.2.2.2 j q a c c2 a2 c3
  · rw [w2 c.1, w4 c.1 c.2]
    have dg : dG8 (T (p + 2)) := by unfold acV lTr dG8 at hv; unfold dG8; omega
    refine ⟨by omega, hn, fun g => ⟨fun g2 => ⟨by omega, ?_⟩, fun g2 => ⟨by omega, ?_⟩⟩, fun g => h0 (by unfold acC; omega)⟩
    · have k9 : T p = 109 := by unfold acV at hv; omega
      have ea : acF F tr n T p y = (y.1, upI y.2.1 (T (p + 1) - 97) (xt_dg (T (p + 2))), y.2.2.1, y.2.2.2) := by unfold acF; rw [if_neg (by omega), if_pos k9]
      have h1' := h1 (by unfold acC; omega)
      rw [ea] at h1'
      have z : ∀ v i, ¬ (9 ≤ i ∧ i < 9 + n) → xs d 147 (9 + (T (p + 1) - 97)) v 147 i = d 147 i := fun v i h => by rw [xs_ni (by omega)]
      refine h1' _ (Fk_xs Fk_refl (by simp)) (fun q _ _ _ _ h5 => by rw [xs_fn, if_neg h5]) ⟨fun q a c => ⟨?_, ?_, ?_⟩, fun q k a c a2 c2 => ?_, ?_, ?_, fun j q a c c2 a2 c3 => ?_⟩ (by rw [xs_np (by decide)]; exact h34)
      · rw [z _ _ (by omega)]; exact (md.1 q a c).1
      · dsimp only
        rw [xs_app, upI_app]
        simp only [true_and]
        rw [(md.1 q a c).2.1]
        by_cases u : q = T (p + 1) - 97
        · rw [if_pos (by omega), if_pos u]
        · rw [if_neg (by omega), if_neg u]
      · rw [z _ _ (by omega)]; exact (md.1 q a c).2.2
      · rw [z _ _ (by omega)]; exact md.2.1 q k a c a2 c2
      · rw [z _ _ (by omega)]; exact md.2.2.1
      · rw [z _ _ (by omega)]; exact md.2.2.2.1
      · rw [z _ _ (by omega)]; exact md.2.2.2.2 j q a c c2 a2 c3
    · have ea : acF F tr n T p y = (upI y.1 (T (p + 1) - 97) (xt_dg (T (p + 2))), y.2.1, y.2.2.1, y.2.2.2) := if_pos g2
      have h1' := h1 (by unfold acC; omega)
      rw [ea] at h1'
      have z : ∀ v i, ¬ (0 ≤ i ∧ i < n) → xs d 147 (T (p + 1) - 97) v 147 i = d 147 i := fun v i h => by rw [xs_ni (by omega)]
      refine h1' _ (Fk_xs Fk_refl (by simp)) (fun q _ _ _ _ h5 => by rw [xs_fn, if_neg h5]) ⟨fun q a c => ⟨?_, ?_, ?_⟩, fun q k a c a2 c2 => ?_, ?_, ?_, fun j q a c c2 a2 c3 => ?_⟩ (by rw [xs_np (by decide)]; exact h34)
      · dsimp only
        rw [xs_app, upI_app]
        simp only [true_and]
        rw [(md.1 q a c).1]
      · rw [z _ _ (by omega)]; exact (md.1 q a c).2.1
      · rw [z _ _ (by omega)]; exact (md.1 q a c).2.2
      · rw [z _ _ (by omega)]; exact md.2.1 q k a c a2 c2
      · rw [z _ _ (by omega)]; exact md.2.2.1
      · rw [z _ _ (by omega)]; exact md.2.2.2.1
      · rw [z _ _ (by omega)]; exact md.2.2.2.2 j q a c c2 a2 c3
end SE4
