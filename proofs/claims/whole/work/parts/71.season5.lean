/-! CALLS: season. -/
section SE5
variable {b : Int} {L D : Nat} {d : xh_D} {e : xd_E}
theorem fst_c (B : Int → Prop) (k : Nat) : ∃ m : Int, (0 ≤ m ∧ m ≤ k) ∧ (∀ i, 0 ≤ i → i < m → B i) ∧ (m < k → ¬ B m) := by
  induction k with
  | zero => exact ⟨0, by omega, fun i a c => by omega, fun z => by omega⟩
  | succ k ih =>
    obtain ⟨m, hm, hB, h⟩ := ih
    by_cases z : m < k
    · exact ⟨m, by omega, hB, fun _ => h z⟩
    · by_cases w : B m
      · exact ⟨m + 1, by omega, fun i a c => by
          by_cases y : i = m
          · rw [y]; exact w
          · exact hB i a (by omega), fun y => by omega⟩
      · exact ⟨m, by omega, hB, fun _ => w⟩
theorem md_sea {dx : xh_D} {r0 : Int} {P : Int → xh_D → xd_E → Prop} (hD : 13 ≤ D) (hT : iT d) (h146 : dx 146 = d 146) (h150 : dx 150 = d 150) (hr : se (xt_at d) (d 2 1) 0 0 = r0) (hs : ∀ dc K, (∀ q, ¬ q = 146 → ¬ q = 160 → dc q = dx q) → (∀ j, ¬ (j = 5 ∨ (8 ≤ j ∧ j ≤ 13)) → dc 146 j = dx 146 j) → dc 146 5 = 0 → dc 146 13 = -1 → r0 = -1 → K = cI (tSt (xt_at d)) (d 2 1) → (∀ j, 0 ≤ j → j < K → acW (xt_at d) dc (3 * j) (hpC (tSt (xt_at d)) (d 2 1) j)) → yB (D - 1) xm_c229 (yQi L P) L 47 [.ref 146, .int (xJ K), .double 0, .double 0] [] dc e) (hf : ∀ dc, (∀ q, ¬ q = 146 → ¬ q = 160 → dc q = dx q) → (∀ j, ¬ (j = 5 ∨ (8 ≤ j ∧ j ≤ 13)) → dc 146 j = dx 146 j) → dc 146 5 = 0 → ¬ r0 = -1 → P (-1 - r0) dc e) : yC D 229 L [.ref 146] dx e P := by
  have t1 := hT.1.1
  have t2 := hT.2.1
  refine yC_of rfl rfl rfl (by omega) (yk_229_0 (by omega) ?_)
  rw [h146, t2]
  generalize hdM : xs (xs (xs (xs (xs (xs (xs dx 146 8 0) 146 9 150) 146 10 (d 2 1)) 146 11 60) 146 12 0) 146 13 (-1)) 146 5 0 = dM
  have mp : ∀ q, ¬ q = 146 → dM q = dx q := fun q h => by rw [← hdM]; funext i; rw [xs_np h, xs_np h, xs_np h, xs_np h, xs_np h, xs_np h, xs_np h]
  have mj : ∀ j, ¬ (j = 5 ∨ (8 ≤ j ∧ j ≤ 13)) → dM 146 j = dx 146 j := fun j h => by
    rw [← hdM, xs_ni (by omega), xs_ni (by omega), xs_ni (by omega), xs_ni (by omega), xs_ni (by omega), xs_ni (by omega), xs_ni (by omega)]
  have m5 : dM 146 5 = 0 := by rw [← hdM, xs_eq]
  have m10 : dM 146 10 = d 2 1 := by rw [← hdM]; rfl
  have m12 : dM 146 12 = 0 := by rw [← hdM]; rfl
  have m13 : dM 146 13 = -1 := by rw [← hdM]; rfl
  have fr : ∀ dc, rgA dM dc → (∀ q, ¬ q = 146 → ¬ q = 160 → dc q = dx q) ∧ (∀ j, ¬ (j = 5 ∨ (8 ≤ j ∧ j ≤ 13)) → dc 146 j = dx 146 j) ∧ dc 146 5 = 0 := fun dc f => ⟨fun q a c => by rw [f.1 q a c, mp q a], fun j a => by rw [f.2 j (by omega) (by omega), mj j a], by rw [f.2 5 (by decide) (by decide), m5]⟩
  have hTo : xt_at d (d 2 1) = -1 := if_neg (by omega)
  refine ⟨by omega, fun z => ?_, fun z => ?_⟩
  · have z0 : d 2 1 = 0 := by omega
    have rr : r0 = -1 := by rw [← hr, se_e (by omega), z0]; rfl
    refine yk_229_22 (by omega) ⟨by omega, fun _ => ?_, fun y => absurd rfl y⟩
    refine yk_229_38 (by omega) ?_
    rw [m12, m10]
    refine ⟨by omega, by omega, fun _ => ?_, fun y => by omega⟩
    exact hs dM 0 (fun q a _ => mp q a) mj m5 m13 rr (by rw [z0]; rfl) (fun j a c => by omega)
  · refine sq_229r (T := xt_at d) (N := d 2 1) (r0 := r0) (d := dM) (by omega) (by omega) hTo (fun dc K f g0 g1 g2 g3 => ?_) (fun dc f g => ?_) 100 0 0 dM (by omega) (by omega) (by omega) rgA_r ?_ (by omega) (by simp [tSt]) rfl hr (fun j a c => by omega)
    · have := fr dc f
      exact hs dc K this.1 this.2.1 this.2.2 g0 g1 g2 g3
    · have := fr dc f
      exact hf dc this.1 this.2.1 this.2.2 g
    · refine ⟨?_, m10, ?_, m12, m13, t1, by omega, by omega, fun j a c => ⟨?_, ?_⟩⟩
      · rw [← hdM]; rfl
      · rw [← hdM]; rfl
      · unfold xt_at; rw [if_pos ⟨a, c⟩]; exact hT.1.2 j a c
      · rw [mp 150 (by decide), h150, hT.2.2 j a c]
        unfold xt_at; rw [if_pos ⟨a, c⟩]
theorem sB_sa {d d' : xh_D} (f : Fk sB d d') : Fk sa d d' := by
  refine Fk_mono (s := sB) (s' := sa) f (fun p i q => ?_)
  cases w : sB p i
  · rfl
  · exfalso
    unfold sB at w
    rcases Bool.or_eq_true_iff.mp w with w | w
    · rcases Bool.or_eq_true_iff.mp w with w | w
      · have : (if sD 11 p i = true then (1 : Int) else 0) = 0 := sD_sa (d := fun _ _ => 0) (d' := fun p i => if sD 11 p i = true then 1 else 0) (fun p i h => if_neg (by rw [h]; decide)) p i q
        rw [if_pos w] at this
        exact absurd this (by decide)
      · have : p = 12 := by simpa using w
        subst this; exact absurd (show true = false from q) (by decide)
    · have : p = 13 := by simpa using w
      subst this; exact absurd (show true = false from q) (by decide)
end SE5
