/-! THE RULE: the reference reads what the grammar says, and it comes to what its tokens come to. -/
def kOk (q : Nat) (T : Int → Int) (N : Int) (th : Int → Int) (d : xh_D) (e : xd_E) (P : Int → xh_D → xd_E → Prop) (v : Nat ⊕ (Nat × List Int)) : Prop := match v with
  | .inl q' => ∀ x d', yR x → Fr d d' → d' 146 13 = (q' : Int) → (q' : Int) ≤ 40 → P x d' e
  | .inr (p', r) => ∀ x d', yR x → Fr d d' → val th r x → rdQ q T N p' d' → P x d' e
def mS (L q : Nat) (T : Int → Int) (N : Int) (th : Int → Int) (f lev g ad : Nat) : Prop := ∀ (D deep p : Nat) (d : xh_D) (e : xd_E) (P : Int → xh_D → xd_E → Prop) (v : Nat ⊕ (Nat × List Int)), deep ≤ 4 → (40 - p) + 4 * (4 - deep) + ad ≤ D → rdQ q T N p d → evM th d → prs (cH T N) f lev deep p [] = some v → kOk q T N th d e P v → yC D g L [.ref 146, .int (xJ deep)] d e P
section RUV
variable {L q : Nat} {T : Int → Int} {N : Int} {th : Int → Int}
theorem kOk_t {d d1 : xh_D} {e : xd_E} {P : Int → xh_D → xd_E → Prop} {v : Nat ⊕ (Nat × List Int)} (h : kOk q T N th d e P v) (f : Fr d d1) : kOk q T N th d1 e P v := by
  unfold kOk at h ⊢
  split
  · exact fun x d' h1 h2 h3 h4 => h x d' h1 (Fr_t f h2) h3 h4
  · exact fun x d' h1 h2 h3 h4 => h x d' h1 (Fr_t f h2) h3 h4
theorem xwr' {x : Int} (h : yR x) : xw x = x := xw_i h
theorem M_T {f : Nat} (hT : mS L q T N th f 0 206 6) (hH : mS L q T N th f 3 203 9) : mS L q T N th (f + 1) 0 206 6 := by
  intro D deep p d e P v hd hD s ev hv hk
  obtain ⟨r1, r2, r3, r4⟩ := rq_h s
  have s' := s
  obtain ⟨s1, s2, s3, s4, s5, s6, s7, s8, s9⟩ := s'
  refine yC_w (yC_of rfl rfl rfl (by omega) (yk_206_0 (by omega) ?_))
  unfold prs at hv
  refine sq_193q (by omega) (by decide) s (fun z => ?_) (fun z => ?_)
  · rw [if_pos z] at hv
    have r := r4 (by omega)
    have sn := rq_n s r
    cases u : prs (cH T N) f 0 deep (p + 1) [] with
    | none => rw [u] at hv; exact absurd hv (by simp)
    | some w =>
      rw [u] at hv
      refine hT (D - 1) deep (p + 1) _ e _ w hd (by omega) sn (evM_c ev Fr_12) u ?_
      cases w with
      | inl q' =>
        have ev2 : v = .inl q' := (Option.some.inj hv).symm
        subst ev2
        exact fun x d' h1 h2 h3 h4 => hk _ d' (xw_r _) (Fr_t Fr_12 h2) h3 h4
      | inr w =>
        obtain ⟨p1, rr⟩ := w
        have ev2 : v = .inr (p1, rr ++ [-256]) := (Option.some.inj hv).symm
        subst ev2
        exact fun x d' h1 h2 h3 h4 => hk _ d' (xw_r _) (Fr_t Fr_12 h2) (val_neg h3) h4
  · rw [if_neg z] at hv
    -- what is no minus and opens nothing
    have go : ¬ (cH T N p = 40 ∧ deep < 4) → yB (D - 1) xm_c206 (yQi L (fun z d e => P (xw z) d e)) L 40 [.ref 146, .double 0, .int (xJ (xm_here d)), .double 0, .double 0] [] d e := fun y => by
      rw [if_neg y] at hv
      by_cases x : dgB (cH T N p)
      · rw [if_pos x] at hv
        unfold dgB at x
        have r := r4 (by omega)
        refine yk_206_40 (by omega) ⟨by omega, fun _ => ?_, fun w => by omega⟩
        have eh : xm_here d = cH T N p := by omega
        refine yk_206_49 (by omega) ⟨by omega, fun w => by omega, fun _ => ⟨r1, by omega, fun _ => fun v4 e4 => ?_, fun w => by omega⟩⟩
        rw [e4, eh, s5]
        have sn := rq_n s r
        obtain ⟨n1, n2, n3, n4⟩ := rq_h sn
        have n5 := sn.2.2.2.2.1
        have f1 : Fr d (xs d 146 12 (p + 1)) := Fr_12
        generalize hd1 : xs d 146 12 ((p : Int) + 1) = d1 at sn n1 n2 n5 f1
        refine yk_206_49 (by omega) ⟨by omega, fun w => by omega, fun _ => ⟨n1, by omega, fun w => fun v4 e4 => ?_, fun w => ?_⟩⟩
        · have w' : dgB (cH T N (p + 1)) := by unfold dgB; omega
          rw [if_pos w'] at hv
          unfold dgB at w'
          have rr := n4 (by omega)
          have eh1 : xm_here d1 = cH T N (p + 1) := by omega
          rw [e4, eh1, n5]
          have sm := rq_n sn rr
          obtain ⟨m1, m2, m3, m4⟩ := rq_h sm
          have m5 := sm.2.2.2.2.1
          have f2 : Fr d (xs d1 146 12 ((p + 1 : Nat) + 1)) := Fr_t f1 Fr_12
          generalize hd2 : xs d1 146 12 (((p + 1 : Nat) : Int) + 1) = d2 at sm m1 m2 m5 f2
          refine yk_206_49 (by omega) ⟨by omega, fun w => by omega, fun _ => ⟨m1, by omega, fun u => fun v4 e4 => ?_, fun u => ?_⟩⟩
          · have u' : dgB (cH T N (p + 1 + 1)) := by unfold dgB; omega
            rw [show p + 2 = p + 1 + 1 from rfl, if_pos u'] at hv
            unfold dgB at u'
            have rm := m4 (by omega)
            have eh2 : xm_here d2 = cH T N (p + 1 + 1) := by omega
            rw [e4, eh2, m5]
            have so := rq_n sm rm
            have ev2 := (Option.some.inj hv).symm
            subst ev2
            refine yk_206_49 (by omega) ⟨by omega, fun _ => ?_, fun w => by omega⟩
            refine hk _ _ (xw_r _) (Fr_t f2 Fr_12) ?_ so
            rw [show 10 * (10 * (10 * 0 + cH T N p - 48) + cH T N (p + 1) - 48) + cH T N (p + 1 + 1) - 48 = ((cH T N p - 48) * 10 + (cH T N (p + 1) - 48)) * 10 + (cH T N (p + 1 + 1) - 48) by omega, xwr' (by omega)]
            exact val_num (by omega)
          · rw [show p + 2 = p + 1 + 1 from rfl, if_neg (fun w => by unfold dgB at w; omega)] at hv
            have ev2 := (Option.some.inj hv).symm
            subst ev2
            refine hk _ _ (xw_r _) f2 ?_ sm
            rw [show 10 * (10 * 0 + cH T N p - 48) + cH T N (p + 1) - 48 = (cH T N p - 48) * 10 + (cH T N (p + 1) - 48) by omega, xwr' (by omega)]
            exact val_num (by omega)
        · rw [if_neg (fun w' => by unfold dgB at w'; omega)] at hv
          have ev2 := (Option.some.inj hv).symm
          subst ev2
          refine hk _ _ (xw_r _) f1 ?_ sn
          rw [show 10 * 0 + cH T N p - 48 = cH T N p - 48 by omega, xwr' (by omega)]
          exact val_num (by omega)
      · rw [if_neg x] at hv
        unfold dgB at x
        by_cases w : xp_thg (cH T N p) = -1
        · rw [if_pos w] at hv
          have ev2 := (Option.some.inj hv).symm
          subst ev2
          have nh : ¬ xm_here d = 116 ∧ ¬ xm_here d = 117 ∧ ¬ xm_here d = 114 ∧ ¬ xm_here d = 107 ∧ ¬ xm_here d = 100 ∧ ¬ xm_here d = 105 ∧ ¬ xm_here d = 106 := by
            unfold xp_thg at w
            refine ⟨?_, ?_, ?_, ?_, ?_, ?_, ?_⟩ <;> (intro u; have u' : cH T N p = xm_here d := by omega) <;> rw [u', u] at w <;> exact absurd w (by decide)
          refine yk_206_40 (by omega) ⟨by omega, fun u => by omega, fun _ => ⟨fun u => absurd u nh.1, fun _ => ⟨fun u => absurd u nh.2.1, fun _ => ⟨fun u => absurd u nh.2.2.1, fun _ => ⟨fun u => absurd u nh.2.2.2.1, fun _ => ⟨fun u => absurd u nh.2.2.2.2.1, fun _ => ⟨fun u => absurd u nh.2.2.2.2.2.1, fun _ => ⟨fun u => absurd u nh.2.2.2.2.2.2, fun _ => ⟨by omega, ?_⟩⟩⟩⟩⟩⟩⟩⟩⟩
          rw [if_pos s6, s5]
          exact hk _ _ (xw_r _) Fr_13 xs_eq s8
        · rw [if_neg w] at hv
          have ev2 := (Option.some.inj hv).symm
          subst ev2
          have r := r4 (fun u => by rw [u] at w; exact w (by decide))
          have rt : 0 ≤ xp_thg (cH T N p) ∧ xp_thg (cH T N p) < 7 := by unfold xp_thg at w ⊢; repeat' split <;> omega
          have hv' : cH T N p = 116 ∨ cH T N p = 117 ∨ cH T N p = 114 ∨ cH T N p = 107 ∨ cH T N p = 100 ∨ cH T N p = 105 ∨ cH T N p = 106 := by unfold xp_thg at w; repeat' split at w <;> omega
          have eh : xm_here d = cH T N p := by omega
          have g104 : yB (D - 1) xm_c206 (yQi L (fun z d e => P (xw z) d e)) L 104 [.ref 146, .double 0, .int (xJ (xm_here d)), .double 0, .double 0] [] d e := by
            rw [eh]
            refine sq_104 (by omega) w ev ?_
            have t := ev.1 _ rt.1 rt.2
            rw [xwr' t, s5]
            exact hk _ _ t Fr_12 (val_th rt) (rq_n s r)
          exact yk_206_40 (by omega) ⟨by omega, fun u => by omega, fun _ => ⟨fun _ => g104, fun _ => ⟨fun _ => g104, fun _ => ⟨fun _ => g104, fun _ => ⟨fun _ => g104, fun _ => ⟨fun _ => g104, fun _ => ⟨fun _ => g104, fun _ => ⟨fun _ => g104, fun _ => by omega⟩⟩⟩⟩⟩⟩⟩⟩
    rw [s6]
    refine ⟨by omega, fun _ => ⟨r1, by omega, fun w => go (fun u => by omega), fun w => ⟨by omega, fun u => go (fun t => by omega), fun u => ?_⟩⟩, fun w => absurd rfl w⟩
    have y : cH T N p = 40 ∧ deep < 4 := ⟨by omega, by omega⟩
    rw [if_pos y] at hv
    have r := r4 (by omega)
    have sn := rq_n s r
    rw [s5]
    cases u : prs (cH T N) f 3 (deep + 1) (p + 1) [] with
    | none => rw [u] at hv; exact absurd hv (by simp)
    | some w =>
      rw [u] at hv
      refine hH (D - 1) (deep + 1) (p + 1) _ e _ w (by omega) (by omega) sn (evM_c ev Fr_12) u ?_
      cases w with
      | inl q' =>
        have ev2 : v = .inl q' := (Option.some.inj hv).symm
        subst ev2
        intro x d' h1 h2 h3 h4
        refine yV_of rfl rfl rfl (by omega) (yk_194_0 (by omega) ?_)
        refine sq_193_f (by omega) (by omega) ⟨by omega, ?_⟩
        rw [if_neg (by omega)]
        refine hk _ _ (xw_r _) (Fr_t Fr_12 (Fr_t h2 Fr_13)) ?_ h4
        rw [xs_eq, h3]
      | inr w =>
        obtain ⟨p1, rr⟩ := w
        replace hv : (if cH T N p1 = 41 then some (.inr (p1 + 1, rr)) else some (.inl p1)) = some v := hv
        intro x d' h1 h2 h3 h4
        refine yV_of rfl rfl rfl (by omega) (yk_194_0 (by omega) ?_)
        obtain ⟨m1, m2, m3, m4⟩ := rq_h h4
        have m5 := h4.2.2.2.2.1
        have m6 := h4.2.2.2.2.2.1
        have m8 := h4.2.2.2.2.2.2.2.1
        refine sq_193q (by omega) (by decide) h4 (fun t => ?_) (fun t => ⟨by omega, ?_⟩)
        · rw [if_pos t] at hv
          have ev2 := (Option.some.inj hv).symm
          subst ev2
          refine hk _ _ (xw_r _) (Fr_t Fr_12 (Fr_t h2 Fr_12)) ?_ (rq_n h4 (m4 (by omega)))
          rw [xwr' h1]
          exact h3
        · rw [if_neg t] at hv
          have ev2 := (Option.some.inj hv).symm
          subst ev2
          rw [if_pos m6, m5]
          exact hk _ _ (xw_r _) (Fr_t Fr_12 (Fr_t h2 Fr_13)) xs_eq m8
end RUV
