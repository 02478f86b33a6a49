/-! THE RULE: the reference's products, sums, and what it holds. -/
section RUW
variable {L q : Nat} {T : Int → Int} {N : Int} {th : Int → Int}
theorem jn_42 {x y : Int} : xp_join 42 x y = xw (x * y) := by simp [xp_join]
theorem jn_43 {x y : Int} : xp_join 43 x y = xw (x + y) := by simp [xp_join]
theorem jn_45 {x y : Int} : xp_join 45 x y = xw (x - y) := by simp [xp_join]
theorem jn_47 {x y : Int} : xp_join 47 x y = if y = 0 then 0 else xi_div x y := by simp [xp_join]
theorem prs_le {c : Nat → Int} : ∀ (f lev deep p : Nat) (acc : List Int) (p' : Nat) (r : List Int), prs c f lev deep p acc = some (.inr (p', r)) → p ≤ p' := by
  have fin : ∀ {p p' a : Nat} {l r : List Int}, p ≤ a → (some (.inr (a, l)) : rS) = some (.inr (p', r)) → p ≤ p' := by
    intro p p' a l r h e
    have := congrArg Prod.fst (Sum.inr.inj (Option.some.inj e))
    dsimp only at this
    omega
  intro f
  induction f with
  | zero => intro lev deep p acc p' r h; unfold prs at h; exact absurd h (by simp)
  | succ f ih =>
    intro lev deep p acc p' r h
    match lev, h with
    | 0, h =>
      unfold prs at h
      by_cases z : c p = 45
      · rw [if_pos z] at h
        cases u : prs c f 0 deep (p + 1) [] with
        | none => rw [u] at h; exact absurd h (by simp)
        | some w =>
          rw [u] at h
          cases w with
          | inl q => exact absurd h (by simp)
          | inr w =>
            obtain ⟨p1, r1⟩ := w
            have i := ih _ _ _ _ _ _ u
            exact fin (by omega) h
      · rw [if_neg z] at h
        by_cases y : c p = 40 ∧ deep < 4
        · rw [if_pos y] at h
          cases u : prs c f 3 (deep + 1) (p + 1) [] with
          | none => rw [u] at h; exact absurd h (by simp)
          | some w =>
            rw [u] at h
            cases w with
            | inl q => exact absurd h (by simp)
            | inr w =>
              obtain ⟨p1, r1⟩ := w
              have i := ih _ _ _ _ _ _ u
              replace h : (if c p1 = 41 then some (.inr (p1 + 1, r1)) else some (.inl p1) : rS) = some (.inr (p', r)) := h
              by_cases w : c p1 = 41
              · rw [if_pos w] at h; exact fin (by omega) h
              · rw [if_neg w] at h; exact absurd h (by simp)
        · rw [if_neg y] at h
          by_cases x : dgB (c p)
          · rw [if_pos x] at h
            by_cases w : dgB (c (p + 1))
            · rw [if_pos w] at h
              by_cases v : dgB (c (p + 2))
              · rw [if_pos v] at h; exact fin (by omega) h
              · rw [if_neg v] at h; exact fin (by omega) h
            · rw [if_neg w] at h; exact fin (by omega) h
          · rw [if_neg x] at h
            by_cases w : xp_thg (c p) = -1
            · rw [if_pos w] at h; exact absurd h (by simp)
            · rw [if_neg w] at h; exact fin (by omega) h
    | 1, h =>
      unfold prs at h
      cases u : prs c f 0 deep p [] with
      | none => rw [u] at h; exact absurd h (by simp)
      | some w =>
        rw [u] at h
        cases w with
        | inl q => exact absurd h (by simp)
        | inr w =>
          obtain ⟨p1, r1⟩ := w
          have i := ih _ _ _ _ _ _ u
          have i2 := ih _ _ _ _ _ _ h
          omega
    | 2, h =>
      unfold prs at h
      cases u : prs c f 1 deep p [] with
      | none => rw [u] at h; exact absurd h (by simp)
      | some w =>
        rw [u] at h
        cases w with
        | inl q => exact absurd h (by simp)
        | inr w =>
          obtain ⟨p1, r1⟩ := w
          have i := ih _ _ _ _ _ _ u
          have i2 := ih _ _ _ _ _ _ h
          omega
    | 3, h =>
      unfold prs at h
      cases u : prs c f 2 deep p [] with
      | none => rw [u] at h; exact absurd h (by simp)
      | some w =>
        rw [u] at h
        cases w with
        | inl q => exact absurd h (by simp)
        | inr w =>
          obtain ⟨p1, r1⟩ := w
          have i := ih _ _ _ _ _ _ u
          replace h : (if c p1 = 60 ∨ c p1 = 62 ∨ c p1 = 61 then (match prs c f 2 deep (p1 + 1) [] with | some (.inr (p2, r2)) => some (.inr (p2, r1 ++ r2 ++ [-(c p1)])) | x => x) else some (.inr (p1, r1)) : rS) = some (.inr (p', r)) := h
          by_cases w : c p1 = 60 ∨ c p1 = 62 ∨ c p1 = 61
          · rw [if_pos w] at h
            cases u2 : prs c f 2 deep (p1 + 1) [] with
            | none => rw [u2] at h; exact absurd h (by simp)
            | some w2 =>
              rw [u2] at h
              cases w2 with
              | inl q => exact absurd h (by simp)
              | inr w2 =>
                obtain ⟨p2, r2⟩ := w2
                have i2 := ih _ _ _ _ _ _ u2
                exact fin (by omega) h
          · rw [if_neg w] at h; exact fin (by omega) h
    | 4, h =>
      unfold prs at h
      by_cases w : c p = 42 ∨ c p = 47
      · rw [if_pos w] at h
        cases u : prs c f 0 deep (p + 1) [] with
        | none => rw [u] at h; exact absurd h (by simp)
        | some w =>
          rw [u] at h
          cases w with
          | inl q => exact absurd h (by simp)
          | inr w =>
            obtain ⟨p1, r1⟩ := w
            have i := ih _ _ _ _ _ _ u
            have i2 := ih _ _ _ _ _ _ h
            omega
      · rw [if_neg w] at h; exact fin (Nat.le_refl _) h
    | k + 5, h =>
      unfold prs at h
      by_cases w : c p = 43 ∨ c p = 45
      · rw [if_pos w] at h
        cases u : prs c f 1 deep (p + 1) [] with
        | none => rw [u] at h; exact absurd h (by simp)
        | some w =>
          rw [u] at h
          cases w with
          | inl q => exact absurd h (by simp)
          | inr w =>
            obtain ⟨p1, r1⟩ := w
            have i := ih _ _ _ _ _ _ u
            have i2 := ih _ _ _ _ _ _ h
            omega
      · rw [if_neg w] at h; exact fin (Nat.le_refl _) h
def mL205 (L q : Nat) (T : Int → Int) (N : Int) (th : Int → Int) (f : Nat) : Prop := ∀ (D deep p : Nat) (d : xh_D) (e : xd_E) (P : Int → xh_D → xd_E → Prop) (v : Nat ⊕ (Nat × List Int)) (acc : List Int) (x2 : Int), deep ≤ 4 → (40 - p) + 4 * (4 - deep) + 6 ≤ D → rdQ q T N p d → evM th d → prs (cH T N) f 4 deep p acc = some v → val th acc x2 → yR x2 → kOk q T N th d e P v → yB D xm_c205 (yQi L P) L 4 [.ref 146, .int (xJ deep), .int (xJ x2), .double 0, .double 0] [] d e
theorem ml_f205 {D : Nat} {d : xh_D} {e : xd_E} {P : Int → xh_D → xd_E → Prop} {deep x2 : Int} {q' : Nat} (hD : 1 ≤ D) (h13 : d 146 13 = (q' : Int)) (hq : (q' : Int) ≤ 40) (h : ∀ x, yR x → P x d e) : yB D xm_c205 (yQi L P) L 4 [.ref 146, .int (xJ deep), .int (xJ x2), .double 0, .double 0] [] d e := by
  rw [← xw_J x2]
  exact yk_205_4 hD ⟨by omega, fun z => by omega, fun _ => h _ (xw_r _)⟩
theorem M_A205 {f : Nat} (hT : mS L q T N th f 0 206 6) (hL : mL205 L q T N th f) : mS L q T N th (f + 1) (0 + 1) 205 (6 + 1) := by
  intro D deep p d e P v hd hD s ev hv hk
  refine yC_of rfl rfl rfl (by omega) (yk_205_0 ?_)
  unfold prs at hv
  cases u : prs (cH T N) f 0 deep p [] with
  | none => rw [u] at hv; exact absurd hv (by simp)
  | some w =>
    rw [u] at hv
    refine hT (D - 1) deep p d e _ w hd (by omega) s ev u ?_
    cases w with
    | inl q' =>
      have ev2 : v = .inl q' := (Option.some.inj hv).symm
      subst ev2
      exact fun x d' h1 h2 h3 h4 => ml_f205 (by omega) h3 h4 (fun y hy => hk y d' hy h2 h3 h4)
    | inr w =>
      obtain ⟨p1, rr⟩ := w
      intro x d' h1 h2 h3 h4
      have le := prs_le _ _ _ _ _ _ _ u
      exact hL (D - 1) deep p1 d' e P v rr x hd (by omega) h4 (evM_c ev h2) hv h3 h1 (kOk_t hk h2)
def mL204 (L q : Nat) (T : Int → Int) (N : Int) (th : Int → Int) (f : Nat) : Prop := ∀ (D deep p : Nat) (d : xh_D) (e : xd_E) (P : Int → xh_D → xd_E → Prop) (v : Nat ⊕ (Nat × List Int)) (acc : List Int) (x2 : Int), deep ≤ 4 → (40 - p) + 4 * (4 - deep) + 7 ≤ D → rdQ q T N p d → evM th d → prs (cH T N) f 5 deep p acc = some v → val th acc x2 → yR x2 → kOk q T N th d e P v → yB D xm_c204 (yQi L P) L 4 [.ref 146, .int (xJ deep), .int (xJ x2), .double 0, .double 0] [] d e
theorem ml_f204 {D : Nat} {d : xh_D} {e : xd_E} {P : Int → xh_D → xd_E → Prop} {deep x2 : Int} {q' : Nat} (hD : 1 ≤ D) (h13 : d 146 13 = (q' : Int)) (hq : (q' : Int) ≤ 40) (h : ∀ x, yR x → P x d e) : yB D xm_c204 (yQi L P) L 4 [.ref 146, .int (xJ deep), .int (xJ x2), .double 0, .double 0] [] d e := by
  rw [← xw_J x2]
  exact yk_204_4 hD ⟨by omega, fun z => by omega, fun _ => h _ (xw_r _)⟩
theorem M_A204 {f : Nat} (hT : mS L q T N th f 1 205 7) (hL : mL204 L q T N th f) : mS L q T N th (f + 1) (1 + 1) 204 (7 + 1) := by
  intro D deep p d e P v hd hD s ev hv hk
  refine yC_of rfl rfl rfl (by omega) (yk_204_0 ?_)
  unfold prs at hv
  cases u : prs (cH T N) f 1 deep p [] with
  | none => rw [u] at hv; exact absurd hv (by simp)
  | some w =>
    rw [u] at hv
    refine hT (D - 1) deep p d e _ w hd (by omega) s ev u ?_
    cases w with
    | inl q' =>
      have ev2 : v = .inl q' := (Option.some.inj hv).symm
      subst ev2
      exact fun x d' h1 h2 h3 h4 => ml_f204 (by omega) h3 h4 (fun y hy => hk y d' hy h2 h3 h4)
    | inr w =>
      obtain ⟨p1, rr⟩ := w
      intro x d' h1 h2 h3 h4
      have le := prs_le _ _ _ _ _ _ _ u
      exact hL (D - 1) deep p1 d' e P v rr x hd (by omega) h4 (evM_c ev h2) hv h3 h1 (kOk_t hk h2)
theorem M_L205 {f : Nat} (hT : mS L q T N th f 0 206 6) (hL : mL205 L q T N th f) : mL205 L q T N th (f + 1) := by
  intro D deep p d e P v acc x2 hd hD s ev hv hx hr hk
  obtain ⟨r1, r2, r3, r4⟩ := rq_h s
  have s5 := s.2.2.2.2.1
  have s6 := s.2.2.2.2.2.1
  unfold prs at hv
  refine yk_205_4 (by omega) ?_
  rw [s6]
  by_cases w : cH T N p = 42 ∨ cH T N p = 47
  · rw [if_pos w] at hv
    have r := r4 (by omega)
    have sn := rq_n s r
    have eh : xm_here d = cH T N p := by omega
    have go : ∀ (P' : Int → xh_D → xd_E → Prop), (∀ x d' e', P' x d' e' → P' x d' e') → (∀ x d', yR x → (x2 = x2) → (∀ q' : Nat, v = .inl q' → Fr d d' → d' 146 13 = (q' : Int) → (q' : Int) ≤ 40 → P' x d' e) ∧ ∀ (p1 : Nat) (rr : List Int), prs (cH T N) f 4 deep p1 (acc ++ rr ++ [-(cH T N p)]) = some v → p + 1 ≤ p1 → Fr d d' → val th rr x → rdQ q T N p1 d' → P' x d' e) → yC D 206 L [.ref 146, .int (xJ deep)] (xs d 146 12 (d 146 12 + 1)) e P' := fun P' _ hP' => by
      rw [s5]
      cases u : prs (cH T N) f 0 deep (p + 1) [] with
      | none => rw [u] at hv; exact absurd hv (by simp)
      | some w' =>
        rw [u] at hv
        refine hT D deep (p + 1) _ e _ w' hd (by omega) sn (evM_c ev Fr_12) u ?_
        cases w' with
        | inl q' => exact fun x d' h1 h2 h3 h4 => (hP' x d' h1 rfl).1 q' (Option.some.inj hv).symm (Fr_t Fr_12 h2) h3 h4
        | inr w' =>
          obtain ⟨p1, rr⟩ := w'
          exact fun x d' h1 h2 h3 h4 => (hP' x d' h1 rfl).2 p1 rr hv (prs_le _ _ _ _ _ _ _ u) (Fr_t Fr_12 h2) h3 h4
    have g15 : yB D xm_c205 (yQi L P) L 15 [.ref 146, .int (xJ deep), .int (xJ x2), .double 0, .double 0] [] d e := by
      refine yk_205_15 (by omega) ⟨r1, by omega, fun z => ?_, fun z => ?_⟩
      · have c47 : cH T N p = 47 := by omega
        refine go _ (fun _ _ _ h => h) (fun x d' h1 _ => ⟨fun q' e1 h2 h3 h4 => ?_, fun p1 rr e1 le h2 h3 h4 => ?_⟩)
        · subst e1
          exact ⟨h1, fun y => ⟨⟨h1, y⟩, ml_f205 (by omega) h3 h4 (fun y hy => hk y d' hy h2 h3 h4)⟩, fun y => ml_f205 (by omega) h3 h4 (fun y hy => hk y d' hy h2 h3 h4)⟩
        · have vo := val_op (x := cH T N p) hx h3 (by omega)
          rw [c47, jn_47] at vo
          rw [c47] at e1
          refine ⟨h1, fun y => ⟨⟨h1, y⟩, ?_⟩, fun y => ?_⟩
          · rw [if_neg y] at vo
            exact hL D deep p1 d' e P v _ _ hd (by omega) h4 (evM_c ev h2) e1 vo (xJ_rng _) (kOk_t hk h2)
          · rw [if_pos y] at vo
            exact hL D deep p1 d' e P v _ _ hd (by omega) h4 (evM_c ev h2) e1 vo (by omega) (kOk_t hk h2)
      · have c42 : cH T N p = 42 := by omega
        refine go _ (fun _ _ _ h => h) (fun x d' h1 _ => ⟨fun q' e1 h2 h3 h4 => ?_, fun p1 rr e1 le h2 h3 h4 => ?_⟩)
        · subst e1
          exact ml_f205 (by omega) h3 h4 (fun y hy => hk y d' hy h2 h3 h4)
        · have vo := val_op (x := cH T N p) hx h3 (by omega)
          rw [c42, jn_42] at vo
          rw [c42] at e1
          rw [← xw_J (x2 * x)]
          exact hL D deep p1 d' e P v _ _ hd (by omega) h4 (evM_c ev h2) e1 vo (xw_r _) (kOk_t hk h2)
    refine ⟨by omega, fun _ => ⟨r1, by omega, fun _ => g15, fun _ => ⟨fun z => by omega, fun _ => g15⟩⟩, fun z => absurd rfl z⟩
  · rw [if_neg w] at hv
    have ev2 := (Option.some.inj hv).symm
    subst ev2
    exact ⟨by omega, fun _ => ⟨r1, by omega, fun z => by omega, fun _ => ⟨fun _ => hk x2 d hr Fr_r hx s, fun z => by omega⟩⟩, fun z => absurd rfl z⟩
theorem M_L204 {f : Nat} (hT : mS L q T N th f 1 205 7) (hL : mL204 L q T N th f) : mL204 L q T N th (f + 1) := by
  intro D deep p d e P v acc x2 hd hD s ev hv hx hr hk
  obtain ⟨r1, r2, r3, r4⟩ := rq_h s
  have s5 := s.2.2.2.2.1
  have s6 := s.2.2.2.2.2.1
  unfold prs at hv
  refine yk_204_4 (by omega) ?_
  rw [s6]
  by_cases w : cH T N p = 43 ∨ cH T N p = 45
  · rw [if_pos w] at hv
    have r := r4 (by omega)
    have sn := rq_n s r
    have eh : xm_here d = cH T N p := by omega
    have go : ∀ (P' : Int → xh_D → xd_E → Prop), (∀ x d', yR x → (∀ q' : Nat, v = .inl q' → Fr d d' → d' 146 13 = (q' : Int) → (q' : Int) ≤ 40 → P' x d' e) ∧ ∀ (p1 : Nat) (rr : List Int), prs (cH T N) f 5 deep p1 (acc ++ rr ++ [-(cH T N p)]) = some v → p + 1 ≤ p1 → Fr d d' → val th rr x → rdQ q T N p1 d' → P' x d' e) → yC D 205 L [.ref 146, .int (xJ deep)] (xs d 146 12 (d 146 12 + 1)) e P' := fun P' hP' => by
      rw [s5]
      cases u : prs (cH T N) f 1 deep (p + 1) [] with
      | none => rw [u] at hv; exact absurd hv (by simp)
      | some w' =>
        rw [u] at hv
        refine hT D deep (p + 1) _ e _ w' hd (by omega) sn (evM_c ev Fr_12) u ?_
        cases w' with
        | inl q' => exact fun x d' h1 h2 h3 h4 => (hP' x d' h1).1 q' (Option.some.inj hv).symm (Fr_t Fr_12 h2) h3 h4
        | inr w' =>
          obtain ⟨p1, rr⟩ := w'
          exact fun x d' h1 h2 h3 h4 => (hP' x d' h1).2 p1 rr hv (prs_le _ _ _ _ _ _ _ u) (Fr_t Fr_12 h2) h3 h4
    have g15 : yB D xm_c204 (yQi L P) L 15 [.ref 146, .int (xJ deep), .int (xJ x2), .double 0, .double 0] [] d e := by
      refine yk_204_15 (by omega) ⟨r1, by omega, fun z => ?_, fun z => ?_⟩
      · have c45 : cH T N p = 45 := by omega
        refine go _ (fun x d' h1 => ⟨fun q' e1 h2 h3 h4 => ?_, fun p1 rr e1 le h2 h3 h4 => ?_⟩)
        · subst e1
          exact ml_f204 (by omega) h3 h4 (fun y hy => hk y d' hy h2 h3 h4)
        · have vo := val_op (x := cH T N p) hx h3 (by omega)
          rw [c45, jn_45] at vo
          rw [c45] at e1
          rw [← xw_J (x2 - x)]
          exact hL D deep p1 d' e P v _ _ hd (by omega) h4 (evM_c ev h2) e1 vo (xw_r _) (kOk_t hk h2)
      · have c43 : cH T N p = 43 := by omega
        refine go _ (fun x d' h1 => ⟨fun q' e1 h2 h3 h4 => ?_, fun p1 rr e1 le h2 h3 h4 => ?_⟩)
        · subst e1
          exact ml_f204 (by omega) h3 h4 (fun y hy => hk y d' hy h2 h3 h4)
        · have vo := val_op (x := cH T N p) hx h3 (by omega)
          rw [c43, jn_43] at vo
          rw [c43] at e1
          rw [← xw_J (x2 + x)]
          exact hL D deep p1 d' e P v _ _ hd (by omega) h4 (evM_c ev h2) e1 vo (xw_r _) (kOk_t hk h2)
    refine ⟨by omega, fun _ => ⟨r1, by omega, fun _ => g15, fun _ => ⟨fun z => by omega, fun _ => g15⟩⟩, fun z => absurd rfl z⟩
  · rw [if_neg w] at hv
    have ev2 := (Option.some.inj hv).symm
    subst ev2
    exact ⟨by omega, fun _ => ⟨r1, by omega, fun z => by omega, fun _ => ⟨fun _ => hk x2 d hr Fr_r hx s, fun z => by omega⟩⟩, fun z => absurd rfl z⟩
theorem M_H {f : Nat} (hS : mS L q T N th f 2 204 8) : mS L q T N th (f + 1) 3 203 9 := by
  intro D deep p d e P v hd hD s ev hv hk
  refine yC_of rfl rfl rfl (by omega) (yk_203_0 ?_)
  unfold prs at hv
  cases u : prs (cH T N) f 2 deep p [] with
  | none => rw [u] at hv; exact absurd hv (by simp)
  | some w =>
    rw [u] at hv
    refine hS (D - 1) deep p d e _ w hd (by omega) s ev u ?_
    cases w with
    | inl q' =>
      have ev2 : v = .inl q' := (Option.some.inj hv).symm
      subst ev2
      intro x d' h1 h2 h3 h4
      exact sq_193_f (by omega) (by omega) (sq_193_f (by omega) (by omega) (sq_193_f (by omega) (by omega) (hk x d' h1 h2 h3 h4)))
    | inr w =>
      obtain ⟨p1, rr⟩ := w
      have le := prs_le _ _ _ _ _ _ _ u
      replace hv : (if cH T N p1 = 60 ∨ cH T N p1 = 62 ∨ cH T N p1 = 61 then (match prs (cH T N) f 2 deep (p1 + 1) [] with | some (.inr (p2, r2)) => some (.inr (p2, rr ++ r2 ++ [-(cH T N p1)])) | x => x) else some (.inr (p1, rr))) = some v := hv
      intro x1 d1 h1 h2 h3 h4
      obtain ⟨r1, r2, r3, r4⟩ := rq_h h4
      have go : (cH T N p1 = 60 ∨ cH T N p1 = 62 ∨ cH T N p1 = 61) → ∀ (P' : Int → xh_D → xd_E → Prop), (∀ x d', yR x → (∀ y, yR y → (∀ r', val th r' = val th r') → (∀ q' : Nat, v = .inl q' → Fr d d' → d' 146 13 = (q' : Int) → (q' : Int) ≤ 40 → P y d' e) → True) → (∀ q' : Nat, v = .inl q' → Fr d d' → d' 146 13 = (q' : Int) → (q' : Int) ≤ 40 → P' x d' e) ∧ ∀ (p2 : Nat) (r2 : List Int), v = .inr (p2, rr ++ r2 ++ [-(cH T N p1)]) → Fr d d' → val th r2 x → rdQ q T N p2 d' → P' x d' e) → yC (D - 1) 204 L [.ref 146, .int (xJ deep)] (xs d1 146 12 (p1 + 1)) e P' := fun w P' hP' => by
        rw [if_pos w] at hv
        have sn := rq_n h4 (r4 (by omega))
        cases u2 : prs (cH T N) f 2 deep (p1 + 1) [] with
        | none => rw [u2] at hv; exact absurd hv (by simp)
        | some w' =>
          rw [u2] at hv
          refine hS (D - 1) deep (p1 + 1) _ e _ w' hd (by omega) sn (evM_c ev (Fr_t h2 Fr_12)) u2 ?_
          cases w' with
          | inl q' => exact fun x d' k1 k2 k3 k4 => (hP' x d' k1 (fun _ _ _ _ => trivial)).1 q' (Option.some.inj hv).symm (Fr_t h2 (Fr_t Fr_12 k2)) k3 k4
          | inr w' =>
            obtain ⟨p2, r2⟩ := w'
            exact fun x d' k1 k2 k3 k4 => (hP' x d' k1 (fun _ _ _ _ => trivial)).2 p2 r2 (Option.some.inj hv).symm (Fr_t h2 (Fr_t Fr_12 k2)) k3 k4
      have fin : ∀ (y : Int) (x : Int) (d' : xh_D) (o : Int), cH T N p1 = o → (o = 60 ∨ o = 62 ∨ o = 61) → yR y → xp_join o x1 x = y → (∀ q' : Nat, v = .inl q' → Fr d d' → d' 146 13 = (q' : Int) → (q' : Int) ≤ 40 → P y d' e) ∧ ∀ (p2 : Nat) (r2 : List Int), v = .inr (p2, rr ++ r2 ++ [-(cH T N p1)]) → Fr d d' → val th r2 x → rdQ q T N p2 d' → P y d' e := fun y x d' o eo ho hy ej => ⟨fun q' e1 k2 k3 k4 => by subst e1; exact hk y d' hy k2 k3 k4, fun p2 r2 e1 k2 k3 k4 => by
        subst e1
        have vo := val_op (x := cH T N p1) h3 k3 (by omega)
        rw [eo, ej] at vo
        rw [eo] at hk
        exact hk y d' hy k2 vo k4⟩
      refine sq_193q (by omega) (by decide) h4 (fun z => ?_) (fun z => ?_)
      · refine go (Or.inl z) _ (fun x d' k1 _ => ⟨fun q' e1 k2 k3 k4 => ⟨h1, k1, fun y => ?_, fun y => ?_⟩, fun p2 r2 e1 k2 k3 k4 => ⟨h1, k1, fun y => ?_, fun y => ?_⟩⟩)
        · exact (fin 0 x d' 60 z (by omega) (by omega) (by unfold xp_join; rw [if_pos rfl, if_neg (by omega)])).1 q' e1 k2 k3 k4
        · exact (fin 1 x d' 60 z (by omega) (by omega) (by unfold xp_join; rw [if_pos rfl, if_pos (by omega)])).1 q' e1 k2 k3 k4
        · exact (fin 0 x d' 60 z (by omega) (by omega) (by unfold xp_join; rw [if_pos rfl, if_neg (by omega)])).2 p2 r2 e1 k2 k3 k4
        · exact (fin 1 x d' 60 z (by omega) (by omega) (by unfold xp_join; rw [if_pos rfl, if_pos (by omega)])).2 p2 r2 e1 k2 k3 k4
      · refine sq_193q (by omega) (by decide) h4 (fun z2 => ?_) (fun z2 => ?_)
        · refine go (Or.inr (Or.inl z2)) _ (fun x d' k1 _ => ⟨fun q' e1 k2 k3 k4 => ⟨h1, k1, fun y => ?_, fun y => ?_⟩, fun p2 r2 e1 k2 k3 k4 => ⟨h1, k1, fun y => ?_, fun y => ?_⟩⟩)
          · exact (fin 0 x d' 62 z2 (by omega) (by omega) (by unfold xp_join; rw [if_neg (by decide), if_pos rfl, if_neg (by omega)])).1 q' e1 k2 k3 k4
          · exact (fin 1 x d' 62 z2 (by omega) (by omega) (by unfold xp_join; rw [if_neg (by decide), if_pos rfl, if_pos (by omega)])).1 q' e1 k2 k3 k4
          · exact (fin 0 x d' 62 z2 (by omega) (by omega) (by unfold xp_join; rw [if_neg (by decide), if_pos rfl, if_neg (by omega)])).2 p2 r2 e1 k2 k3 k4
          · exact (fin 1 x d' 62 z2 (by omega) (by omega) (by unfold xp_join; rw [if_neg (by decide), if_pos rfl, if_pos (by omega)])).2 p2 r2 e1 k2 k3 k4
        · refine sq_193q (by omega) (by decide) h4 (fun z3 => ?_) (fun z3 => ?_)
          · refine go (Or.inr (Or.inr z3)) _ (fun x d' k1 _ => ⟨fun q' e1 k2 k3 k4 => ⟨h1, k1, fun y => ?_, fun y => ?_⟩, fun p2 r2 e1 k2 k3 k4 => ⟨h1, k1, fun y => ?_, fun y => ?_⟩⟩)
            · exact (fin 0 x d' 61 z3 (by omega) (by omega) (by unfold xp_join; rw [if_neg (by decide), if_neg (by decide), if_pos rfl, if_neg (by omega)])).1 q' e1 k2 k3 k4
            · exact (fin 1 x d' 61 z3 (by omega) (by omega) (by unfold xp_join; rw [if_neg (by decide), if_neg (by decide), if_pos rfl, if_pos (by omega)])).1 q' e1 k2 k3 k4
            · exact (fin 0 x d' 61 z3 (by omega) (by omega) (by unfold xp_join; rw [if_neg (by decide), if_neg (by decide), if_pos rfl, if_neg (by omega)])).2 p2 r2 e1 k2 k3 k4
            · exact (fin 1 x d' 61 z3 (by omega) (by omega) (by unfold xp_join; rw [if_neg (by decide), if_neg (by decide), if_pos rfl, if_pos (by omega)])).2 p2 r2 e1 k2 k3 k4
          · rw [if_neg (by omega)] at hv
            have ev2 := (Option.some.inj hv).symm
            subst ev2
            exact hk x1 d1 h1 h2 h3 h4
theorem M_all : ∀ f, mS L q T N th f 0 206 6 ∧ mS L q T N th f 1 205 7 ∧ mS L q T N th f 2 204 8 ∧ mS L q T N th f 3 203 9 ∧ mL205 L q T N th f ∧ mL204 L q T N th f
  | 0 => ⟨fun _ _ _ _ _ _ _ _ _ _ _ h => by unfold prs at h; exact absurd h (by simp), fun _ _ _ _ _ _ _ _ _ _ _ h => by unfold prs at h; exact absurd h (by simp), fun _ _ _ _ _ _ _ _ _ _ _ h => by unfold prs at h; exact absurd h (by simp), fun _ _ _ _ _ _ _ _ _ _ _ h => by unfold prs at h; exact absurd h (by simp), fun _ _ _ _ _ _ _ _ _ _ _ _ _ h => by unfold prs at h; exact absurd h (by simp), fun _ _ _ _ _ _ _ _ _ _ _ _ _ h => by unfold prs at h; exact absurd h (by simp)⟩
  | f + 1 => by
    obtain ⟨h1, h2, h3, h4, h5, h6⟩ := M_all f
    exact ⟨M_T h1 h4, M_A205 h1 h5, M_A204 h2 h6, M_H h3, M_L205 h1 h5, M_L204 h2 h6⟩
end RUW
