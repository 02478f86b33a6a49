/-! THE RULE: a thing; all levels; how far the reading needs to go. -/
section RUT
variable {c : Nat → Int}
theorem C_T (hc : ∀ p, c p < 256) {f : Nat} (hT : spT c f) (hH : spH c f) : spT c (f + 1) := by
  intro deep p s h1 h2 h3
  have stA' : ∀ s1, stA s (c p) = some s1 → stC s (c p) = some s1 := fun s1 h => by unfold stC; rw [if_pos h1]; exact h
  unfold prs
  by_cases z : c p = 45
  · rw [if_pos z]
    have q1 : stC s (c p) = some (s.1, 256 :: s.2.1, s.2.2.1, s.2.2.2.1, s.2.2.2.2.1, s.2.2.2.2.2) := stA' _ (by unfold stA; rw [if_pos z])
    have t := hT deep (p + 1) _ (show (s.1, 256 :: s.2.1, s.2.2.1, s.2.2.2.1, s.2.2.2.2.1, s.2.2.2.2.2).2.2.2.2.1 = true from h1) h2 h3
    have st := prc_1 q1
    cases e : prs c f 0 deep (p + 1) [] with
    | none => trivial
    | some v =>
      rw [e] at t
      cases v with
      | inl q => exact okC_b (Nat.le_succ p) st t
      | inr v =>
        obtain ⟨p1, r1⟩ := v
        obtain ⟨t1, s2, t2, t3, ⟨dd, pend, a1, a2, a3, a4⟩, b⟩ := t
        refine okC_b (Nat.le_succ p) st ⟨t1, s2, t2, by omega, ⟨dd, pend ++ [256], a1, ?_, ?_, fun y hy => ?_⟩, b⟩
        · rw [a2, List.append_assoc]; rfl
        · rw [List.map_append, ← List.append_assoc, a3]; rfl
        · rcases List.mem_append.mp hy with w | w
          · exact a4 y w
          · rw [List.mem_singleton.mp w]; decide
  · rw [if_neg z]
    by_cases y : c p = 40 ∧ deep < 4
    · rw [if_pos y]
      have q1 : stC s (c p) = some (s.1, 40 :: s.2.1, s.2.2.1 + 1, s.2.2.2.1, s.2.2.2.2.1, fun i => if i = s.2.2.1 + 1 then false else s.2.2.2.2.2 i) := stA' _ (by unfold stA; rw [if_neg z, if_pos y.1, if_neg (by omega)])
      have t := hH (deep + 1) (p + 1) _ (show (s.1, 40 :: s.2.1, s.2.2.1 + 1, s.2.2.2.1, s.2.2.2.2.1, fun i => if i = s.2.2.1 + 1 then false else s.2.2.2.2.2 i).2.2.2.2.1 = true from h1) (by show s.2.2.1 + 1 = _; rw [h2]; rfl) (by omega) (Or.inr ⟨40, s.2.1, rfl, Or.inl rfl⟩) (by show (if ((deep + 1 : Nat) : Int) = s.2.2.1 + 1 then false else _) = false; rw [if_pos (by rw [h2]; rfl)])
      have st := prc_1 q1
      cases e : prs c f 3 (deep + 1) (p + 1) [] with
      | none => trivial
      | some v =>
        rw [e] at t
        cases v with
        | inl q => exact okC_b (Nat.le_succ p) st t
        | inr v =>
          obtain ⟨p1, r1⟩ := v
          obtain ⟨t1, s2, t2, t3, t4, t5, t6, t7⟩ := t
          refine okC_b (Nat.le_succ p) st (okC_b t1 t2 ?_)
          show okC c s2 p1 (if c p1 = 41 then some (.inr (p1 + 1, r1)) else some (.inl p1)) _
          by_cases w : c p1 = 41
          · rw [if_pos w]
            have t4' := t4
            obtain ⟨⟨dd, pend, a1, a2, a3, a4⟩, b1, b2, b3, b4⟩ := t4
            have e1 : pw 0 s2.1 s2.2.1 = (s.1 ++ r1, 40 :: s.2.1) := by
              rw [a1, a2]
              rw [pw_all (Or.inr ⟨40, s.2.1, rfl, Or.inl rfl⟩) pend _ (fun x hx => ⟨(a4 x hx).1, by have := (a4 x hx).2; omega⟩), ← a3, List.append_assoc]
            have q2 : stC s2 (c p1) = some (s.1 ++ r1, s.2.1, s2.2.2.1 - 1, 0, s2.2.2.2.2.1, s2.2.2.2.2.2) := by
              unfold stC
              rw [if_neg (by rw [b2]; decide)]
              unfold stB
              rw [if_neg (by rw [w]; decide), if_pos w, if_neg (by rw [b1]; omega), e1]
              rfl
            refine ⟨Nat.le_succ _, _, prc_1 q2, by omega, ⟨r1, [], rfl, rfl, by rw [List.map_nil, List.append_nil], fun x hx => by simp at hx⟩, ?_, b2, fun i hi => ?_, fun _ => Or.inl rfl⟩
            · show s2.2.2.1 - 1 = (deep : Int)
              rw [b1]; omega
            · show s2.2.2.2.2.2 i = s.2.2.2.2.2 i
              rw [b3 i (by omega)]
              show (if i = s.2.2.1 + 1 then false else s.2.2.2.2.2 i) = s.2.2.2.2.2 i
              rw [if_neg (by omega)]
          · rw [if_neg w]
            refine ⟨Nat.le_refl _, s2, by rw [Nat.sub_self]; rfl, rej_end t4 (hc p1) t5 t6 t7 (fun w' => absurd w' w), fun _ => Or.inr ?_⟩
            rw [t4.2.1]; omega
    · rw [if_neg y]
      have n40 : c p = 40 → s.2.2.1 = 4 := fun w => by
        have : ¬ deep < 4 := fun v => y ⟨w, v⟩
        omega
      by_cases x : dgB (c p)
      · rw [if_pos x]
        have q1 : stC s (c p) = some (s.1 ++ [c p - 48], s.2.1, s.2.2.1, 1, false, s.2.2.2.2.2) := stA' _ (by unfold stA; rw [if_neg z, if_neg (fun w => by unfold dgB at x; omega), if_pos x])
        have st := prc_1 q1
        have done : ∀ (p' : Nat) (v g : Int), p < p' → (dgB (c p') → g = 0 ∨ g = 3) → pst c 4 (deep + 1) deep s.1 s.2.1 s.2.2.2.2.2 p' [v] (s.1 ++ [v], s.2.1, s.2.2.1, g, false, s.2.2.2.2.2) := fun p' v g hp hg => ⟨⟨[v], [], rfl, rfl, rfl, fun x hx => by simp at hx⟩, h2, rfl, fun _ _ => rfl, hg⟩
        by_cases w : dgB (c (p + 1))
        · rw [if_pos w]
          have q2 : stC (s.1 ++ [c p - 48], s.2.1, s.2.2.1, 1, false, s.2.2.2.2.2) (c (p + 1)) = some (s.1 ++ [(c p - 48) * 10 + (c (p + 1) - 48)], s.2.1, s.2.2.1, 2, false, s.2.2.2.2.2) := by
            unfold stC
            rw [if_neg (show ¬ false = true by decide)]
            unfold stB
            rw [if_pos w, if_neg (by simp)]
            show some (lenL (s.1 ++ [c p - 48]) (c (p + 1) - 48), _) = _
            rw [lenL_a]
            rfl
          have st2 := prc_1 q2
          by_cases v : dgB (c (p + 2))
          · rw [if_pos v]
            have q3 : stC (s.1 ++ [(c p - 48) * 10 + (c (p + 1) - 48)], s.2.1, s.2.2.1, 2, false, s.2.2.2.2.2) (c (p + 2)) = some (s.1 ++ [((c p - 48) * 10 + (c (p + 1) - 48)) * 10 + (c (p + 2) - 48)], s.2.1, s.2.2.1, 3, false, s.2.2.2.2.2) := by
              unfold stC
              rw [if_neg (show ¬ false = true by decide)]
              unfold stB
              rw [if_pos v, if_neg (by simp)]
              show some (lenL (s.1 ++ [(c p - 48) * 10 + (c (p + 1) - 48)]) (c (p + 2) - 48), _) = _
              rw [lenL_a]
              rfl
            exact okC_b (Nat.le_succ p) st (okC_b (Nat.le_succ _) st2 ⟨Nat.le_succ _, _, prc_1 q3, by omega, done _ _ _ (by omega) (fun _ => Or.inr rfl)⟩)
          · rw [if_neg v]
            exact okC_b (Nat.le_succ p) st ⟨Nat.le_succ _, _, st2, by omega, done _ _ _ (by omega) (fun u => absurd u v)⟩
        · rw [if_neg w]
          exact ⟨Nat.le_succ _, _, st, by omega, done _ _ _ (by omega) (fun u => absurd u w)⟩
      · rw [if_neg x]
        by_cases w : xp_thg (c p) = -1
        · rw [if_pos w]
          refine ⟨Nat.le_refl _, s, by rw [Nat.sub_self]; rfl, ?_, fun _ => Or.inl h1⟩
          unfold stC
          rw [if_pos h1]
          unfold stA
          rw [if_neg z]
          by_cases v : c p = 40
          · rw [if_pos v, if_pos (n40 v)]
          · rw [if_neg v, if_neg x, if_pos w]
        · rw [if_neg w]
          have q1 : stC s (c p) = some (s.1 ++ [-1 - xp_thg (c p)], s.2.1, s.2.2.1, 0, false, s.2.2.2.2.2) := stA' _ (by
            unfold stA
            rw [if_neg z, if_neg (fun v => by rw [v] at w; exact absurd (show xp_thg 40 = -1 by decide) w), if_neg x, if_neg w])
          exact ⟨Nat.le_succ _, _, prc_1 q1, by omega, ⟨[-1 - xp_thg (c p)], [], rfl, rfl, rfl, fun x hx => by simp at hx⟩, h2, rfl, fun _ _ => rfl, fun _ => Or.inl rfl⟩
theorem C_all (hc : ∀ p, c p < 256) : ∀ f, spT c f ∧ spP c f ∧ spS c f ∧ spH c f ∧ spL c f ∧ spM c f
  | 0 => ⟨fun _ _ _ _ _ _ => by unfold prs; trivial, fun _ _ _ _ _ _ _ => by unfold prs; trivial, fun _ _ _ _ _ _ _ => by unfold prs; trivial, fun _ _ _ _ _ _ _ _ => by unfold prs; trivial, fun _ _ _ _ _ _ _ _ _ _ => by unfold prs; trivial, fun _ _ _ _ _ _ _ _ _ _ _ => by unfold prs; trivial⟩
  | f + 1 => by
    obtain ⟨h1, h2, h3, h4, h5, h6⟩ := C_all hc f
    exact ⟨C_T hc h1 h4, C_P h1 h5, C_S h2 h6, C_H hc h3, C_L hc h1 h5, C_M hc h2 h6⟩
/-- where it ends, and that it ends -/
def adq (c : Nat → Int) (N f k lev deep p : Nat) (acc : List Int) : Prop := ∃ v, prs c f lev deep p acc = some v ∧ match v with
  | .inl q => p ≤ q ∧ q ≤ N
  | .inr (p', _) => p + k ≤ p' ∧ p' ≤ N
theorem pr_n {N : Nat} (hN : ∀ p, N ≤ p → c p = -1) : ∀ (f : Nat), (∀ deep p acc, p ≤ N → 6 * (N - p) + 1 ≤ f → adq c N f 1 0 deep p acc) ∧ (∀ deep p acc, p ≤ N → 6 * (N - p) + 2 ≤ f → adq c N f 1 1 deep p acc) ∧ (∀ deep p acc, p ≤ N → 6 * (N - p) + 3 ≤ f → adq c N f 1 2 deep p acc) ∧ (∀ deep p acc, p ≤ N → 6 * (N - p) + 4 ≤ f → adq c N f 1 3 deep p acc) ∧ (∀ deep p acc, p ≤ N → 6 * (N - p) + 1 ≤ f → adq c N f 0 4 deep p acc) ∧ (∀ deep p acc, p ≤ N → 6 * (N - p) + 1 ≤ f → adq c N f 0 5 deep p acc) := by
  have lt : ∀ p (x : Int), c p = x → ¬ x = -1 → p < N := fun p x h1 h2 => by
    by_cases z : p < N
    · exact z
    · exact absurd (h1.symm.trans (hN p (by omega))) h2
  intro f
  induction f with
  | zero => exact ⟨fun _ _ _ _ h => by omega, fun _ _ _ _ h => by omega, fun _ _ _ _ h => by omega, fun _ _ _ _ h => by omega, fun _ _ _ _ h => by omega, fun _ _ _ _ h => by omega⟩
  | succ f ih =>
    obtain ⟨i0, i1, i2, i3, i4, i5⟩ := ih
    refine ⟨fun deep p acc hp hf => ?_, fun deep p acc hp hf => ?_, fun deep p acc hp hf => ?_, fun deep p acc hp hf => ?_, fun deep p acc hp hf => ?_, fun deep p acc hp hf => ?_⟩
    · unfold adq prs
      by_cases z : c p = 45
      · have := lt p _ z (by decide)
        rw [if_pos z]
        obtain ⟨v, e, h⟩ := i0 deep (p + 1) [] (by omega) (by omega)
        rw [e]
        cases v with
        | inl q => exact ⟨_, rfl, by dsimp only at h ⊢; omega⟩
        | inr v => obtain ⟨p1, r1⟩ := v; exact ⟨_, rfl, by dsimp only at h ⊢; omega⟩
      · rw [if_neg z]
        by_cases y : c p = 40 ∧ deep < 4
        · have := lt p _ y.1 (by decide)
          rw [if_pos y]
          obtain ⟨v, e, h⟩ := i3 (deep + 1) (p + 1) [] (by omega) (by omega)
          rw [e]
          cases v with
          | inl q => exact ⟨_, rfl, by dsimp only at h ⊢; omega⟩
          | inr v =>
            obtain ⟨p1, r1⟩ := v
            dsimp only at h ⊢
            by_cases w : c p1 = 41
            · have := lt p1 _ w (by decide)
              rw [if_pos w]; exact ⟨_, rfl, by dsimp only; omega⟩
            · rw [if_neg w]; exact ⟨_, rfl, by dsimp only; omega⟩
        · rw [if_neg y]
          by_cases x : dgB (c p)
          · have l1 := lt p _ rfl (by unfold dgB at x; omega)
            rw [if_pos x]
            by_cases w : dgB (c (p + 1))
            · have l2 := lt (p + 1) _ rfl (by unfold dgB at w; omega)
              rw [if_pos w]
              by_cases v : dgB (c (p + 2))
              · have l3 := lt (p + 2) _ rfl (by unfold dgB at v; omega)
                rw [if_pos v]; exact ⟨_, rfl, by dsimp only; omega⟩
              · rw [if_neg v]; exact ⟨_, rfl, by dsimp only; omega⟩
            · rw [if_neg w]; exact ⟨_, rfl, by dsimp only; omega⟩
          · rw [if_neg x]
            by_cases w : xp_thg (c p) = -1
            · rw [if_pos w]; exact ⟨_, rfl, by dsimp only; omega⟩
            · have l1 := lt p _ rfl (fun v => by rw [v] at w; exact w (by decide))
              rw [if_neg w]; exact ⟨_, rfl, by dsimp only; omega⟩
    · unfold adq prs
      obtain ⟨v, e, h⟩ := i0 deep p [] hp (by omega)
      rw [e]
      cases v with
      | inl q => exact ⟨_, rfl, h⟩
      | inr v =>
        obtain ⟨p1, r1⟩ := v
        dsimp only at h ⊢
        obtain ⟨v2, e2, h2⟩ := i4 deep p1 r1 (by omega) (by omega)
        refine ⟨v2, e2, ?_⟩
        cases v2 with
        | inl q => dsimp only at h2 ⊢; omega
        | inr v2 => obtain ⟨p2, r2⟩ := v2; dsimp only at h2 ⊢; omega
    · unfold adq prs
      obtain ⟨v, e, h⟩ := i1 deep p [] hp (by omega)
      rw [e]
      cases v with
      | inl q => exact ⟨_, rfl, h⟩
      | inr v =>
        obtain ⟨p1, r1⟩ := v
        dsimp only at h ⊢
        obtain ⟨v2, e2, h2⟩ := i5 deep p1 r1 (by omega) (by omega)
        refine ⟨v2, e2, ?_⟩
        cases v2 with
        | inl q => dsimp only at h2 ⊢; omega
        | inr v2 => obtain ⟨p2, r2⟩ := v2; dsimp only at h2 ⊢; omega
    · unfold adq prs
      obtain ⟨v, e, h⟩ := i2 deep p [] hp (by omega)
      rw [e]
      cases v with
      | inl q => exact ⟨_, rfl, h⟩
      | inr v =>
        obtain ⟨p1, r1⟩ := v
        dsimp only at h ⊢
        by_cases w : c p1 = 60 ∨ c p1 = 62 ∨ c p1 = 61
        · have l1 := lt p1 _ rfl (by omega)
          rw [if_pos w]
          obtain ⟨v2, e2, h2⟩ := i2 deep (p1 + 1) [] (by omega) (by omega)
          rw [e2]
          cases v2 with
          | inl q => exact ⟨_, rfl, by dsimp only at h2 ⊢; omega⟩
          | inr v2 => obtain ⟨p2, r2⟩ := v2; exact ⟨_, rfl, by dsimp only at h2 ⊢; omega⟩
        · rw [if_neg w]; exact ⟨_, rfl, by dsimp only; omega⟩
    · unfold adq prs
      by_cases w : c p = 42 ∨ c p = 47
      · have l1 := lt p _ rfl (by omega)
        rw [if_pos w]
        obtain ⟨v, e, h⟩ := i0 deep (p + 1) [] (by omega) (by omega)
        rw [e]
        cases v with
        | inl q => exact ⟨_, rfl, by dsimp only at h ⊢; omega⟩
        | inr v =>
          obtain ⟨p1, r1⟩ := v
          dsimp only at h ⊢
          obtain ⟨v2, e2, h2⟩ := i4 deep p1 (acc ++ r1 ++ [-(c p)]) (by omega) (by omega)
          refine ⟨v2, e2, ?_⟩
          cases v2 with
          | inl q => dsimp only at h2 ⊢; omega
          | inr v2 => obtain ⟨p2, r2⟩ := v2; dsimp only at h2 ⊢; omega
      · rw [if_neg w]; exact ⟨_, rfl, by dsimp only; omega⟩
    · unfold adq prs
      by_cases w : c p = 43 ∨ c p = 45
      · have l1 := lt p _ rfl (by omega)
        rw [if_pos w]
        obtain ⟨v, e, h⟩ := i1 deep (p + 1) [] (by omega) (by omega)
        rw [e]
        cases v with
        | inl q => exact ⟨_, rfl, by dsimp only at h ⊢; omega⟩
        | inr v =>
          obtain ⟨p1, r1⟩ := v
          dsimp only at h ⊢
          obtain ⟨v2, e2, h2⟩ := i5 deep p1 (acc ++ r1 ++ [-(c p)]) (by omega) (by omega)
          refine ⟨v2, e2, ?_⟩
          cases v2 with
          | inl q => dsimp only at h2 ⊢; omega
          | inr v2 => obtain ⟨p2, r2⟩ := v2; dsimp only at h2 ⊢; omega
      · rw [if_neg w]; exact ⟨_, rfl, by dsimp only; omega⟩
end RUT
