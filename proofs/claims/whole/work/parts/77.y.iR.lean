/-! THE RULE: on both sides it comes to the same. -/
section RUY
variable {L D : Nat} {d : xh_D} {e : xd_E}
theorem cR_c {f g : Int → Int} : ∀ (l : List Int) (i : Int), (∀ j, i ≤ j → j < i + (l.length : Int) → g j = f j) → cR f i l → cR g i l
  | [], _, _, _ => trivial
  | x :: l, i, h, hs => ⟨by rw [h i (Int.le_refl _) (by rw [List.length_cons]; omega)]; exact hs.1, cR_c l (i + 1) (fun j a b => h j (by omega) (by rw [List.length_cons]; omega)) hs.2⟩
theorem env_r {t u r k dd p g : Int} (h1 : 0 ≤ t ∧ t ≤ 9) (h2 : 0 ≤ u ∧ u ≤ 9) (h3 : 0 ≤ r ∧ r ≤ 9) (h4 : 0 ≤ k ∧ k ≤ 9) (h5 : 0 ≤ dd ∧ dd ≤ 9) (h6 : 0 ≤ p ∧ p ≤ 9) (h7 : 0 ≤ g ∧ g ≤ 9) (x : Int) : 0 ≤ envF t u r k dd p g x ∧ envF t u r k dd p g x ≤ 9 := by
  unfold envF
  repeat' split <;> omega
theorem iR_0 {code rule : Int → Int} : iR 0 code 0 rule := by
  refine ⟨fR [], fun D L d e P th hD h6 hc ht h => ?_, fun a ha D L d e P p g day hD h16 hr hp hg hd t1 t2 s1 s2 k1 k2 h => ?_⟩
  · have a0 := ht 0 (by omega) (by omega)
    have a2 := ht 2 (by omega) (by omega)
    refine yC_of rfl rfl rfl (by omega) (yk_47_0 (by omega) ?_)
    rw [h6, a0.1, a2.1]
    exact ⟨by omega, fun z => absurd rfl z, fun _ => ⟨by omega, h d Fk_refl⟩⟩
  · have fin : ∀ (v12 : Int), v12 = 9 - d 148 (9 * p + g) + xp_apart (d a (9 + p)) (d a (9 + g)) → yR v12 ∧ P (max 0 (min 99 v12)) d e := fun v ev => by
      have ap : 0 ≤ xp_apart (d a (9 + p)) (d a (9 + g)) ∧ xp_apart (d a (9 + p)) (d a (9 + g)) ≤ 9 := by unfold xp_apart; omega
      rw [show 9 * p + g = p * 9 + g by omega] at ev
      have := h d Fk_refl
      rw [show fR [] (envF (d 148 (p * 9 + g)) (d 148 (g * 9 + p)) (xp_apart (d a (9 + p)) (d a (9 + g))) (xp_bc (xi_and (d a (18 + g)) (xi_xor (d a (18 + p)) (-1)))) (day % 9) p g) = v by rw [ev]; rfl, show min v 99 = min 99 v by omega] at this
      exact ⟨by omega, this⟩
    rcases ha with rfl | rfl
    · refine yC_of rfl rfl rfl (by omega) (yk_210_147_0 (by omega) ?_)
      rw [h16]
      exact ⟨by omega, fun z => absurd rfl z, fun _ => ⟨by omega, by omega, by omega, s1, s2, fin⟩⟩
    · refine yC_of rfl rfl rfl (by omega) (yk_210_162_0 (by omega) ?_)
      rw [h16]
      exact ⟨by omega, fun z => absurd rfl z, fun _ => ⟨by omega, by omega, by omega, s1, s2, fin⟩⟩
theorem fR_v {r : List Int} {th : Int → Int} {v : Int} (hr : 0 < r.length) (h : val th r v) : fR r th = v ∧ run th r [] = [v] := by
  have h0 := h []
  refine ⟨?_, h0⟩
  unfold fR
  rw [if_neg (fun w => by rw [w] at hr; exact absurd hr (by decide)), h0]
  rfl
theorem iR_r {code rule T : Int → Int} {r : List Int} {N : Nat} (hg : gdR r) (hl : 0 < r.length ∧ r.length ≤ 40) (hc : cR code 0 r) (hN : 1 ≤ N ∧ N ≤ 40) (hT : ∀ j, 0 ≤ j → j < (N : Int) → (0 ≤ T j ∧ T j < 256) ∧ rule j = xt_sb (T j)) (hp : prs (cH T N) 300 3 0 0 [] = some (.inr (N, r))) : iR r.length code N rule := by
  refine ⟨fR r, fun D L d e P th hD h6 hcd ht h => ?_, fun a ha D L d e P p g day hD h16 hrl hp' hg' hd t1 t2 s1 s2 k1 k2 h => ?_⟩
  · obtain ⟨v, vr, hv⟩ := hg.1 th (fun x a b => by have := ht x a b; omega)
    obtain ⟨e1, e2⟩ := fR_v hl.1 hv
    rw [e1] at h
    exact sq_47 hD h6 hl (cR_c r 0 (fun j a b => hcd j a (by omega)) hc) (fun i a b => by have := ht i a b; exact ⟨this.1, by omega⟩) hg.2 e2 h
  · have ap : 0 ≤ xp_apart (d a (9 + p)) (d a (9 + g)) ∧ xp_apart (d a (9 + p)) (d a (9 + g)) ≤ 9 := by unfold xp_apart; omega
    have bk := bc_k k2 k1
    obtain ⟨th, eth⟩ : ∃ th, th = envF (d 148 (p * 9 + g)) (d 148 (g * 9 + p)) (xp_apart (d a (9 + p)) (d a (9 + g))) (xp_bc (xi_and (d a (18 + g)) (xi_xor (d a (18 + p)) (-1)))) (day % 9) p g := ⟨_, rfl⟩
    rw [← eth] at h
    have tr : ∀ x, 0 ≤ th x ∧ th x ≤ 9 := fun x => by rw [eth]; exact env_r t1 t2 ap (by omega) (by omega) (by omega) (by omega) x
    have main : ∀ (d0 : xh_D), (∀ q i, ¬ q = 146 → d0 q i = d q i) → d0 146 9 = 153 → d0 146 10 = N → d0 146 11 = 40 → d0 146 12 = 0 → d0 146 13 = -1 → d0 146 17 = a → d0 146 18 = p → d0 146 19 = g → d0 146 20 = day → Fk sC d d0 → yC (D - 1) 203 L [.ref 146, .int (xJ (0 : Int))] d0 e (fun x2 d3 e4 => yR x2 ∧ P (max 0 (min 99 x2)) d3 e4) := by
      intro d0 f0 q9 q10 q11 q12 q13 q17 q18 q19 q20 fk
      refine (M_all (L := L) (q := 153) (T := T) (N := N) (th := th) 300).2.2.2.1 (D - 1) 0 0 d0 e _ _ (by omega) (by omega) ⟨q9, Or.inr ⟨rfl, by omega⟩, q10, q11, q12, q13, by omega, by omega, fun j x y z => ?_⟩ ⟨fun x _ _ => by have := tr x; omega, Or.inr ⟨a, ha, q17, ?_⟩⟩ hp ?_
      · rw [f0 153 j (by decide), hrl j x (by omega)]
        exact hT j x y
      · have na : ¬ a = 146 := by omega
        rw [q18, q19, q20, f0 a _ na, f0 a _ na, f0 a _ na, f0 a _ na, f0 148 _ (by decide), f0 148 _ (by decide), eth, show 9 * p + g = p * 9 + g by omega, show 9 * g + p = g * 9 + p by omega]
        exact ⟨hp', hg', hd, s1, s2, rfl, rfl, rfl, rfl, rfl, rfl, rfl⟩
      · intro x d3 xr fr vx _
        obtain ⟨e1, _⟩ := fR_v hl.1 vx
        have := h d3 (Fk_trans fk (fun q i s => fr q i (fun w => by
          rcases w.2 with u | u <;> rw [w.1, u] at s <;> exact absurd s (by decide))))
        rw [e1, show min x 99 = min 99 x by omega] at this
        exact ⟨xr, this⟩
    have sc : ∀ v9 v10 v11 v12 v13 v17 v18 v19 v20 : Int, Fk sC d (xs (xs (xs (xs (xs (xs (xs (xs (xs d 146 9 v9) 146 10 v10) 146 11 v11) 146 12 v12) 146 13 v13) 146 17 v17) 146 18 v18) 146 19 v19) 146 20 v20) := fun _ _ _ _ _ _ _ _ _ => Fk_xs (Fk_xs (Fk_xs (Fk_xs (Fk_xs (Fk_xs (Fk_xs (Fk_xs (Fk_xs Fk_refl rfl) rfl) rfl) rfl) rfl) rfl) rfl) rfl) rfl
    have np : ∀ (q : Nat) (i v9 v10 v11 v12 v13 v17 v18 v19 v20 : Int), ¬ q = 146 → xs (xs (xs (xs (xs (xs (xs (xs (xs d 146 9 v9) 146 10 v10) 146 11 v11) 146 12 v12) 146 13 v13) 146 17 v17) 146 18 v18) 146 19 v19) 146 20 v20 q i = d q i := fun q i _ _ _ _ _ _ _ _ _ hq => by rw [xs_np hq, xs_np hq, xs_np hq, xs_np hq, xs_np hq, xs_np hq, xs_np hq, xs_np hq, xs_np hq]
    rcases ha with rfl | rfl
    · refine yC_of rfl rfl rfl (by omega) (yk_210_147_0 (by omega) ?_)
      rw [h16]
      refine ⟨by omega, fun _ => main _ (fun q i hq => np q i _ _ _ _ _ _ _ _ _ hq) ?_ ?_ ?_ ?_ ?_ ?_ ?_ ?_ ?_ (sc _ _ _ _ _ _ _ _ _), fun z => by omega⟩ <;> simp only [xs_app] <;> simp
    · refine yC_of rfl rfl rfl (by omega) (yk_210_162_0 (by omega) ?_)
      rw [h16]
      refine ⟨by omega, fun _ => main _ (fun q i hq => np q i _ _ _ _ _ _ _ _ _ hq) ?_ ?_ ?_ ?_ ?_ ?_ ?_ ?_ ?_ (sc _ _ _ _ _ _ _ _ _), fun z => by omega⟩ <;> simp only [xs_app] <;> simp
end RUY
