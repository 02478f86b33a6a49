/-! TASKS: the reference asks; the slots. -/
section TS6
variable {L D : Nat} {d : xh_D} {e : xd_E} {m : Int} {c : Int → Int}
theorem sl_n (hm : 0 ≤ m ∧ m ≤ 6) (hc : ∀ j, 0 ≤ j → j < m → 1 ≤ c j ∧ c j ≤ 3) : cI (slB m c) 18 = sI c m := by
  have key : ∀ k : Nat, cI (slB m c) (3 * (k : Int)) = sI c (min k m) := by
    intro k
    induction k with
    | zero => rw [show min ((0 : Nat) : Int) m = 0 by omega]; rfl
    | succ k ih =>
      have b : ∀ r : Int, 0 ≤ r → r < 3 → slB m c (3 * (k : Int) + r) = decide ((k : Int) < m ∧ r < c k) := fun r a1 a2 => by
        unfold slB
        rw [show (3 * (k : Int) + r) / 3 = (k : Int) by omega, show (3 * (k : Int) + r) % 3 = r by omega]
      have b0 := b 0 (by omega) (by omega)
      have b1 := b 1 (by omega) (by omega)
      have b2 := b 2 (by omega) (by omega)
      rw [Int.add_zero] at b0
      rw [show 3 * ((k + 1 : Nat) : Int) = 3 * (k : Int) + 1 + 1 + 1 by omega, cI_s _ (by omega), cI_s _ (by omega), cI_s _ (by omega), ih, show 3 * (k : Int) + 1 + 1 = 3 * (k : Int) + 2 by omega, b0, b1, b2]
      by_cases w : (k : Int) < m
      · have cc := hc k (by omega) w
        rw [show min (k : Int) m = k by omega, show min ((k + 1 : Nat) : Int) m = (k : Int) + 1 by omega, sI_s c (by omega)]
        have : c k = 1 ∨ c k = 2 ∨ c k = 3 := by omega
        rcases this with h | h | h <;> rw [h] <;> simp [w] <;> omega
      · rw [show min (k : Int) m = m by omega, show min ((k + 1 : Nat) : Int) m = m by omega]
        simp [w]
  have := key 6
  rw [show min ((6 : Nat) : Int) m = m by omega] at this
  exact this
theorem sq_241 {n : Int} {P : xh_D → xd_E → Prop} (hD : 2 ≤ D) (hn : 0 ≤ n ∧ n ≤ 9) (h1 : d 146 1 = n) (h : ∀ d', (∀ q, ¬ q = 146 → ¬ q = 164 → ¬ q = 165 → d' q = d q) → (∀ j, ¬ j = 41 → d' 146 j = d 146 j) → d' 146 41 = n → (∀ q, 0 ≤ q → q < n → d' 164 q = d 147 q ∧ d' 165 q = d 147 (18 + q)) → P d' e) : yV D 241 L [.ref 146] d e P := by
  refine yV_of rfl rfl rfl (by omega) (yk_241_0 ?_)
  rw [h1]
  refine lp_up (n := n) (X := fun i => ∀ dc, (∀ q, ¬ q = 146 → ¬ q = 164 → ¬ q = 165 → dc q = d q) → (∀ j, ¬ j = 41 → dc 146 j = d 146 j) → dc 146 41 = n → (∀ q, 0 ≤ q → q < i → dc 164 q = d 147 q ∧ dc 165 q = d 147 (18 + q)) → yB (D - 1) xm_c241 (yQv L P) L 6 [.ref 146, .int (xJ i)] [] dc e) hn.1 ?_ ?_ (xs d 146 41 n) (fun q a _ _ => by rw [xs_fn, if_neg a]) (fun j a => by rw [xs_ni a]) xs_eq (fun q a b => by omega)
  · intro i a b ih dc f1 f2 f3 f4
    refine yk_241_6 ?_
    rw [f2 1 (by decide), h1, f1 147 (by decide) (by decide) (by decide)]
    refine ⟨by omega, by omega, fun z => by omega, fun _ => ⟨by omega, by omega, by omega, ih _ (fun q h1 h2 h3 => by rw [xs_fn, if_neg h3, xs_fn, if_neg h2, f1 q h1 h2 h3]) (fun j h => by rw [xs_np (by decide), xs_np (by decide), f2 j h]) (by rw [xs_np (by decide), xs_np (by decide), f3]) (fun q a1 a2 => ?_)⟩⟩
    by_cases z : q = i
    · rw [z, xs_np (by decide), xs_eq, xs_eq]; exact ⟨rfl, rfl⟩
    · rw [xs_np (by decide), xs_ni z, xs_ni z, xs_np (by decide)]; exact f4 q a1 (by omega)
  · intro dc f1 f2 f3 f4
    refine yk_241_6 ?_
    rw [f2 1 (by decide), h1]
    exact ⟨by omega, by omega, fun _ => h dc f1 f2 f3 f4, fun z => by omega⟩
end TS6
