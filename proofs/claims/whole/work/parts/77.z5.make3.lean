/-! THE MAKING: what is past; the class. -/
section MA3
variable {D L : Nat} {xs : Nat → Int32} {Q : xe_Q} {N M B : xe_M}
abbrev sMk (M : xe_M) (z : Nat) : xe_M := va_up (va_up (va_up (va_up (va_up (va_up M (z + 1) (cI' 9)) (z + 2) (cI' 9)) (z + 3) (cI' 9)) (z + 4) (cI' 54)) (z + 5) (cL' 30)) z (.inr (5, [.ref (z + 1), .ref (z + 2), .ref (z + 3), .ref (z + 4), .ref (z + 5), .int 0]))
theorem sMk_ne {z p : Nat} (h : p < z ∨ z + 6 ≤ p) : sMk M z p = M p := by
  unfold sMk
  rw [va_up_ne _ _ (by omega), va_up_ne _ _ (by omega), va_up_ne _ _ (by omega), va_up_ne _ _ (by omega), va_up_ne _ _ (by omega), va_up_ne _ _ (by omega)]
theorem x0_z {p : Nat} (h : ¬ p = 0 ∧ ¬ p = 7 ∧ ¬ p = 26 ∧ ¬ p = 111) : x0 xs p = fun _ => 0 := by
  unfold x0
  rw [if_neg h.1, if_neg h.2.1, if_neg h.2.2.1, if_neg h.2.2.2]
theorem sMk_T {z p : Nat} (hS : xd_isS z = true) (h0 : 7 < z) (h2 : z + 5 < 26 ∨ (26 < z ∧ z + 5 < 111)) (hp : z ≤ p ∧ p < z + 6) : sMk M z p = cT L xs p := by
  have t := fun f g => xd_S hS L f g
  unfold sMk cT
  have : p = z ∨ p = z + 1 ∨ p = z + 2 ∨ p = z + 3 ∨ p = z + 4 ∨ p = z + 5 := by omega
  rw [x0_z (by omega)]
  rcases this with rfl | rfl | rfl | rfl | rfl | rfl
  · rw [up_at, (t _ _).1]
  · rw [va_up_ne _ _ (by omega), va_up_ne _ _ (by omega), va_up_ne _ _ (by omega), va_up_ne _ _ (by omega), va_up_ne _ _ (by omega), up_at, (t _ _).2.1]
  · rw [va_up_ne _ _ (by omega), va_up_ne _ _ (by omega), va_up_ne _ _ (by omega), va_up_ne _ _ (by omega), up_at, (t _ _).2.2.1]
  · rw [va_up_ne _ _ (by omega), va_up_ne _ _ (by omega), va_up_ne _ _ (by omega), up_at, (t _ _).2.2.2.1]
  · rw [va_up_ne _ _ (by omega), va_up_ne _ _ (by omega), up_at, (t _ _).2.2.2.2.1]
  · rw [va_up_ne _ _ (by omega), up_at, (t _ _).2.2.2.2.2.1]
theorem up_fn {f : Nat → Option Nat} {b k : Nat} (hf : f = fun i => if i < k then some (b + 6 * i) else none) : va_up f k (some (b + 6 * k)) = fun i => if i < k + 1 then some (b + 6 * i) else none := by
  funext j
  unfold va_up
  rw [hf]
  dsimp only
  by_cases z : j = k
  · rw [if_pos z, if_pos (by omega), z]
  · rw [if_neg z]
    by_cases y : j < k
    · rw [if_pos y, if_pos (by omega)]
    · rw [if_neg y, if_neg (by omega)]
def pA (L : Nat) (xs : Nat → Int32) (B : xe_M) (k : Nat) (M : xe_M) : Prop := (∀ p, p < 27 → ¬ p = 24 → M p = B p) ∧ M 24 = cO' 12 (fun i => if i < k then some (27 + 6 * i) else none) ∧ (∀ p, 27 ≤ p → p < 27 + 6 * k → M p = cT L xs p) ∧ ∀ p, 27 + 6 * k ≤ p → M p = B p
theorem ps_1 {fs : List Value} (h23 : B 23 = .inr (1, fs)) (hf : fs[0]? = some (.ref 24)) : ∀ (m k kc ks : Nat) (M : xe_M), k + m = 12 → pA L xs B k M → 6 * m ≤ kc → 117 * m ≤ ks → (∀ M', pA L xs B 12 M' → xe_Ev xm_T (xe_Call xm_T (D + 1)) xm_c16 Q 34 [.ref 23, .int (xJ 12)] [] (kc - 6 * m) (ks - 117 * m) 99 M') → xe_Ev xm_T (xe_Call xm_T (D + 1)) xm_c16 Q 22 [.ref 23, .int (xJ (k : Int))] [] kc ks (27 + 6 * k) M := by
  intro m
  induction m with
  | zero =>
    intro k kc ks M hk hp _ _ h
    have e1 : k = 12 := by omega
    subst e1
    refine xe_Ev_step ⟨_, rfl, _, rfl, xe_Ev_step ⟨_, rfl, xe_Ev_step ⟨_, rfl, _, _, [], rfl, fun _ => h M hp, fun q => absurd (show xJ 12 ≤ xJ ((12 : Nat) : Int) by decide) q⟩⟩⟩
  | succ m ih =>
    intro k kc ks M hk hp hkc hks h
    obtain ⟨p1, p2, p3, p4⟩ := hp
    have isS : ∀ k, k < 12 → xd_isS (27 + 6 * k) = true := by decide
    refine xe_Ev_step ⟨_, rfl, _, rfl, xe_Ev_step ⟨_, rfl, xe_Ev_step ⟨_, rfl, _, _, [], rfl, fun q => ?_, fun _ => ?_⟩⟩⟩
    · have := (xJ_le (a := 12) (b := (k : Int)) (by omega) (by omega)).mp q
      omega
    · refine xe_Ev_step ⟨_, rfl, 23, rfl, xe_Ev_step ⟨_, rfl, 23, fs, .ref 24, [], rfl, by decide, show 23 < 27 + 6 * k by omega, (p1 23 (by decide) (by decide)).trans h23, hf, xe_Ev_step ⟨_, rfl, _, rfl, xe_Ev_step ⟨_, rfl, _, rfl, by show 27 + 6 * k < 178; omega, by omega, by show 6 ≤ ks; omega, xe_Ev_step ⟨_, rfl, _, _, rfl, rfl, xe_Ev_step ⟨_, rfl, _, [], 27 + 6 * k, xe_dflt 5, [.ref (27 + 6 * k), .int (xJ (k : Int)), .ref 24], rfl, rfl, rfl, rfl, rfl, show 0 < 27 + 6 * k by omega, Nat.lt_succ_self _, up_at, Nat.le_of_ble_eq_true rfl, by show 5 ≤ kc - 1; omega, by show 111 ≤ ks - 6; omega, ?_⟩⟩⟩⟩⟩⟩
      refine cn_49 (by omega) (fun fs' efs => ?_)
      subst efs
      refine xe_Ev_step ⟨_, rfl, 24, xJ (k : Int), 27 + 6 * k, 12, (fun i => if i < k then some (27 + 6 * i) else none), _, [], rfl, by decide, show 24 < 27 + 6 * k + 6 by omega, show 0 < 27 + 6 * k by omega, show 27 + 6 * k < 27 + 6 * k + 6 by omega, up_at, ?_, xJ_in (by decide) (by omega), ?_⟩
      · exact (sMk_ne (M := M) (z := 27 + 6 * k) (p := 24) (by omega)).trans p2
      · rw [xJ_nat (by omega), Int.toNat_natCast, up_fn rfl]
        refine xe_Ev_step ⟨_, rfl, xJ (k : Int), rfl, rfl, xe_Ev_step ⟨_, rfl, ?_⟩⟩
        rw [show xJ (k : Int) + Int32.ofInt 1 = xJ ((k + 1 : Nat) : Int) from xJ_add k 1]
        have := ih (k + 1) (kc - 1 - 5) (ks - 6 - 111) (va_up (sMk M (27 + 6 * k)) 24 (cO' 12 (fun i => if i < k + 1 then some (27 + 6 * i) else none))) (by omega) ⟨fun p a b => ?_, up_at, fun p a b => ?_, fun p a => ?_⟩ (by omega) (by omega) (fun M' hM' => ?_)
        · rw [show 27 + 6 * (k + 1) = 27 + 6 * k + 6 by omega] at this
          exact this
        · rw [va_up_ne _ _ b, sMk_ne (by omega), p1 p a b]
        · rw [va_up_ne _ _ (by omega)]
          by_cases z : p < 27 + 6 * k
          · rw [sMk_ne (by omega), p3 p a z]
          · exact sMk_T (isS k (by omega)) (by omega) (by omega) (by omega)
        · rw [va_up_ne _ _ (by omega), sMk_ne (by omega), p4 p (by omega)]
        · rw [show kc - 1 - 5 - 6 * m = kc - 6 * (m + 1) by omega, show ks - 6 - 111 - 117 * m = ks - 117 * (m + 1) by omega]
          exact h M' hM'
def pB (L : Nat) (xs : Nat → Int32) (B : xe_M) (k : Nat) (M : xe_M) : Prop := (∀ p, p < 99 → ¬ p = 25 → ¬ p = 26 → M p = B p) ∧ M 25 = cO' 2 (fun i => if i < k then some (99 + 6 * i) else none) ∧ M 26 = .inl (1, 2, .inl (fun i => if i < k then -1 else 0)) ∧ (∀ p, 99 ≤ p → p < 99 + 6 * k → M p = cT L xs p) ∧ ∀ p, 99 + 6 * k ≤ p → M p = B p
theorem ps_2 {fs : List Value} (h23 : B 23 = .inr (1, fs)) (hf : fs[1]? = some (.ref 25)) (hf2 : fs[2]? = some (.ref 26)) (h : ∀ M', pB L xs B 2 M' → Q none 111 M') : ∀ (m k kc ks : Nat) (M : xe_M), k + m = 2 → pB L xs B k M → 6 * m ≤ kc → 117 * m ≤ ks → xe_Ev xm_T (xe_Call xm_T (D + 1)) xm_c16 Q 36 [.ref 23, .int (xJ (k : Int))] [] kc ks (99 + 6 * k) M := by
  intro m
  induction m with
  | zero =>
    intro k kc ks M hk hp _ _
    have e1 : k = 2 := by omega
    subst e1
    refine xe_Ev_step ⟨_, rfl, _, rfl, xe_Ev_step ⟨_, rfl, xe_Ev_step ⟨_, rfl, _, _, [], rfl, fun _ => xe_Ev_step ⟨_, rfl, rfl, h M hp⟩, fun q => absurd (show xJ 2 ≤ xJ ((2 : Nat) : Int) by decide) q⟩⟩⟩
  | succ m ih =>
    intro k kc ks M hk hp hkc hks
    obtain ⟨p1, p2, p5, p3, p4⟩ := hp
    have isS : ∀ k, k < 2 → xd_isS (99 + 6 * k) = true := by decide
    refine xe_Ev_step ⟨_, rfl, _, rfl, xe_Ev_step ⟨_, rfl, xe_Ev_step ⟨_, rfl, _, _, [], rfl, fun q => ?_, fun _ => ?_⟩⟩⟩
    · have := (xJ_le (a := 2) (b := (k : Int)) (by omega) (by omega)).mp q
      omega
    · refine xe_Ev_step ⟨_, rfl, 23, rfl, xe_Ev_step ⟨_, rfl, 23, fs, .ref 25, [], rfl, by decide, show 23 < 99 + 6 * k by omega, (p1 23 (by decide) (by decide) (by decide)).trans h23, hf, xe_Ev_step ⟨_, rfl, _, rfl, xe_Ev_step ⟨_, rfl, _, rfl, by show 99 + 6 * k < 178; omega, by omega, by show 6 ≤ ks; omega, xe_Ev_step ⟨_, rfl, _, _, rfl, rfl, xe_Ev_step ⟨_, rfl, _, [], 99 + 6 * k, xe_dflt 5, [.ref (99 + 6 * k), .int (xJ (k : Int)), .ref 25], rfl, rfl, rfl, rfl, rfl, show 0 < 99 + 6 * k by omega, Nat.lt_succ_self _, up_at, Nat.le_of_ble_eq_true rfl, by show 5 ≤ kc - 1; omega, by show 111 ≤ ks - 6; omega, ?_⟩⟩⟩⟩⟩⟩
      refine cn_49 (by omega) (fun fs' efs => ?_)
      subst efs
      refine xe_Ev_step ⟨_, rfl, 25, xJ (k : Int), 99 + 6 * k, 2, (fun i => if i < k then some (99 + 6 * i) else none), _, [], rfl, by decide, show 25 < 99 + 6 * k + 6 by omega, show 0 < 99 + 6 * k by omega, show 99 + 6 * k < 99 + 6 * k + 6 by omega, up_at, ?_, xJ_in (by decide) (by omega), ?_⟩
      · exact (sMk_ne (M := M) (z := 99 + 6 * k) (p := 25) (by omega)).trans p2
      · rw [xJ_nat (by omega), Int.toNat_natCast, up_fn rfl]
        refine xe_Ev_step ⟨_, rfl, 23, rfl, xe_Ev_step ⟨_, rfl, 23, fs, .ref 26, [], rfl, by decide, show 23 < 99 + 6 * k + 6 by omega, ?_, hf2, xe_Ev_step ⟨_, rfl, _, rfl, xe_Ev_step ⟨_, rfl, xe_Ev_step ⟨_, rfl, 26, xJ (k : Int), Int32.ofInt (-1), 2, (fun i => if i < k then -1 else 0), [], rfl, by decide, show 26 < 99 + 6 * k + 6 by omega, ?_, xJ_in (by decide) (by omega), ?_⟩⟩⟩⟩⟩
        · rw [va_up_ne _ _ (by decide)]
          exact (sMk_ne (M := M) (z := 99 + 6 * k) (p := 23) (by omega)).trans ((p1 23 (by decide) (by decide) (by decide)).trans h23)
        · rw [va_up_ne _ _ (by decide)]
          exact (sMk_ne (M := M) (z := 99 + 6 * k) (p := 26) (by omega)).trans p5
        · rw [xJ_nat (by omega), Int.toNat_natCast, show upd (fun i => if i < k then (-1 : Int32) else 0) k (Int32.ofInt (-1)) = fun i => if i < k + 1 then -1 else 0 from by
            funext j
            unfold upd
            by_cases z : j = k
            · rw [if_pos z, if_pos (by omega)]; rfl
            · rw [if_neg z]
              dsimp only
              by_cases y : j < k
              · rw [if_pos y, if_pos (by omega)]
              · rw [if_neg y, if_neg (by omega)]]
          refine xe_Ev_step ⟨_, rfl, xJ (k : Int), rfl, rfl, xe_Ev_step ⟨_, rfl, ?_⟩⟩
          rw [show xJ (k : Int) + Int32.ofInt 1 = xJ ((k + 1 : Nat) : Int) from xJ_add k 1]
          have := ih (k + 1) (kc - 1 - 5) (ks - 6 - 111) (va_up (va_up (sMk M (99 + 6 * k)) 25 (cO' 2 (fun i => if i < k + 1 then some (99 + 6 * i) else none))) 26 (.inl (1, 2, .inl (fun i => if i < k + 1 then -1 else 0)))) (by omega) ⟨fun p a b c => ?_, ?_, up_at, fun p a b => ?_, fun p a => ?_⟩ (by omega) (by omega)
          · rw [show 99 + 6 * (k + 1) = 99 + 6 * k + 6 by omega] at this
            exact this
          · rw [va_up_ne _ _ c, va_up_ne _ _ b, sMk_ne (by omega), p1 p a b c]
          · rw [va_up_ne _ _ (by decide)]; exact up_at
          · rw [va_up_ne _ _ (by omega), va_up_ne _ _ (by omega)]
            by_cases z : p < 99 + 6 * k
            · rw [sMk_ne (by omega), p3 p a z]
            · exact sMk_T (isS k (by omega)) (by omega) (by omega) (by omega)
          · rw [va_up_ne _ _ (by omega), va_up_ne _ _ (by omega), sMk_ne (by omega), p4 p (by omega)]
theorem cn_16 (h : ∀ M', (∀ p, ¬ (23 ≤ p ∧ p < 111) → M' p = N p) → (∀ p, 23 ≤ p → p < 111 → M' p = cT L xs p) → Q none 111 M') : xe_Call xm_T (D + 2) 16 [.ref 23] (23 + 1) (va_up N 23 (.inr (1, xe_dflt 1))) Q := by
  refine ⟨_, rfl, mk_0 rfl rfl rfl ?_⟩
  refine it_oarr (n := 12) (k := 12) (f := 64) rfl rfl rfl rfl (by decide) rfl (by omega) (by simp [xe_dflt]) rfl (by decide) ?_
  refine it_oarr (n := 2) (k := 2) (f := 65) rfl rfl rfl rfl (by decide) rfl (by omega) (by simp [xe_dflt]) rfl (by decide) ?_
  refine it_int (n := 2) (k := 2) (f := 66) rfl rfl rfl rfl (by decide) rfl (by omega) (by simp [xe_dflt]) rfl (by decide) ?_
  refine it_fld (v := 0) (f := 67) rfl rfl rfl rfl (by omega) (by simp [xe_dflt]) rfl ?_
  refine it_fld (v := 0) (f := 68) rfl rfl rfl rfl (by omega) (by simp [xe_dflt]) rfl ?_
  refine xe_Ev_step ⟨_, rfl, xe_Ev_step ⟨_, rfl, _, [], rfl, rfl, ?_⟩⟩
  generalize hM : va_up (va_up (va_up (va_up N (23 + 1) (cO' 12 fun _ => none)) (23 + 1 + 1) (cO' 2 fun _ => none)) (23 + 1 + 1 + 1) (cI' 2)) 23 _ = B
  have e23 : B 23 = .inr (1, [.ref 24, .ref 25, .ref 26, .int 0, .int 0]) := by rw [← hM]; rfl
  have e24 : B 24 = cO' 12 (fun i => if i < 0 then some (27 + 6 * i) else none) := by
    rw [← hM, show (fun i : Nat => if i < 0 then some (27 + 6 * i) else none) = fun _ => none from funext fun i => if_neg (Nat.not_lt_zero i)]; rfl
  have e25 : B 25 = cO' 2 (fun i => if i < 0 then some (99 + 6 * i) else none) := by
    rw [← hM, show (fun i : Nat => if i < 0 then some (99 + 6 * i) else none) = fun _ => none from funext fun i => if_neg (Nat.not_lt_zero i)]; rfl
  have e26 : B 26 = .inl (1, 2, .inl (fun i => if i < 0 then -1 else 0)) := by
    rw [← hM, show (fun i : Nat => if i < 0 then (-1 : Int32) else 0) = fun _ => 0 from funext fun i => if_neg (Nat.not_lt_zero i)]; rfl
  have eN : ∀ p, p < 23 ∨ 26 < p → B p = N p := fun p hp => by rw [← hM, va_up_ne _ _ (by omega), va_up_ne _ _ (by omega), va_up_ne _ _ (by omega), va_up_ne _ _ (by omega)]
  refine ps_1 (L := L) (xs := xs) (B := B) (D := D) e23 rfl 12 0 _ _ B rfl ⟨fun _ _ _ => rfl, e24, fun p a b => by omega, fun _ _ => rfl⟩ (by decide) (by decide) (fun M1 hM1 => ?_)
  obtain ⟨a1, a2, a3, a4⟩ := hM1
  refine xe_Ev_step ⟨_, rfl, xe_Ev_step ⟨_, rfl, _, [], rfl, rfl, ?_⟩⟩
  refine ps_2 (L := L) (xs := xs) (B := M1) (D := D) ((a1 23 (by decide) (by decide)).trans e23) rfl rfl (fun M2 hM2 => ?_) 2 0 _ _ M1 rfl ⟨fun _ _ _ _ => rfl, (a1 25 (by decide) (by decide)).trans e25, (a1 26 (by decide) (by decide)).trans e26, fun p a b => by omega, fun _ _ => rfl⟩ (by decide) (by decide)
  obtain ⟨b1, b2, b3, b4, b5⟩ := hM2
  refine h M2 (fun p hp => ?_) (fun p h1 h2 => ?_)
  · by_cases z : p < 99
    · rw [b1 p z (by omega) (by omega), a1 p (by omega) (by omega), eN p (by omega)]
    · rw [b5 p (by omega), a4 p (by omega), eN p (by omega)]
  · by_cases z : 99 ≤ p
    · exact b4 p z (by omega)
    · by_cases y : 27 ≤ p
      · rw [b1 p (by omega) (by omega) (by omega)]; exact a3 p y (by omega)
      · have : p = 23 ∨ p = 24 ∨ p = 25 ∨ p = 26 := by omega
        rcases this with rfl | rfl | rfl | rfl
        · rw [b1 23 (by decide) (by decide) (by decide), a1 23 (by decide) (by decide), e23]; rfl
        · rw [b1 24 (by decide) (by decide) (by decide), a2]; rfl
        · rw [b2]; rfl
        · rw [b3]; rfl
end MA3
