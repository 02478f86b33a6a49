/-! THE MAKING: the larger constructors. -/
section MA2
variable {D : Nat} {code : List Instr} {Q : xe_Q} {i : Nat} {dl st : List Value} {kc ks z a : Nat} {N M : xe_M}
/-- the ints when all is made -/
def x0 (xs : Nat → Int32) : xd_D := fun p => if p = 0 then xs else if p = 7 then (fun i => if i < 81 then 1 else 0) else if p = 26 then (fun i => if i < 2 then -1 else 0) else if p = 111 then (fun i => if i = 11 then 1 else 0) else fun _ => 0
def cT (L : Nat) (xs : Nat → Int32) (p : Nat) : va_E := xd_cell L p (x0 xs p) (fun _ => 0)
theorem ev_next {v : Value} {ins : Instr} (hc : code[i]? = some ins) (h : xe_ins xm_T (xe_Call xm_T D) Q (xe_Ev xm_T (xe_Call xm_T D) code Q) i dl st kc ks z M ins) : xe_Ev xm_T (xe_Call xm_T D) code Q i dl st kc ks z M := xe_Ev_step ⟨_, hc, h⟩
theorem pe_lp {B : xe_M} {fs : List Value} (hB : B 6 = .inr (2, fs)) (hf : fs[0]? = some (.ref 7)) (h : Q none 11 (va_up B 7 (.inl (1, 81, .inl (fun i => if i < 81 then 1 else 0))))) : ∀ (m k : Nat), k + m = 81 → xe_Ev xm_T (xe_Call xm_T D) xm_c20 Q 23 [.ref 6, .int (xJ (k : Int))] [] kc ks 11 (va_up B 7 (.inl (1, 81, .inl (fun i => if i < k then 1 else 0)))) := by
  intro m
  induction m with
  | zero =>
    intro k hk
    have e1 : k = 81 := by omega
    subst e1
    refine xe_Ev_step ⟨_, rfl, _, rfl, xe_Ev_step ⟨_, rfl, xe_Ev_step ⟨_, rfl, _, _, [], rfl, fun _ => xe_Ev_step ⟨_, rfl, rfl, h⟩, fun q => absurd (show xJ 81 ≤ xJ ((81 : Nat) : Int) by decide) q⟩⟩⟩
  | succ m ih =>
    intro k hk
    refine xe_Ev_step ⟨_, rfl, _, rfl, xe_Ev_step ⟨_, rfl, xe_Ev_step ⟨_, rfl, _, _, [], rfl, fun q => ?_, fun _ => ?_⟩⟩⟩
    · have := (xJ_le (a := 81) (b := (k : Int)) (by omega) (by omega)).mp q
      omega
    · refine xe_Ev_step ⟨_, rfl, 6, rfl, xe_Ev_step ⟨_, rfl, 6, fs, .ref 7, [], rfl, by decide, by decide, ?_, hf, xe_Ev_step ⟨_, rfl, _, rfl, xe_Ev_step ⟨_, rfl, xe_Ev_step ⟨_, rfl, 7, xJ (k : Int), Int32.ofInt 1, 81, _, [], rfl, by decide, by decide, up_at, xJ_in (by decide) (by omega), ?_⟩⟩⟩⟩⟩
      · rw [va_up_ne _ _ (by decide)]; exact hB
      · rw [xp_w0, xJ_nat (by omega), show upd (fun i => if i < k then (1 : Int32) else 0) (k : Int).toNat (Int32.ofInt 1) = fun i => if i < k + 1 then 1 else 0 from by
          funext j
          unfold upd
          rw [Int.toNat_natCast]
          by_cases z : j = k
          · rw [if_pos z, if_pos (by omega)]; rfl
          · rw [if_neg z]
            dsimp only
            by_cases y : j < k
            · rw [if_pos y, if_pos (by omega)]
            · rw [if_neg y, if_neg (by omega)]]
        refine xe_Ev_step ⟨_, rfl, xJ (k : Int), rfl, rfl, xe_Ev_step ⟨_, rfl, ?_⟩⟩
        rw [show xJ (k : Int) + Int32.ofInt 1 = xJ ((k + 1 : Nat) : Int) from xJ_add k 1]
        exact ih (k + 1) (by omega)
theorem cn_20 (h : ∀ M', (∀ p, ¬ (6 ≤ p ∧ p < 11) → M' p = N p) → M' 6 = .inr (2, [.ref 7, .ref 8, .ref 9, .ref 10, .int 0]) → M' 7 = .inl (1, 81, .inl (fun i => if i < 81 then 1 else 0)) → M' 8 = cI' 81 → M' 9 = cI' 4 → M' 10 = cI' 512 → Q none 11 M') : xe_Call xm_T (D + 1) 20 [.ref 6] (6 + 1) (va_up N 6 (.inr (2, xe_dflt 2))) Q := by
  refine ⟨_, rfl, mk_0 rfl rfl rfl ?_⟩
  refine it_int (n := 81) (k := 81) (f := 128) rfl rfl rfl rfl (by decide) rfl (by omega) (by simp [xe_dflt]) rfl (by decide) ?_
  refine it_int (n := 81) (k := 81) (f := 129) rfl rfl rfl rfl (by decide) rfl (by omega) (by simp [xe_dflt]) rfl (by decide) ?_
  refine it_int (n := 4) (k := 4) (f := 130) rfl rfl rfl rfl (by decide) rfl (by omega) (by simp [xe_dflt]) rfl (by decide) ?_
  refine it_int (n := 512) (k := 512) (f := 131) rfl rfl rfl rfl (by decide) rfl (by omega) (by simp [xe_dflt]) rfl (by decide) ?_
  refine it_fld (v := 0) (f := 132) rfl rfl rfl rfl (by omega) (by simp [xe_dflt]) rfl ?_
  refine xe_Ev_step ⟨_, rfl, xe_Ev_step ⟨_, rfl, _, [], rfl, rfl, ?_⟩⟩
  generalize hM : va_up (va_up (va_up (va_up (va_up N (6 + 1) (cI' 81)) (6 + 1 + 1) (cI' 81)) (6 + 1 + 1 + 1) (cI' 4)) (6 + 1 + 1 + 1 + 1) (cI' 512)) 6 _ = B
  have e6 : B 6 = .inr (2, [.ref 7, .ref 8, .ref 9, .ref 10, .int 0]) := by rw [← hM]; rfl
  have e7 : B 7 = .inl (1, 81, .inl (fun i => if i < 0 then 1 else 0)) := by
    rw [← hM, show (fun i : Nat => if i < 0 then (1 : Int32) else 0) = fun _ => 0 from funext fun i => if_neg (Nat.not_lt_zero i)]; rfl
  have := pe_lp (D := D) (Q := Q) (kc := 4 - 1 - 1 - 1 - 1) (ks := 678 - 81 - 81 - 4 - 512) (B := B) e6 rfl (h _ (fun p hp => ?_) ?_ ?_ ?_ ?_ ?_) 81 0 rfl
  · rw [← e7, up_self] at this
    exact this
  · rw [va_up_ne _ _ (by omega), ← hM, va_up_ne _ _ (by omega), va_up_ne _ _ (by omega), va_up_ne _ _ (by omega), va_up_ne _ _ (by omega), va_up_ne _ _ (by omega)]
  · rw [va_up_ne _ _ (by decide)]; exact e6
  · exact up_at
  · rw [va_up_ne _ _ (by decide), ← hM]; rfl
  · rw [va_up_ne _ _ (by decide), ← hM]; rfl
  · rw [va_up_ne _ _ (by decide), ← hM]; rfl
/-- an object is made and kept in a field -/
theorem it_obj {c g f : Nat} {fs : List Value} {inf : xe_I} {r : vw_C} (h0 : code[i]? = some (.aload 0)) (h1 : code[i + 1]? = some (.new c)) (h2 : code[i + 1 + 1]? = some .dup) (h3 : code[i + 1 + 1 + 1]? = some (.invokespecial g)) (h4 : code[i + 1 + 1 + 1 + 1]? = some (.putfield f)) (hd : dl[0]? = some (.ref a)) (ha : 0 < a ∧ a < z ∧ z < 178) (hr : xe_cl[c]? = some r) (hT : xm_T[g]? = some inf) (hk : xe_ik inf = 2) (hi : xe_in inf = 0) (hic : xe_ic inf = c) (hb : 1 ≤ kc ∧ r.2.2 ≤ ks ∧ xe_im inf ≤ kc - 1 ∧ xe_is inf ≤ ks - r.2.2) (hM : M a = .inr (f / 64, fs)) (hl : f % 64 < fs.length) (hf : fits (xe_ty (f / 64) (f % 64)) (.ref z) = true) (hC : xe_Call xm_T D g [.ref z] (z + 1) (va_up M z (.inr (c, xe_dflt c))) (fun v z' M' => v = none ∧ z < z' ∧ M' a = .inr (f / 64, fs) ∧ xe_Ev xm_T (xe_Call xm_T D) code Q (i + 5) dl [] (kc - 1 - xe_im inf) (ks - r.2.2 - xe_is inf) z' (va_up M' a (.inr (f / 64, fs.set (f % 64) (.ref z)))))) : xe_Ev xm_T (xe_Call xm_T D) code Q i dl [] kc ks z M := by
  refine xe_Ev_step ⟨_, h0, a, hd, xe_Ev_step ⟨_, h1, r, hr, ha.2.2, hb.1, hb.2.1, xe_Ev_step ⟨_, h2, .ref z, [.ref a], rfl, rfl, xe_Ev_step ⟨_, h3, inf, [], z, xe_dflt c, [.ref z, .ref a], hT, hk, rfl, hi.symm, rfl, by omega, Nat.lt_succ_self z, by rw [hic]; exact up_at, Nat.le_of_ble_eq_true rfl, hb.2.2.1, hb.2.2.2, ?_⟩⟩⟩⟩
  refine xe_Call_Q D g _ _ _ _ _ ?_ hC
  rintro v z' M' ⟨rfl, q1, q2, q3⟩
  exact xe_Ev_step ⟨_, h4, a, fs, .ref z, [], rfl, ha.1, Nat.lt_trans ha.2.1 q1, q2, hl, hf, q3⟩
theorem cn_84 (h : ∀ M', (∀ p, ¬ (118 ≤ p ∧ p < 127) → M' p = N p) → (∀ p, 118 ≤ p → p < 127 → ∀ L xs, M' p = cT L xs p) → Q none 127 M') : xe_Call xm_T (D + 2) 84 [.ref 118] (118 + 1) (va_up N 118 (.inr (9, xe_dflt 9))) Q := by
  refine ⟨_, rfl, mk_0 rfl rfl rfl ?_⟩
  refine it_obj (c := 0) (g := 7) (f := 576) (a := 118) (fs := xe_dflt 9) rfl rfl rfl rfl rfl rfl (by decide) rfl rfl rfl rfl rfl (by decide) up_at (by decide) rfl (cn_7 (fun fs efs => ⟨rfl, by decide, rfl, ?_⟩))
  refine it_int (n := 9) (k := 9) (f := 577) (a := 118) rfl rfl rfl rfl (by decide) rfl (by decide) (by decide) rfl (by decide) ?_
  refine it_fld (v := 0) (f := 578) (a := 118) rfl rfl rfl rfl (by decide) (by simp [xe_dflt]) rfl ?_
  refine it_fld (v := 0) (f := 579) (a := 118) rfl rfl rfl rfl (by decide) (by simp [xe_dflt]) rfl ?_
  refine it_fld (v := 0) (f := 580) (a := 118) rfl rfl rfl rfl (by decide) (by simp [xe_dflt]) rfl ?_
  refine xe_Ev_step ⟨_, rfl, rfl, h _ (fun p hp => ?_) (fun p h1 h2 L xs => ?_)⟩
  · simp only [va_up, show ¬ p = 118 by omega, show ¬ p = 119 + 7 by omega, show ¬ p = 118 + 1 by omega, show ¬ p = 119 + 1 by omega, show ¬ p = 119 + 2 by omega, show ¬ p = 119 + 3 by omega, show ¬ p = 119 + 4 by omega, show ¬ p = 119 + 5 by omega, show ¬ p = 119 + 6 by omega, show ¬ p = 119 by omega, if_false]
  · subst efs
    have : p = 118 ∨ p = 119 ∨ p = 120 ∨ p = 121 ∨ p = 122 ∨ p = 123 ∨ p = 124 ∨ p = 125 ∨ p = 126 := by omega
    rcases this with rfl | rfl | rfl | rfl | rfl | rfl | rfl | rfl | rfl <;> rfl
end MA2
