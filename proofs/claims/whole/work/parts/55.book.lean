/-! THE BOOK: a long for each day, four bits for each of the people. -/
theorem ent_nat (w : Int64) {p : Int} (hp : 0 ≤ p ∧ p < 9) : xp_ent w p = (((w.toBitVec.toNat >>> (4 * p.toNat)) % 16 : Nat) : Int) := by
  have hs : ((xJ (p * 4)).toInt64.toUInt64 &&& Int64.toUInt64 63).toNat % 64 = 4 * p.toNat := by
    have key : ∀ k : Nat, k < 9 → ((xJ ((k : Int) * 4)).toInt64.toUInt64 &&& Int64.toUInt64 63).toNat % 64 = 4 * k := by decide
    have := key p.toNat (by omega)
    rw [show ((p.toNat : Nat) : Int) = p by omega] at this
    exact this
  have hz : (w.toUInt64 >>> ((xJ (p * 4)).toInt64.toUInt64 &&& Int64.toUInt64 63)).toNat = w.toBitVec.toNat >>> (4 * p.toNat) := by
    rw [UInt64.toNat_shiftRight, hs]
    rfl
  generalize hz2 : w.toUInt64 >>> ((xJ (p * 4)).toInt64.toUInt64 &&& Int64.toUInt64 63) = z at hz
  unfold xp_ent
  rw [hz2]
  refine bt_of ?_ (by omega)
  rw [Int32.toBitVec_and, BitVec.toNat_and, show xJ z.toInt64.toInt32.toInt = z.toInt64.toInt32 from xJ_toInt _, show (xJ 15).toBitVec.toNat = 2 ^ 4 - 1 from rfl, Nat.and_two_pow_sub_one_eq_mod, ← hz, show (16 : Nat) = 2 ^ 4 from rfl]
  apply Nat.eq_of_testBit_eq
  intro i
  rw [Nat.testBit_mod_two_pow, Nat.testBit_mod_two_pow]
  by_cases hi : i < 4
  · have h1 : (z.toInt64.toInt32.toBitVec).getLsbD i = z.toBitVec.getLsbD i := by
      rw [Int64.toBitVec_toInt32, BitVec.getLsbD_signExtend, decide_eq_true (show i < 32 by omega), if_pos (show i < 64 by omega), Bool.true_and]
      rfl
    have h2 : z.toInt64.toInt32.toBitVec.toNat.testBit i = z.toNat.testBit i := h1
    rw [h2]
  · simp [hi]
theorem ent_r (w : Int64) {p : Int} (hp : 0 ≤ p ∧ p < 9) : 0 ≤ xp_ent w p ∧ xp_ent w p < 16 := by
  rw [ent_nat w hp]
  omega
theorem ent_w (w : Int64) {q x p : Int} (hq : 0 ≤ q ∧ q < 9) (hx : 0 ≤ x ∧ x ≤ 9) (hp : 0 ≤ p ∧ p < 9) (h10 : xp_ent w q = 10) : xp_ent (w ^^^ ((xJ (xi_xor 10 x)).toInt64 <<< ((xJ (q * 4)).toInt64 &&& 63))) p = if p = q then x else xp_ent w p := by
  have key : ∀ q : Nat, q < 9 → ∀ x : Nat, x < 10 → ∀ p : Nat, p < 9 → (((xJ (xi_xor 10 x)).toInt64 <<< ((xJ ((q : Int) * 4)).toInt64 &&& 63)).toBitVec.toNat >>> (4 * p)) % 16 = if p = q then 10 ^^^ x else 0 := by decide +kernel
  have k := key q.toNat (by omega) x.toNat (by omega) p.toNat (by omega)
  rw [show ((q.toNat : Nat) : Int) = q by omega, show ((x.toNat : Nat) : Int) = x by omega] at k
  rw [ent_nat _ hp, Int64.toBitVec_xor, BitVec.toNat_xor, Nat.shiftRight_xor_distrib, show (16 : Nat) = 2 ^ 4 from rfl, Nat.xor_mod_two_pow, show (2 : Nat) ^ 4 = 16 from rfl, k]
  by_cases z : p = q
  · rw [if_pos z, if_pos (by omega)]
    subst z
    rw [ent_nat w hp] at h10
    have h11 : (w.toBitVec.toNat >>> (4 * p.toNat)) % 16 = 10 := by omega
    rw [h11, ← Nat.xor_assoc, Nat.xor_self, Nat.zero_xor]
    omega
  · rw [if_neg z, if_neg (by omega), Nat.xor_zero, ← ent_nat w hp]
/-- a new page, from those below q on -/
def pgF (n : Int) : Nat → Int64 → Int64
  | 0, w => w
  | q + 1, w => pgF n q ((w <<< ((xJ 4).toInt64 &&& 63)) ||| (if n ≤ (q : Int) then (xJ 11).toInt64 else (xJ 10).toInt64))
theorem pgF_ent {n p : Int} (hn : 0 ≤ n ∧ n ≤ 9) (hp : 0 ≤ p ∧ p < 9) : xp_ent (pgF n 9 0) p = if p < n then 10 else 11 := by
  have key : ∀ n : Nat, n < 10 → ∀ p : Nat, p < 9 → xp_ent (pgF n 9 0) p = if (p : Int) < (n : Int) then 10 else 11 := by decide +kernel
  have := key n.toNat (by omega) p.toNat (by omega)
  rw [show ((n.toNat : Nat) : Int) = n by omega, show ((p.toNat : Nat) : Int) = p by omega] at this
  exact this
/-- a lesson -/
def lrn (p g : Int) (x : (Int → Int) × (Int → Int) × Int) : (Int → Int) × (Int → Int) × Int := if xi_and (x.1 g) (xi_xor (x.1 p) (-1)) = 0 then x else if 3 ≤ x.2.1 (p * 6 + xp_ntz (xi_and (x.1 g) (xi_xor (x.1 p) (-1)))) + 1 then (upI x.1 p (xi_or (x.1 p) (xi_shl 1 (xp_ntz (xi_and (x.1 g) (xi_xor (x.1 p) (-1)))))), upI x.2.1 (p * 6 + xp_ntz (xi_and (x.1 g) (xi_xor (x.1 p) (-1)))) (x.2.1 (p * 6 + xp_ntz (xi_and (x.1 g) (xi_xor (x.1 p) (-1)))) + 1), x.2.2 + 1) else (x.1, upI x.2.1 (p * 6 + xp_ntz (xi_and (x.1 g) (xi_xor (x.1 p) (-1)))) (x.2.1 (p * 6 + xp_ntz (xi_and (x.1 g) (xi_xor (x.1 p) (-1)))) + 1), x.2.2)
theorem ntz_k {x y : Int} (hx : 0 ≤ x ∧ x < 64) (hy : 0 ≤ y ∧ y < 64) : (0 ≤ xi_and x (xi_xor y (-1)) ∧ xi_and x (xi_xor y (-1)) < 64) ∧ (0 ≤ xp_ntz (xi_and x (xi_xor y (-1))) ∧ xp_ntz (xi_and x (xi_xor y (-1))) < 6) ∧ (0 ≤ xi_or y (xi_shl 1 (xp_ntz (xi_and x (xi_xor y (-1))))) ∧ xi_or y (xi_shl 1 (xp_ntz (xi_and x (xi_xor y (-1))))) < 64) := by
  have key : ∀ x : Nat, x < 64 → ∀ y : Nat, y < 64 → (0 ≤ xi_and x (xi_xor y (-1)) ∧ xi_and x (xi_xor y (-1)) < 64) ∧ (0 ≤ xp_ntz (xi_and x (xi_xor y (-1))) ∧ xp_ntz (xi_and x (xi_xor y (-1))) < 6) ∧ (0 ≤ xi_or y (xi_shl 1 (xp_ntz (xi_and x (xi_xor y (-1))))) ∧ xi_or y (xi_shl 1 (xp_ntz (xi_and x (xi_xor y (-1))))) < 64) := by decide +kernel
  have := key x.toNat (by omega) y.toNat (by omega)
  rw [show ((x.toNat : Nat) : Int) = x by omega, show ((y.toNat : Nat) : Int) = y by omega] at this
  exact this
theorem ntz_b {v : Int} (hv : 0 ≤ v ∧ v < 64) : (v = 0 → ∀ i, 0 ≤ i → i < 6 → xi_and (xi_shr v i) 1 = 0) ∧ (¬ v = 0 → (∀ i, 0 ≤ i → i < xp_ntz v → xi_and (xi_shr v i) 1 = 0) ∧ ¬ xi_and (xi_shr v (xp_ntz v)) 1 = 0) := by
  have key : ∀ v : Nat, v < 64 → ((v : Int) = 0 → ∀ i : Nat, i < 6 → xi_and (xi_shr v i) 1 = 0) ∧ (¬ (v : Int) = 0 → (∀ i : Nat, i < 6 → (i : Int) < xp_ntz v → xi_and (xi_shr v i) 1 = 0) ∧ ¬ xi_and (xi_shr v (xp_ntz v)) 1 = 0) := by decide +kernel
  have := key v.toNat (by omega)
  rw [show ((v.toNat : Nat) : Int) = v by omega] at this
  have hr : xp_ntz v < 6 := by unfold xp_ntz; repeat' split <;> omega
  refine ⟨fun h i a c => ?_, fun h => ⟨fun i a c => ?_, (this.2 h).2⟩⟩
  · have k := this.1 h i.toNat (by omega)
    rwa [show ((i.toNat : Nat) : Int) = i by omega] at k
  · have k := (this.2 h).1 i.toNat (by omega) (by omega)
    rwa [show ((i.toNat : Nat) : Int) = i by omega] at k
section BOK
variable {L D : Nat} {d : xh_D} {e : xd_E}
theorem sq_59_11 {n : Int} {P : xh_D → xd_E → Prop} (hD : 3 ≤ D) (hn : 0 ≤ n ∧ n ≤ 9) (hw : 0 ≤ d 11 5 ∧ d 11 5 < 2147483648) (h : P d (va_up e 16 (vp_updL (e 16) (d 11 5 % 30).toNat (pgF n 9 0)))) : yV D 59 L [.ref 11, .int (xJ n)] d e P := by
  refine yV_of rfl rfl rfl (by omega) (yk_59_11_0 ?_)
  have key : ∀ (q : Nat) (w : Int64), q ≤ 9 → P d (va_up e 16 (vp_updL (e 16) (d 11 5 % 30).toNat (pgF n q w))) → yB (D - 1) xm_c59 (yQv L P) L 4 [.ref 11, .int (xJ n), .long w, .double 0, .int (xJ ((q : Int) - 1))] [] d e := by
    intro q
    induction q with
    | zero =>
      intro w _ hp
      refine yk_59_11_4 (by omega) ⟨by omega, fun _ => by rw [Int.sub_zero]; exact ⟨hw, by omega, hp⟩, fun c => by omega⟩
    | succ q ih =>
      intro w hq hp
      refine yk_59_11_4 (by omega) ⟨by omega, fun c => by omega, fun _ => ⟨by omega, fun c v ev => ?_, fun c v ev => ?_⟩⟩
      · rw [show ((q + 1 : Nat) : Int) - 1 + -1 = (q : Int) - 1 by omega]
        refine ih v (by omega) ?_
        rw [ev]
        have := hp
        unfold pgF at this
        rw [if_pos (show n ≤ (q : Int) by omega)] at this
        exact this
      · rw [show ((q + 1 : Nat) : Int) - 1 + -1 = (q : Int) - 1 by omega]
        refine ih v (by omega) ?_
        rw [ev]
        have := hp
        unfold pgF at this
        rw [if_neg (show ¬ n ≤ (q : Int) by omega)] at this
        exact this
  exact key 9 0 (by omega) h
theorem sq_56_11 {p g : Int} {P : Int → xh_D → xd_E → Prop} (hD : 1 ≤ D) (hp : 0 ≤ p ∧ p < 9) (hg : 0 ≤ g ∧ g < 9) (ht : (0 ≤ d 14 p ∧ d 14 p < 64) ∧ (0 ≤ d 14 g ∧ d 14 g < 64)) (hl : ∀ i, 0 ≤ i → i < 54 → 0 ≤ d 15 i ∧ d 15 i < 2000000000) (h : ∀ d' c, (∀ q, ¬ q = 14 → ¬ q = 15 → d' q = d q) → (d' 14, d' 15, c) = lrn p g (d 14, d 15, 0) → P c d' e) : yC D 56 L [.ref 11, .int (xJ p), .int (xJ g)] d e P := by
  have kk := ntz_k ht.2 ht.1
  refine yC_of rfl rfl rfl (by omega) (yk_56_11_0 ⟨hg, hp, fun v ev => ?_⟩)
  rw [← ev] at kk
  have nb := ntz_b kk.1
  have lr : lrn p g (d 14, d 15, 0) = if v = 0 then (d 14, d 15, 0) else if 3 ≤ d 15 (p * 6 + xp_ntz v) + 1 then (upI (d 14) p (xi_or (d 14 p) (xi_shl 1 (xp_ntz v))), upI (d 15) (p * 6 + xp_ntz v) (d 15 (p * 6 + xp_ntz v) + 1), 0 + 1) else (d 14, upI (d 15) (p * 6 + xp_ntz v) (d 15 (p * 6 + xp_ntz v) + 1), 0) := by rw [ev]; rfl
  by_cases hv : v = 0
  · rw [if_pos hv] at lr
    refine lp_up (n := 6) (X := fun i => yB (D - 1) xm_c56 (yQi L P) L 14 [.ref 11, .int (xJ p), .double 0, .int (xJ v), .int (xJ i)] [] d e) (by omega) ?_ ?_
    · intro i a c ih
      exact yk_56_11_14 ⟨by omega, fun z => by omega, fun _ => ⟨fun _ => ih, fun z => absurd (nb.1 hv i a c) z⟩⟩
    · exact yk_56_11_14 ⟨by omega, fun _ => h d 0 (fun _ _ _ => rfl) lr.symm, fun z => by omega⟩
  · rw [if_neg hv] at lr
    have nv := nb.2 hv
    refine lp_up (n := xp_ntz v) (X := fun i => yB (D - 1) xm_c56 (yQi L P) L 14 [.ref 11, .int (xJ p), .double 0, .int (xJ v), .int (xJ i)] [] d e) kk.2.1.1 ?_ ?_
    · intro i a c ih
      exact yk_56_11_14 ⟨by omega, fun z => by omega, fun _ => ⟨fun _ => ih, fun z => absurd (nv.1 i a c) z⟩⟩
    · have hl2 := hl (p * 6 + xp_ntz v) (by omega) (by omega)
      refine yk_56_11_14 ⟨by omega, fun z => by omega, fun _ => ⟨fun z => absurd z nv.2, fun _ => ⟨by omega, by omega, fun z => ⟨by omega, h _ 1 (fun q h1 h2 => ?_) ?_⟩, fun z => h _ 0 (fun q h1 h2 => ?_) ?_⟩⟩⟩
      · rw [xs_fn, if_neg h1, xs_fn, if_neg h2]
      · rw [lr, if_pos z, xs_fn, if_pos rfl, xs_fn, if_neg (by decide), xs_fn, if_neg (by decide), xs_fn, if_pos rfl]
        rfl
      · rw [xs_fn, if_neg h2]
      · rw [lr, if_neg z, xs_fn, if_neg (by decide), xs_fn, if_pos rfl]
theorem sq_59_17 {n : Int} {P : xh_D → xd_E → Prop} (hD : 3 ≤ D) (hn : 0 ≤ n ∧ n ≤ 9) (hw : 0 ≤ d 17 5 ∧ d 17 5 < 2147483648) (h : P d (va_up e 22 (vp_updL (e 22) (d 17 5 % 30).toNat (pgF n 9 0)))) : yV D 59 L [.ref 17, .int (xJ n)] d e P := by
  refine yV_of rfl rfl rfl (by omega) (yk_59_17_0 ?_)
  have key : ∀ (q : Nat) (w : Int64), q ≤ 9 → P d (va_up e 22 (vp_updL (e 22) (d 17 5 % 30).toNat (pgF n q w))) → yB (D - 1) xm_c59 (yQv L P) L 4 [.ref 17, .int (xJ n), .long w, .double 0, .int (xJ ((q : Int) - 1))] [] d e := by
    intro q
    induction q with
    | zero =>
      intro w _ hp
      refine yk_59_17_4 (by omega) ⟨by omega, fun _ => by rw [Int.sub_zero]; exact ⟨hw, by omega, hp⟩, fun c => by omega⟩
    | succ q ih =>
      intro w hq hp
      refine yk_59_17_4 (by omega) ⟨by omega, fun c => by omega, fun _ => ⟨by omega, fun c v ev => ?_, fun c v ev => ?_⟩⟩
      · rw [show ((q + 1 : Nat) : Int) - 1 + -1 = (q : Int) - 1 by omega]
        refine ih v (by omega) ?_
        rw [ev]
        have := hp
        unfold pgF at this
        rw [if_pos (show n ≤ (q : Int) by omega)] at this
        exact this
      · rw [show ((q + 1 : Nat) : Int) - 1 + -1 = (q : Int) - 1 by omega]
        refine ih v (by omega) ?_
        rw [ev]
        have := hp
        unfold pgF at this
        rw [if_neg (show ¬ n ≤ (q : Int) by omega)] at this
        exact this
  exact key 9 0 (by omega) h
theorem sq_56_17 {p g : Int} {P : Int → xh_D → xd_E → Prop} (hD : 1 ≤ D) (hp : 0 ≤ p ∧ p < 9) (hg : 0 ≤ g ∧ g < 9) (ht : (0 ≤ d 20 p ∧ d 20 p < 64) ∧ (0 ≤ d 20 g ∧ d 20 g < 64)) (hl : ∀ i, 0 ≤ i → i < 54 → 0 ≤ d 21 i ∧ d 21 i < 2000000000) (h : ∀ d' c, (∀ q, ¬ q = 20 → ¬ q = 21 → d' q = d q) → (d' 20, d' 21, c) = lrn p g (d 20, d 21, 0) → P c d' e) : yC D 56 L [.ref 17, .int (xJ p), .int (xJ g)] d e P := by
  have kk := ntz_k ht.2 ht.1
  refine yC_of rfl rfl rfl (by omega) (yk_56_17_0 ⟨hg, hp, fun v ev => ?_⟩)
  rw [← ev] at kk
  have nb := ntz_b kk.1
  have lr : lrn p g (d 20, d 21, 0) = if v = 0 then (d 20, d 21, 0) else if 3 ≤ d 21 (p * 6 + xp_ntz v) + 1 then (upI (d 20) p (xi_or (d 20 p) (xi_shl 1 (xp_ntz v))), upI (d 21) (p * 6 + xp_ntz v) (d 21 (p * 6 + xp_ntz v) + 1), 0 + 1) else (d 20, upI (d 21) (p * 6 + xp_ntz v) (d 21 (p * 6 + xp_ntz v) + 1), 0) := by rw [ev]; rfl
  by_cases hv : v = 0
  · rw [if_pos hv] at lr
    refine lp_up (n := 6) (X := fun i => yB (D - 1) xm_c56 (yQi L P) L 14 [.ref 17, .int (xJ p), .double 0, .int (xJ v), .int (xJ i)] [] d e) (by omega) ?_ ?_
    · intro i a c ih
      exact yk_56_17_14 ⟨by omega, fun z => by omega, fun _ => ⟨fun _ => ih, fun z => absurd (nb.1 hv i a c) z⟩⟩
    · exact yk_56_17_14 ⟨by omega, fun _ => h d 0 (fun _ _ _ => rfl) lr.symm, fun z => by omega⟩
  · rw [if_neg hv] at lr
    have nv := nb.2 hv
    refine lp_up (n := xp_ntz v) (X := fun i => yB (D - 1) xm_c56 (yQi L P) L 14 [.ref 17, .int (xJ p), .double 0, .int (xJ v), .int (xJ i)] [] d e) kk.2.1.1 ?_ ?_
    · intro i a c ih
      exact yk_56_17_14 ⟨by omega, fun z => by omega, fun _ => ⟨fun _ => ih, fun z => absurd (nv.1 i a c) z⟩⟩
    · have hl2 := hl (p * 6 + xp_ntz v) (by omega) (by omega)
      refine yk_56_17_14 ⟨by omega, fun z => by omega, fun _ => ⟨fun z => absurd z nv.2, fun _ => ⟨by omega, by omega, fun z => ⟨by omega, h _ 1 (fun q h1 h2 => ?_) ?_⟩, fun z => h _ 0 (fun q h1 h2 => ?_) ?_⟩⟩⟩
      · rw [xs_fn, if_neg h1, xs_fn, if_neg h2]
      · rw [lr, if_pos z, xs_fn, if_pos rfl, xs_fn, if_neg (by decide), xs_fn, if_neg (by decide), xs_fn, if_pos rfl]
        rfl
      · rw [xs_fn, if_neg h2]
      · rw [lr, if_neg z, xs_fn, if_neg (by decide), xs_fn, if_pos rfl]
end BOK
