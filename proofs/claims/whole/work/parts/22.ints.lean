/-! THE SAME RULES over the integers: d : place -> index -> Int, a cell holds the Int32 of its Int. -/
abbrev xh_D : Type := Nat → Int → Int
def xJ (z : Int) : Int32 := Int32.ofInt z
def xh_m (d : xh_D) : xd_D := fun p i => xJ (d p (i : Int))
/-- one cell is written -/
def xs (d : xh_D) (q : Nat) (j v : Int) : xh_D := fun p i => if p = q ∧ i = j then v else d p i
/-- the first n of a place are those of another -/
def xcp (d : xh_D) (q0 q : Nat) (n : Int) : xh_D := fun p i => if p = q ∧ 0 ≤ i ∧ i < n then d q0 i else d p i
def xi_and (x y : Int) : Int := (xJ x &&& xJ y).toInt
def xi_or (x y : Int) : Int := (xJ x ||| xJ y).toInt
def xi_xor (x y : Int) : Int := (xJ x ^^^ xJ y).toInt
def xi_shl (x y : Int) : Int := (xp_shl (xJ x) (xJ y)).toInt
def xi_shr (x y : Int) : Int := (xp_shr (xJ x) (xJ y)).toInt
def xi_ushr (x y : Int) : Int := (xp_ushr (xJ x) (xJ y)).toInt
def xi_div (x y : Int) : Int := (xJ x / xJ y).toInt
def xi_rem (x y : Int) : Int := (xp_rem (xJ x) (xJ y)).toInt
def xi_i8 (x : Int) : Int := (xJ x).toInt8.toInt32.toInt
def xi_i16 (x : Int) : Int := (xJ x).toInt16.toInt32.toInt
theorem xJ_toInt (x : Int32) : xJ x.toInt = x := Int32.ofInt_toInt x
theorem xJ_add (a b : Int) : xJ a + xJ b = xJ (a + b) := (Int32.ofInt_add a b).symm
theorem xJ_sub (a b : Int) : xJ a - xJ b = xJ (a - b) := (Int32.ofInt_sub a b).symm
theorem xJ_mul (a b : Int) : xJ a * xJ b = xJ (a * b) := (Int32.ofInt_mul a b).symm
theorem xJ_neg (a : Int) : -xJ a = xJ (-a) := (Int32.ofInt_neg a).symm
theorem xJ_i {a : Int} (h : -2147483648 ≤ a ∧ a < 2147483648) : (xJ a).toInt = a := Int32.toInt_ofInt_of_le (by omega) (by omega)
theorem xJ_inj {a b : Int} (ha : -2147483648 ≤ a ∧ a < 2147483648) (hb : -2147483648 ≤ b ∧ b < 2147483648) : xJ a = xJ b ↔ a = b := ⟨fun h => by rw [← xJ_i ha, ← xJ_i hb, h], fun h => by rw [h]⟩
theorem xJ_lt {a b : Int} (ha : -2147483648 ≤ a ∧ a < 2147483648) (hb : -2147483648 ≤ b ∧ b < 2147483648) : xJ a < xJ b ↔ a < b := by rw [Int32.lt_iff_toInt_lt, xJ_i ha, xJ_i hb]
theorem xJ_le {a b : Int} (ha : -2147483648 ≤ a ∧ a < 2147483648) (hb : -2147483648 ≤ b ∧ b < 2147483648) : xJ a ≤ xJ b ↔ a ≤ b := by rw [Int32.le_iff_toInt_le, xJ_i ha, xJ_i hb]
theorem xJ_rng (x : Int32) : -2147483648 ≤ x.toInt ∧ x.toInt < 2147483648 := ⟨x.le_toInt, by have := x.toInt_lt; omega⟩
theorem xJ_nat {a : Int} (h : 0 ≤ a ∧ a < 2147483648) : (xJ a).toNatClampNeg = a.toNat := by
  show (xJ a).toInt.toNat = _
  rw [xJ_i (by omega)]
theorem xJ_in {a : Int} {n : Nat} (hn : n < 2147483648) (h : 0 ≤ a ∧ a < n) : vp_in (xJ a) n := by
  unfold vp_in
  rintro (q | q)
  · rw [show (0 : Int32) = xJ 0 from rfl, xJ_lt (by omega) (by omega)] at q
    omega
  · rw [xJ_nat (by omega)] at q
    omega
theorem xJ_div {a b : Int} (ha : 0 ≤ a ∧ a < 2147483648) (hb : 0 < b ∧ b < 2147483648) : xJ a / xJ b = xJ (a / b) := by
  apply Int32.toInt_inj.mp
  have h1 : a / b ≤ a := Int.ediv_le_self b ha.1
  have h2 : 0 ≤ a / b := Int.ediv_nonneg ha.1 (by omega)
  rw [Int32.toInt_div_of_ne_right _ _ (by rw [show (-1 : Int32) = xJ (-1) from rfl, Ne, xJ_inj (by omega) (by omega)]; omega), xJ_i (by omega), xJ_i (by omega), xJ_i (by omega), Int.tdiv_eq_ediv_of_nonneg ha.1]
theorem xJ_rem {a b : Int} (ha : 0 ≤ a ∧ a < 2147483648) (hb : 0 < b ∧ b < 2147483648) : xp_rem (xJ a) (xJ b) = xJ (a % b) := by
  unfold xp_rem
  rw [xJ_div ha hb, xJ_mul, xJ_sub, Int.emod_def, Int.mul_comm b]
theorem xh_put (d : xh_D) (q : Nat) (j v : Int) : va_up (xh_m d) q (xh_m (xs d q j v) q) = xh_m (xs d q j v) := by
  funext p
  by_cases h : p = q
  · subst h; simp [va_up]
  · funext i; simp [va_up, h, xh_m, xs]
theorem xh_upd (d : xh_D) (q : Nat) {j v : Int} (h : 0 ≤ j ∧ j < 2147483648) : upd (xh_m d q) (xJ j).toNatClampNeg (xJ v) = xh_m (xs d q j v) q := by
  rw [xJ_nat h]
  funext i
  unfold upd xh_m xs
  by_cases hi : i = j.toNat
  · rw [if_pos hi, if_pos ⟨rfl, by omega⟩]
  · rw [if_neg hi, if_neg (fun q => hi (by omega))]
theorem xh_cpy (d : xh_D) (q0 q : Nat) {n : Int} (h : 0 ≤ n ∧ n < 2147483648) : va_cpy (xh_m d q0) (xh_m d q) (xJ 0).toNatClampNeg (xJ 0).toNatClampNeg (xJ n).toNatClampNeg = xh_m (xcp d q0 q n) q := by
  rw [xJ_nat h, xJ_nat (by omega)]
  funext i
  unfold va_cpy xh_m xcp
  by_cases hi : (i : Int) < n
  · rw [if_pos ⟨by simp, by simp; omega⟩, if_pos ⟨rfl, by omega, hi⟩]
    simp
  · rw [if_neg (fun q => by simp at q; omega), if_neg (fun q => hi q.2.2)]
theorem xh_putc (d : xh_D) (q0 q : Nat) (n : Int) : va_up (xh_m d) q (xh_m (xcp d q0 q n) q) = xh_m (xcp d q0 q n) := by
  funext p
  by_cases h : p = q
  · subst h; simp [va_up]
  · funext i; simp [va_up, h, xh_m, xcp]
theorem xh_0 (x : xd_D) : ∃ d : xh_D, x = xh_m d := ⟨fun p i => (x p i.toNat).toInt, by funext p i; simp [xh_m, xJ_toInt]⟩
theorem xs_eq {d : xh_D} {q : Nat} {j v : Int} : xs d q j v q j = v := if_pos ⟨rfl, rfl⟩
theorem xs_np {d : xh_D} {q p : Nat} {j v i : Int} (h : ¬ p = q) : xs d q j v p i = d p i := if_neg (fun c => h c.1)
theorem xcp_np {d : xh_D} {q0 q p : Nat} {n i : Int} (h : ¬ p = q) : xcp d q0 q n p i = d p i := if_neg (fun c => h c.1)
theorem xs_ni {d : xh_D} {q p : Nat} {j v i : Int} (h : ¬ i = j) : xs d q j v p i = d p i := if_neg (fun c => h c.2)
def yB (D : Nat) (code : List Instr) (Q : xe_Q) (L i : Nat) (dl st : List Value) (d : xh_D) (e : xd_E) : Prop := xB D code Q L i dl st (xh_m d) e
def yPi (P : Int → xh_D → xd_E → Prop) : Int32 → xd_D → xd_E → Prop := fun x d e => ∃ z d1, x = xJ z ∧ d = xh_m d1 ∧ P z d1 e
def yPv (P : xh_D → xd_E → Prop) : xd_D → xd_E → Prop := fun d e => ∃ d1, d = xh_m d1 ∧ P d1 e
def yPz (P1 P0 : xh_D → xd_E → Prop) : Int → xh_D → xd_E → Prop := fun z d e => (z = 1 ∧ P1 d e) ∨ (z = 0 ∧ P0 d e)
def yQi (L : Nat) (P : Int → xh_D → xd_E → Prop) : xe_Q := xQi L (yPi P)
def yQv (L : Nat) (P : xh_D → xd_E → Prop) : xe_Q := xQv L (yPv P)
def yQz (L : Nat) (P1 P0 : xh_D → xd_E → Prop) : xe_Q := yQi L (yPz P1 P0)
def yC (D g L : Nat) (a : List Value) (d : xh_D) (e : xd_E) (P : Int → xh_D → xd_E → Prop) : Prop := xC D g L a (xh_m d) e (yPi P)
def yV (D g L : Nat) (a : List Value) (d : xh_D) (e : xd_E) (P : xh_D → xd_E → Prop) : Prop := xV D g L a (xh_m d) e (yPv P)
def yZ (D g L : Nat) (a : List Value) (d : xh_D) (e : xd_E) (P1 P0 : xh_D → xd_E → Prop) : Prop := yC D g L a d e (yPz P1 P0)
theorem yC_mono {D g L : Nat} {a : List Value} {d : xh_D} {e : xd_E} {P P' : Int → xh_D → xd_E → Prop} (h : yC D g L a d e P) (hP : ∀ x d e, P x d e → P' x d e) : yC D g L a d e P' := xC_mono h (fun _ _ _ ⟨z, d1, h1, h2, h3⟩ => ⟨z, d1, h1, h2, hP _ _ _ h3⟩)
theorem yV_mono {D g L : Nat} {a : List Value} {d : xh_D} {e : xd_E} {P P' : xh_D → xd_E → Prop} (h : yV D g L a d e P) (hP : ∀ d e, P d e → P' d e) : yV D g L a d e P' := xV_mono h (fun _ _ ⟨d1, h2, h3⟩ => ⟨d1, h2, hP _ _ h3⟩)
theorem yZ_mono {D g L : Nat} {a : List Value} {d : xh_D} {e : xd_E} {P P' R R' : xh_D → xd_E → Prop} (h : yZ D g L a d e P R) (hP : ∀ d e, P d e → P' d e) (hR : ∀ d e, R d e → R' d e) : yZ D g L a d e P' R' := yC_mono h (fun _ _ _ q => q.elim (fun q => Or.inl ⟨q.1, hP _ _ q.2⟩) (fun q => Or.inr ⟨q.1, hR _ _ q.2⟩))
theorem yC_of {D g L : Nat} {a : List Value} {d : xh_D} {e : xd_E} {P : Int → xh_D → xd_E → Prop} {inf : xe_I} (hT : xm_T[g]? = some inf) (hm : xe_im inf = 0) (hs : xe_is inf = 0) (hD : 1 ≤ D) (h : yB (D - 1) (xe_code inf) (yQi L P) L 0 (xe_entry (xe_iL inf) a) [] d e) : yC D g L a d e P := xC_of hT hm hs hD h
theorem yZ_of {D g L : Nat} {a : List Value} {d : xh_D} {e : xd_E} {P1 P0 : xh_D → xd_E → Prop} {inf : xe_I} (hT : xm_T[g]? = some inf) (hm : xe_im inf = 0) (hs : xe_is inf = 0) (hD : 1 ≤ D) (h : yB (D - 1) (xe_code inf) (yQz L P1 P0) L 0 (xe_entry (xe_iL inf) a) [] d e) : yZ D g L a d e P1 P0 := xC_of hT hm hs hD h
theorem yV_of {D g L : Nat} {a : List Value} {d : xh_D} {e : xd_E} {P : xh_D → xd_E → Prop} {inf : xe_I} (hT : xm_T[g]? = some inf) (hm : xe_im inf = 0) (hs : xe_is inf = 0) (hD : 1 ≤ D) (h : yB (D - 1) (xe_code inf) (yQv L P) L 0 (xe_entry (xe_iL inf) a) [] d e) : yV D g L a d e P := xV_of hT hm hs hD h
section YBR
variable {D : Nat} {code : List Instr} {Q : xe_Q} {L i : Nat} {dl st : List Value} {d : xh_D} {e : xd_E}
theorem yb_lconst (hc : code[i]? = some (.lconst 0)) (h : yB D code Q L (i + 1) dl (.long 0 :: st) d e) : yB D code Q L i dl st d e := xb_lconst hc h
theorem yb_null (hc : code[i]? = some .aconst_null) (h : yB D code Q L (i + 1) dl (.null :: st) d e) : yB D code Q L i dl st d e := xb_null hc h
theorem yb_push {v : Int} (hc : code[i]? = some (.sipush v)) (h : yB D code Q L (i + 1) dl (.int (xJ v) :: st) d e) : yB D code Q L i dl st d e := xb_push hc rfl h
theorem yb_iload {k : Nat} {x : Int} (hc : code[i]? = some (.iload k)) (hv : dl[k]? = some (.int (xJ x))) (h : yB D code Q L (i + 1) dl (.int (xJ x) :: st) d e) : yB D code Q L i dl st d e := xb_iload hc hv h
theorem yb_lload {k : Nat} {x : Int64} (hc : code[i]? = some (.lload k)) (hv : dl[k]? = some (.long x)) (h : yB D code Q L (i + 1) dl (.long x :: st) d e) : yB D code Q L i dl st d e := xb_lload hc hv h
theorem yb_aload {k : Nat} {x : Nat} (hc : code[i]? = some (.aload k)) (hv : dl[k]? = some (.ref x)) (h : yB D code Q L (i + 1) dl (.ref x :: st) d e) : yB D code Q L i dl st d e := xb_aload hc hv h
theorem yb_istore {k : Nat} {x : Int} {dl' : List Value} (hc : code[i]? = some (.istore k)) (hs : xe_s1 dl k = true) (hd : dl.set k (.int (xJ x)) = dl') (h : yB D code Q L (i + 1) dl' st d e) : yB D code Q L i dl (.int (xJ x) :: st) d e := xb_istore hc hs hd h
theorem yb_astore {k : Nat} {x : Nat} {dl' : List Value} (hc : code[i]? = some (.astore k)) (hs : xe_s1 dl k = true) (hd : dl.set k (.ref x) = dl') (h : yB D code Q L (i + 1) dl' st d e) : yB D code Q L i dl (.ref x :: st) d e := xb_astore hc hs hd h
theorem yb_lstore {k : Nat} {x : Int64} {dl' : List Value} (hc : code[i]? = some (.lstore k)) (hs : xe_s2 dl k = true) (hd : (dl.set k (.long x)).set (k + 1) (.double 0) = dl') (h : yB D code Q L (i + 1) dl' st d e) : yB D code Q L i dl (.long x :: st) d e := xb_lstore hc hs hd h
theorem yb_iinc {k : Nat} {n x : Int} {dl' : List Value} (hc : code[i]? = some (.iinc k n)) (hv : dl[k]? = some (.int (xJ x))) (hs : xe_s1 dl k = true) (hd : dl.set k (.int (xJ (x + n))) = dl') (h : yB D code Q L (i + 1) dl' st d e) : yB D code Q L i dl st d e := xb_iinc hc hv hs rfl (by rw [← hd, ← xJ_add]; rfl) h
theorem yb_iadd {x y : Int} (hc : code[i]? = some .iadd) (h : yB D code Q L (i + 1) dl (.int (xJ (x + y)) :: st) d e) : yB D code Q L i dl (.int (xJ y) :: .int (xJ x) :: st) d e := xb_iadd hc (by rw [xJ_add]; exact h)
theorem yb_isub {x y : Int} (hc : code[i]? = some .isub) (h : yB D code Q L (i + 1) dl (.int (xJ (x - y)) :: st) d e) : yB D code Q L i dl (.int (xJ y) :: .int (xJ x) :: st) d e := xb_isub hc (by rw [xJ_sub]; exact h)
theorem yb_imul {x y : Int} (hc : code[i]? = some .imul) (h : yB D code Q L (i + 1) dl (.int (xJ (x * y)) :: st) d e) : yB D code Q L i dl (.int (xJ y) :: .int (xJ x) :: st) d e := xb_imul hc (by rw [xJ_mul]; exact h)
theorem yb_iand {x y : Int} (hc : code[i]? = some .iand) (h : yB D code Q L (i + 1) dl (.int (xJ (xi_and x y)) :: st) d e) : yB D code Q L i dl (.int (xJ y) :: .int (xJ x) :: st) d e := xb_iand hc (by unfold xi_and at h; rw [xJ_toInt] at h; exact h)
theorem yb_ior {x y : Int} (hc : code[i]? = some .ior) (h : yB D code Q L (i + 1) dl (.int (xJ (xi_or x y)) :: st) d e) : yB D code Q L i dl (.int (xJ y) :: .int (xJ x) :: st) d e := xb_ior hc (by unfold xi_or at h; rw [xJ_toInt] at h; exact h)
theorem yb_ixor {x y : Int} (hc : code[i]? = some .ixor) (h : yB D code Q L (i + 1) dl (.int (xJ (xi_xor x y)) :: st) d e) : yB D code Q L i dl (.int (xJ y) :: .int (xJ x) :: st) d e := xb_ixor hc (by unfold xi_xor at h; rw [xJ_toInt] at h; exact h)
theorem yb_ishl {x y : Int} (hc : code[i]? = some .ishl) (h : yB D code Q L (i + 1) dl (.int (xJ (xi_shl x y)) :: st) d e) : yB D code Q L i dl (.int (xJ y) :: .int (xJ x) :: st) d e := xb_ishl hc (by unfold xi_shl at h; rw [xJ_toInt] at h; exact h)
theorem yb_ishr {x y : Int} (hc : code[i]? = some .ishr) (h : yB D code Q L (i + 1) dl (.int (xJ (xi_shr x y)) :: st) d e) : yB D code Q L i dl (.int (xJ y) :: .int (xJ x) :: st) d e := xb_ishr hc (by unfold xi_shr at h; rw [xJ_toInt] at h; exact h)
theorem yb_iushr {x y : Int} (hc : code[i]? = some .iushr) (h : yB D code Q L (i + 1) dl (.int (xJ (xi_ushr x y)) :: st) d e) : yB D code Q L i dl (.int (xJ y) :: .int (xJ x) :: st) d e := xb_iushr hc (by unfold xi_ushr at h; rw [xJ_toInt] at h; exact h)
theorem yb_ineg {x : Int} (hc : code[i]? = some .ineg) (h : yB D code Q L (i + 1) dl (.int (xJ (-x)) :: st) d e) : yB D code Q L i dl (.int (xJ x) :: st) d e := xb_ineg hc (by rw [xJ_neg]; exact h)
theorem yb_i2b {x : Int} (hc : code[i]? = some .i2b) (h : yB D code Q L (i + 1) dl (.int (xJ (xi_i8 x)) :: st) d e) : yB D code Q L i dl (.int (xJ x) :: st) d e := xb_i2b hc (by unfold xi_i8 at h; rw [xJ_toInt] at h; exact h)
theorem yb_i2s {x : Int} (hc : code[i]? = some .i2s) (h : yB D code Q L (i + 1) dl (.int (xJ (xi_i16 x)) :: st) d e) : yB D code Q L i dl (.int (xJ x) :: st) d e := xb_i2s hc (by unfold xi_i16 at h; rw [xJ_toInt] at h; exact h)
theorem yb_i2l {x : Int} (hc : code[i]? = some .i2l) (h : yB D code Q L (i + 1) dl (.long (xJ x).toInt64 :: st) d e) : yB D code Q L i dl (.int (xJ x) :: st) d e := xb_i2l hc h
theorem yb_l2i {x : Int64} (hc : code[i]? = some .l2i) (h : yB D code Q L (i + 1) dl (.int (xJ x.toInt32.toInt) :: st) d e) : yB D code Q L i dl (.long x :: st) d e := xb_l2i hc (by rw [xJ_toInt] at h; exact h)
theorem yb_lor {x y : Int64} (hc : code[i]? = some .lor) (h : yB D code Q L (i + 1) dl (.long (x ||| y) :: st) d e) : yB D code Q L i dl (.long y :: .long x :: st) d e := xb_lor hc h
theorem yb_lxor {x y : Int64} (hc : code[i]? = some .lxor) (h : yB D code Q L (i + 1) dl (.long (x ^^^ y) :: st) d e) : yB D code Q L i dl (.long y :: .long x :: st) d e := xb_lxor hc h
theorem yb_lshl {x : Int64} {y : Int} (hc : code[i]? = some .lshl) (h : yB D code Q L (i + 1) dl (.long (x <<< ((xJ y).toInt64 &&& 63)) :: st) d e) : yB D code Q L i dl (.int (xJ y) :: .long x :: st) d e := xb_lshl hc h
theorem yb_lushr {x : Int64} {y : Int} (hc : code[i]? = some .lushr) (h : yB D code Q L (i + 1) dl (.long (x.toUInt64 >>> ((xJ y).toInt64.toUInt64 &&& Int64.toUInt64 63)).toInt64 :: st) d e) : yB D code Q L i dl (.int (xJ y) :: .long x :: st) d e := xb_lushr hc h
theorem yb_idiv {x y : Int} (hc : code[i]? = some .idiv) (hx : 0 ≤ x ∧ x < 2147483648) (hy : 0 < y ∧ y < 2147483648) (h : yB D code Q L (i + 1) dl (.int (xJ (x / y)) :: st) d e) : yB D code Q L i dl (.int (xJ y) :: .int (xJ x) :: st) d e := xb_idiv hc (by rw [show (0 : Int32) = xJ 0 from rfl, xJ_inj (by omega) (by omega)]; omega) (by rw [xJ_div hx hy]; exact h)
theorem yb_irem {x y : Int} (hc : code[i]? = some .irem) (hx : 0 ≤ x ∧ x < 2147483648) (hy : 0 < y ∧ y < 2147483648) (h : yB D code Q L (i + 1) dl (.int (xJ (x % y)) :: st) d e) : yB D code Q L i dl (.int (xJ y) :: .int (xJ x) :: st) d e := xb_irem hc (by rw [show (0 : Int32) = xJ 0 from rfl, xJ_inj (by omega) (by omega)]; omega) (by rw [xJ_rem hx hy]; exact h)
theorem yb_idivg {x y : Int} (hc : code[i]? = some .idiv) (hy : (-2147483648 ≤ y ∧ y < 2147483648) ∧ ¬ y = 0) (h : yB D code Q L (i + 1) dl (.int (xJ (xi_div x y)) :: st) d e) : yB D code Q L i dl (.int (xJ y) :: .int (xJ x) :: st) d e := xb_idiv hc (by rw [show (0 : Int32) = xJ 0 from rfl, xJ_inj hy.1 (by omega)]; exact hy.2) (by unfold xi_div at h; rw [xJ_toInt] at h; exact h)
theorem yb_dup {v : Value} (hc : code[i]? = some .dup) (hv : v.category = 1) (h : yB D code Q L (i + 1) dl (v :: v :: st) d e) : yB D code Q L i dl (v :: st) d e := xb_dup hc hv h
theorem yb_pop {v : Value} (hc : code[i]? = some .pop) (hv : v.category = 1) (h : yB D code Q L (i + 1) dl st d e) : yB D code Q L i dl (v :: st) d e := xb_pop hc hv h
theorem yb_dup_x1 {v w : Value} (hc : code[i]? = some .dup_x1) (hv : v.category = 1) (hw : w.category = 1) (h : yB D code Q L (i + 1) dl (v :: w :: v :: st) d e) : yB D code Q L i dl (v :: w :: st) d e := xb_dup_x1 hc hv hw h
theorem yb_dup2 {v w : Value} (hc : code[i]? = some .dup2) (hv : v.category = 1) (hw : w.category = 1) (h : yB D code Q L (i + 1) dl (v :: w :: v :: w :: st) d e) : yB D code Q L i dl (v :: w :: st) d e := xb_dup2 hc hv hw h
theorem yb_goto {t : Int} {j : Nat} (hc : code[i]? = some (.goto t)) (ht : t.toNat = j) (h : yB D code Q L j dl st d e) : yB D code Q L i dl st d e := xb_goto hc ht h
theorem yb_icmp_eq {x y : Int} {t : Int} {j : Nat} (hc : code[i]? = some (.if_icmp .eq t)) (ht : t.toNat = j) (hx : (-2147483648 ≤ x ∧ x < 2147483648)) (hy : (-2147483648 ≤ y ∧ y < 2147483648)) (h1 : x = y → yB D code Q L j dl st d e) (h2 : ¬ x = y → yB D code Q L (i + 1) dl st d e) : yB D code Q L i dl (.int (xJ y) :: .int (xJ x) :: st) d e := xb_icmp_eq hc ht (by rw [xJ_inj hx hy]; exact h1) (by rw [xJ_inj hx hy]; exact h2)
theorem yb_if_eq {x : Int} {t : Int} {j : Nat} (hc : code[i]? = some (.ifCond .eq t)) (ht : t.toNat = j) (hx : (-2147483648 ≤ x ∧ x < 2147483648)) (h1 : x = 0 → yB D code Q L j dl st d e) (h2 : ¬ x = 0 → yB D code Q L (i + 1) dl st d e) : yB D code Q L i dl (.int (xJ x) :: st) d e := xb_if_eq hc ht (by rw [show (0 : Int32) = xJ 0 from rfl, xJ_inj hx (by omega)]; exact h1) (by rw [show (0 : Int32) = xJ 0 from rfl, xJ_inj hx (by omega)]; exact h2)
theorem yb_icmp_ne {x y : Int} {t : Int} {j : Nat} (hc : code[i]? = some (.if_icmp .ne t)) (ht : t.toNat = j) (hx : (-2147483648 ≤ x ∧ x < 2147483648)) (hy : (-2147483648 ≤ y ∧ y < 2147483648)) (h1 : ¬ x = y → yB D code Q L j dl st d e) (h2 : x = y → yB D code Q L (i + 1) dl st d e) : yB D code Q L i dl (.int (xJ y) :: .int (xJ x) :: st) d e := xb_icmp_ne hc ht (by rw [xJ_inj hx hy]; exact h1) (by rw [xJ_inj hx hy]; exact h2)
theorem yb_if_ne {x : Int} {t : Int} {j : Nat} (hc : code[i]? = some (.ifCond .ne t)) (ht : t.toNat = j) (hx : (-2147483648 ≤ x ∧ x < 2147483648)) (h1 : ¬ x = 0 → yB D code Q L j dl st d e) (h2 : x = 0 → yB D code Q L (i + 1) dl st d e) : yB D code Q L i dl (.int (xJ x) :: st) d e := xb_if_ne hc ht (by rw [show (0 : Int32) = xJ 0 from rfl, xJ_inj hx (by omega)]; exact h1) (by rw [show (0 : Int32) = xJ 0 from rfl, xJ_inj hx (by omega)]; exact h2)
theorem yb_icmp_lt {x y : Int} {t : Int} {j : Nat} (hc : code[i]? = some (.if_icmp .lt t)) (ht : t.toNat = j) (hx : (-2147483648 ≤ x ∧ x < 2147483648)) (hy : (-2147483648 ≤ y ∧ y < 2147483648)) (h1 : x < y → yB D code Q L j dl st d e) (h2 : ¬ x < y → yB D code Q L (i + 1) dl st d e) : yB D code Q L i dl (.int (xJ y) :: .int (xJ x) :: st) d e := xb_icmp_lt hc ht (by rw [xJ_lt hx hy]; exact h1) (by rw [xJ_lt hx hy]; exact h2)
theorem yb_if_lt {x : Int} {t : Int} {j : Nat} (hc : code[i]? = some (.ifCond .lt t)) (ht : t.toNat = j) (hx : (-2147483648 ≤ x ∧ x < 2147483648)) (h1 : x < 0 → yB D code Q L j dl st d e) (h2 : ¬ x < 0 → yB D code Q L (i + 1) dl st d e) : yB D code Q L i dl (.int (xJ x) :: st) d e := xb_if_lt hc ht (by rw [show (0 : Int32) = xJ 0 from rfl, xJ_lt hx (by omega)]; exact h1) (by rw [show (0 : Int32) = xJ 0 from rfl, xJ_lt hx (by omega)]; exact h2)
theorem yb_icmp_ge {x y : Int} {t : Int} {j : Nat} (hc : code[i]? = some (.if_icmp .ge t)) (ht : t.toNat = j) (hx : (-2147483648 ≤ x ∧ x < 2147483648)) (hy : (-2147483648 ≤ y ∧ y < 2147483648)) (h1 : y ≤ x → yB D code Q L j dl st d e) (h2 : ¬ y ≤ x → yB D code Q L (i + 1) dl st d e) : yB D code Q L i dl (.int (xJ y) :: .int (xJ x) :: st) d e := xb_icmp_ge hc ht (by rw [xJ_le hy hx]; exact h1) (by rw [xJ_le hy hx]; exact h2)
theorem yb_if_ge {x : Int} {t : Int} {j : Nat} (hc : code[i]? = some (.ifCond .ge t)) (ht : t.toNat = j) (hx : (-2147483648 ≤ x ∧ x < 2147483648)) (h1 : 0 ≤ x → yB D code Q L j dl st d e) (h2 : ¬ 0 ≤ x → yB D code Q L (i + 1) dl st d e) : yB D code Q L i dl (.int (xJ x) :: st) d e := xb_if_ge hc ht (by rw [show (0 : Int32) = xJ 0 from rfl, xJ_le (by omega) hx]; exact h1) (by rw [show (0 : Int32) = xJ 0 from rfl, xJ_le (by omega) hx]; exact h2)
theorem yb_icmp_gt {x y : Int} {t : Int} {j : Nat} (hc : code[i]? = some (.if_icmp .gt t)) (ht : t.toNat = j) (hx : (-2147483648 ≤ x ∧ x < 2147483648)) (hy : (-2147483648 ≤ y ∧ y < 2147483648)) (h1 : y < x → yB D code Q L j dl st d e) (h2 : ¬ y < x → yB D code Q L (i + 1) dl st d e) : yB D code Q L i dl (.int (xJ y) :: .int (xJ x) :: st) d e := xb_icmp_gt hc ht (by rw [xJ_lt hy hx]; exact h1) (by rw [xJ_lt hy hx]; exact h2)
theorem yb_if_gt {x : Int} {t : Int} {j : Nat} (hc : code[i]? = some (.ifCond .gt t)) (ht : t.toNat = j) (hx : (-2147483648 ≤ x ∧ x < 2147483648)) (h1 : 0 < x → yB D code Q L j dl st d e) (h2 : ¬ 0 < x → yB D code Q L (i + 1) dl st d e) : yB D code Q L i dl (.int (xJ x) :: st) d e := xb_if_gt hc ht (by rw [show (0 : Int32) = xJ 0 from rfl, xJ_lt (by omega) hx]; exact h1) (by rw [show (0 : Int32) = xJ 0 from rfl, xJ_lt (by omega) hx]; exact h2)
theorem yb_icmp_le {x y : Int} {t : Int} {j : Nat} (hc : code[i]? = some (.if_icmp .le t)) (ht : t.toNat = j) (hx : (-2147483648 ≤ x ∧ x < 2147483648)) (hy : (-2147483648 ≤ y ∧ y < 2147483648)) (h1 : x ≤ y → yB D code Q L j dl st d e) (h2 : ¬ x ≤ y → yB D code Q L (i + 1) dl st d e) : yB D code Q L i dl (.int (xJ y) :: .int (xJ x) :: st) d e := xb_icmp_le hc ht (by rw [xJ_le hx hy]; exact h1) (by rw [xJ_le hx hy]; exact h2)
theorem yb_if_le {x : Int} {t : Int} {j : Nat} (hc : code[i]? = some (.ifCond .le t)) (ht : t.toNat = j) (hx : (-2147483648 ≤ x ∧ x < 2147483648)) (h1 : x ≤ 0 → yB D code Q L j dl st d e) (h2 : ¬ x ≤ 0 → yB D code Q L (i + 1) dl st d e) : yB D code Q L i dl (.int (xJ x) :: st) d e := xb_if_le hc ht (by rw [show (0 : Int32) = xJ 0 from rfl, xJ_le hx (by omega)]; exact h1) (by rw [show (0 : Int32) = xJ 0 from rfl, xJ_le hx (by omega)]; exact h2)
theorem yb_nnull {x : Int} {t : Int} {j : Nat} (hc : code[i]? = some (.ifnonnull t)) (ht : t.toNat = j) (hx : (-2147483648 ≤ x ∧ x < 2147483648)) (h1 : ¬ x = 0 → yB D code Q L j dl st d e) (h2 : x = 0 → yB D code Q L (i + 1) dl st d e) : yB D code Q L i dl (xd_r (xJ x) :: st) d e := xb_nnull hc ht (by rw [show (0 : Int32) = xJ 0 from rfl, xJ_inj hx (by omega)]; exact h1) (by rw [show (0 : Int32) = xJ 0 from rfl, xJ_inj hx (by omega)]; exact h2)
theorem yb_table {x : Int} {dd lo hi : Int} {os : Array Int} {j : Nat} (hc : code[i]? = some (.tableswitch dd lo hi os)) (ht : dd.toNat = j) (hx : (-2147483648 ≤ x ∧ x < 2147483648)) (h1 : (x < lo ∨ hi < x) → yB D code Q L j dl st d e) (h2 : ¬ x < lo → ¬ hi < x → ∃ t : Int, os[(x - lo).toNat]? = some t ∧ yB D code Q L t.toNat dl st d e) : yB D code Q L i dl (.int (xJ x) :: st) d e := xb_table hc ht (by rw [xJ_i hx]; exact h1) (by rw [xJ_i hx]; exact h2)
theorem yb_lookup {x : Int} {dd : Int} {ps : Array (Int × Int)} (hc : code[i]? = some (.lookupswitch dd ps)) (hx : (-2147483648 ≤ x ∧ x < 2147483648)) (h : yB D code Q L (Op.lookupswitch.offset ps.toList dd x).toNat dl st d e) : yB D code Q L i dl (.int (xJ x) :: st) d e := xb_lookup hc (by rw [xJ_i hx]; exact h)
theorem yb_get {a n : Nat} {fs : List Value} {v : Value} (hc : code[i]? = some (.getfield n)) (ha : 0 < a) (hz : a < 178) (hM : xd_mem L (xh_m d) e a = .inr (n / 64, fs)) (hv : fs[n % 64]? = some v) (h : yB D code Q L (i + 1) dl (v :: st) d e) : yB D code Q L i dl (.ref a :: st) d e := xb_get hc ha hz hM hv h
theorem yb_put {a n : Nat} {fs : List Value} {v : Value} {z k : Int} (hc : code[i]? = some (.putfield n)) (hk : ((n % 64 : Nat) : Int) = k) (ha : 0 < a) (hz : a < 178) (hM : xd_mem L (xh_m d) e a = .inr (n / 64, fs)) (hl : n % 64 < fs.length) (hf : fits (xe_ty (n / 64) (n % 64)) v = true) (hN : xd_cell L a (xh_m (xs d a k z) a) (e a) = .inr (n / 64, fs.set (n % 64) v)) (h : yB D code Q L (i + 1) dl st (xs d a k z) e) : yB D code Q L i dl (v :: .ref a :: st) d e := xb_put hc ha hz hM hl hf hN (xh_put _ _ _ _) h
/-- arrays: of bytes or booleans (t), of longs -/
def xd_Ab (t a n : Nat) : Prop := 0 < a ∧ a < 178 ∧ n < 10000 ∧ ∀ (L : Nat) (f : Nat → Int32) (g : Nat → Int64), xd_cell L a f g = .inl (t, n, .inl f)
def xd_Al (a n : Nat) : Prop := 0 < a ∧ a < 178 ∧ n < 10000 ∧ ∀ (L : Nat) (f : Nat → Int32) (g : Nat → Int64), xd_cell L a f g = .inl (2, n, .inr (.inl g))
theorem yb_iald {a n : Nat} {j v : Int} (hc : code[i]? = some .iaload) (hA : xd_A a n) (hn : n < 10000) (hin : 0 ≤ j ∧ j < (n : Int)) (hv : d a j = v) (h : yB D code Q L (i + 1) dl (.int (xJ v) :: st) d e) : yB D code Q L i dl (.int (xJ j) :: .ref a :: st) d e := xb_iald hc hA.2.1 (hA.2.2 L _ _) (xJ_in (by omega) hin) (by rw [xJ_nat (by omega)]; show xB _ _ _ _ _ _ (.int (xJ (d a (j.toNat : Int))) :: _) _ _; rw [Int.toNat_of_nonneg hin.1, hv]; exact h)
theorem yb_bald {a t n : Nat} {j v : Int} (hc : code[i]? = some .baload) (ht : t = 0 ∨ t = 3) (hA : xd_Ab t a n) (hin : 0 ≤ j ∧ j < (n : Int)) (hv : d a j = v) (h : yB D code Q L (i + 1) dl (.int (xJ v) :: st) d e) : yB D code Q L i dl (.int (xJ j) :: .ref a :: st) d e := xb_bald hc hA.1 hA.2.1 ht (hA.2.2.2 L _ _) (xJ_in (by have := hA.2.2.1; omega) hin) (by rw [xJ_nat (by have := hA.2.2.1; omega)]; show xB _ _ _ _ _ _ (.int (xJ (d a (j.toNat : Int))) :: _) _ _; rw [Int.toNat_of_nonneg hin.1, hv]; exact h)
theorem yb_lald {a n : Nat} {j : Int} {v : Int64} (hc : code[i]? = some .laload) (hA : xd_Al a n) (hin : 0 ≤ j ∧ j < (n : Int)) (hv : e a j.toNat = v) (h : yB D code Q L (i + 1) dl (.long v :: st) d e) : yB D code Q L i dl (.int (xJ j) :: .ref a :: st) d e := xb_lald hc hA.1 hA.2.1 (hA.2.2.2 L _ _) (xJ_in (by have := hA.2.2.1; omega) hin) (by rw [xJ_nat (by have := hA.2.2.1; omega), hv]; exact h)
theorem yb_iast {a n : Nat} {j x : Int} (hc : code[i]? = some .iastore) (hA : xd_A a n) (hn : n < 10000) (hin : 0 ≤ j ∧ j < (n : Int)) (h : yB D code Q L (i + 1) dl st (xs d a j x) e) : yB D code Q L i dl (.int (xJ x) :: .int (xJ j) :: .ref a :: st) d e := xb_iast hc hA.1 hA.2.1 (hA.2.2 L _ _) (xJ_in (by omega) hin) (hA.2.2 L _ _) (by rw [xh_upd d a (by omega), xh_put]) h
theorem yb_bast {a t n : Nat} {j x : Int} (hc : code[i]? = some .bastore) (ht : (t = 0 ∧ (xJ x).toInt8.toInt32 = xJ x) ∨ (t = 3 ∧ (xJ x = 0 ∨ xJ x = 1))) (hA : xd_Ab t a n) (hin : 0 ≤ j ∧ j < (n : Int)) (h : yB D code Q L (i + 1) dl st (xs d a j x) e) : yB D code Q L i dl (.int (xJ x) :: .int (xJ j) :: .ref a :: st) d e := xb_bast hc hA.1 hA.2.1 ht (hA.2.2.2 L _ _) (xJ_in (by have := hA.2.2.1; omega) hin) (hA.2.2.2 L _ _) (by rw [xh_upd d a (by have := hA.2.2.1; omega), xh_put]) h
theorem yb_last {a n : Nat} {j : Int} {x : Int64} (hc : code[i]? = some .lastore) (hA : xd_Al a n) (hin : 0 ≤ j ∧ j < (n : Int)) (h : yB D code Q L (i + 1) dl st d (va_up e a (vp_updL (e a) j.toNat x))) : yB D code Q L i dl (.long x :: .int (xJ j) :: .ref a :: st) d e := xb_last hc hA.1 hA.2.1 (hA.2.2.2 L _ _) (xJ_in (by have := hA.2.2.1; omega) hin) (hA.2.2.2 L _ _) (by rw [xJ_nat (by have := hA.2.2.1; omega)]) h
theorem yb_aald {a n : Nat} {j : Int} {f : Nat → Option Nat} {v : Value} (hc : code[i]? = some .aaload) (ha : 0 < a) (hz : a < 178) (hM : xd_mem L (xh_m d) e a = .inl (4, n, .inr (.inr (.inr (.inr f))))) (hn : n < 10000) (hin : 0 ≤ j ∧ j < (n : Int)) (hv : va_rf (f j.toNat) = v) (h : yB D code Q L (i + 1) dl (v :: st) d e) : yB D code Q L i dl (.int (xJ j) :: .ref a :: st) d e := xb_aald hc ha hz hM (xJ_in (by omega) hin) (by rw [xJ_nat (by omega)]; exact hv) h
theorem yb_alen {a t n : Nat} {x : (Nat → Int32) ⊕ (Nat → Int64) ⊕ (Nat → UInt32) ⊕ (Nat → UInt64) ⊕ (Nat → Option Nat)} (hc : code[i]? = some .arraylength) (hz : a < 178) (ht : t < 5) (hM : xd_mem L (xh_m d) e a = .inl (t, n, x)) (h0 : a = 0 → t = 1) (h : yB D code Q L (i + 1) dl (.int (xJ n) :: st) d e) : yB D code Q L i dl (.ref a :: st) d e := xb_alen hc hz ht hM h0 (by show xB _ _ _ _ _ _ (.int (Int32.ofNat n) :: _) _ _; rw [show Int32.ofNat n = xJ n from rfl]; exact h)
theorem yb_copyi {a0 a n0 n1 : Nat} {n : Int} (hc : code[i]? = some .monitorenter) (hcat : xe_cat st ≤ 8) (hA0 : xd_A a0 n0) (hA : xd_A a n1) (hn1 : n1 < 10000) (hn : 0 ≤ n ∧ n ≤ (n0 : Int) ∧ n ≤ (n1 : Int)) (h : yB D code Q L (i + 1) dl st (xcp d a0 a n) e) : yB D code Q L i dl (.int (xJ n) :: .int (xJ 0) :: .ref a :: .int (xJ 0) :: .ref a0 :: st) d e := xb_copyi hc hA0.1 hA0.2.1 hA.1 hA.2.1 hcat (hA0.2.2 L _ _) (hA.2.2 L _ _) (by decide) (by decide) (by rw [show (0 : Int32) = xJ 0 from rfl, xJ_lt (by omega) (by omega)]; omega) (by rw [xJ_nat (by omega), xJ_nat (by omega)]; omega) (by rw [xJ_nat (by omega), xJ_nat (by omega)]; omega) (hA.2.2 L _ _) (by rw [xh_cpy d a0 a (by omega), xh_putc]) h
def xcl (e : xd_E) (q0 q n : Nat) : xd_E := va_up e q (va_cpy (e q0) (e q) 0 0 n)
theorem yb_copyl {a0 a n0 n1 : Nat} {n : Int} (hc : code[i]? = some .monitorexit) (hcat : xe_cat st ≤ 8) (hA0 : xd_Al a0 n0) (hA : xd_Al a n1) (hn : 0 ≤ n ∧ n ≤ (n0 : Int) ∧ n ≤ (n1 : Int)) (h : yB D code Q L (i + 1) dl st d (xcl e a0 a n.toNat)) : yB D code Q L i dl (.int (xJ n) :: .int (xJ 0) :: .ref a :: .int (xJ 0) :: .ref a0 :: st) d e := xb_copyl hc hA0.1 hA0.2.1 hA.1 hA.2.1 hcat (hA0.2.2.2 L _ _) (hA.2.2.2 L _ _) (by decide) (by decide) (by have := hA.2.2.1; rw [show (0 : Int32) = xJ 0 from rfl, xJ_lt (by omega) (by omega)]; omega) (by have := hA.2.2.1; rw [xJ_nat (by omega), xJ_nat (by omega)]; omega) (by have := hA.2.2.1; rw [xJ_nat (by omega), xJ_nat (by omega)]; omega) (hA.2.2.2 L _ _) (by have := hA.2.2.1; rw [xJ_nat (by omega), xJ_nat (by omega)]; rfl) h
theorem yb_callVi {g : Nat} {inf : xe_I} {As st' : List Value} {a : Nat} {fs : List Value} (hc : code[i]? = some (.invokevirtual g)) (hT : xm_T[g]? = some inf) (hk : xe_ik inf = 1) (hm : xe_im inf = 0) (hs : xe_is inf = 0) (hst : st' = As.reverse ++ .ref a :: st) (hn : As.length = xe_in inf) (hA1 : As.all xe_c1 = true) (ha : 0 < a) (hz : a < 178) (hM : xd_mem L (xh_m d) e a = .inr (xe_ic inf, fs)) (hcat : xe_cat st ≤ 8) (h : yC D g L (Value.ref a :: As) d e (fun x d e => yB D code Q L (i + 1) dl (.int (xJ x) :: st) d e)) : yB D code Q L i dl st' d e := xb_callVi hc hT hk hm hs hst hn hA1 ha hz hM hcat (xC_mono h (fun _ _ _ ⟨z, d1, h1, h2, h3⟩ => by subst h1; subst h2; exact h3))
theorem yb_callVv {g : Nat} {inf : xe_I} {As st' : List Value} {a : Nat} {fs : List Value} (hc : code[i]? = some (.invokevirtual g)) (hT : xm_T[g]? = some inf) (hk : xe_ik inf = 1) (hm : xe_im inf = 0) (hs : xe_is inf = 0) (hst : st' = As.reverse ++ .ref a :: st) (hn : As.length = xe_in inf) (hA1 : As.all xe_c1 = true) (ha : 0 < a) (hz : a < 178) (hM : xd_mem L (xh_m d) e a = .inr (xe_ic inf, fs)) (hcat : xe_cat st ≤ 8) (h : yV D g L (Value.ref a :: As) d e (fun d e => yB D code Q L (i + 1) dl st d e)) : yB D code Q L i dl st' d e := xb_callVv hc hT hk hm hs hst hn hA1 ha hz hM hcat (xV_mono h (fun _ _ ⟨d1, h2, h3⟩ => by subst h2; exact h3))
theorem yb_callVz {g : Nat} {inf : xe_I} {As st' : List Value} {a : Nat} {fs : List Value} (hc : code[i]? = some (.invokevirtual g)) (hT : xm_T[g]? = some inf) (hk : xe_ik inf = 1) (hm : xe_im inf = 0) (hs : xe_is inf = 0) (hst : st' = As.reverse ++ .ref a :: st) (hn : As.length = xe_in inf) (hA1 : As.all xe_c1 = true) (ha : 0 < a) (hz : a < 178) (hM : xd_mem L (xh_m d) e a = .inr (xe_ic inf, fs)) (hcat : xe_cat st ≤ 8) (h : yZ D g L (Value.ref a :: As) d e (fun d e => yB D code Q L (i + 1) dl (.int (xJ 1) :: st) d e) (fun d e => yB D code Q L (i + 1) dl (.int (xJ 0) :: st) d e)) : yB D code Q L i dl st' d e := yb_callVi hc hT hk hm hs hst hn hA1 ha hz hM hcat (yC_mono h (fun _ _ _ q => q.elim (fun q => by rw [q.1]; exact q.2) (fun q => by rw [q.1]; exact q.2)))
theorem yb_callSi {g : Nat} {inf : xe_I} {As st' : List Value} (hc : code[i]? = some (.invokestatic g)) (hT : xm_T[g]? = some inf) (hk : xe_ik inf = 0) (hm : xe_im inf = 0) (hs : xe_is inf = 0) (hst : st' = As.reverse ++ st) (hn : As.length = xe_in inf) (hA1 : As.all xe_c1 = true) (hcat : xe_cat st ≤ 8) (h : yC D g L As d e (fun x d e => yB D code Q L (i + 1) dl (.int (xJ x) :: st) d e)) : yB D code Q L i dl st' d e := xb_callSi hc hT hk hm hs hst hn hA1 hcat (xC_mono h (fun _ _ _ ⟨z, d1, h1, h2, h3⟩ => by subst h1; subst h2; exact h3))
theorem yb_callSv {g : Nat} {inf : xe_I} {As st' : List Value} (hc : code[i]? = some (.invokestatic g)) (hT : xm_T[g]? = some inf) (hk : xe_ik inf = 0) (hm : xe_im inf = 0) (hs : xe_is inf = 0) (hst : st' = As.reverse ++ st) (hn : As.length = xe_in inf) (hA1 : As.all xe_c1 = true) (hcat : xe_cat st ≤ 8) (h : yV D g L As d e (fun d e => yB D code Q L (i + 1) dl st d e)) : yB D code Q L i dl st' d e := xb_callSv hc hT hk hm hs hst hn hA1 hcat (xV_mono h (fun _ _ ⟨d1, h2, h3⟩ => by subst h2; exact h3))
theorem yb_callSz {g : Nat} {inf : xe_I} {As st' : List Value} (hc : code[i]? = some (.invokestatic g)) (hT : xm_T[g]? = some inf) (hk : xe_ik inf = 0) (hm : xe_im inf = 0) (hs : xe_is inf = 0) (hst : st' = As.reverse ++ st) (hn : As.length = xe_in inf) (hA1 : As.all xe_c1 = true) (hcat : xe_cat st ≤ 8) (h : yZ D g L As d e (fun d e => yB D code Q L (i + 1) dl (.int (xJ 1) :: st) d e) (fun d e => yB D code Q L (i + 1) dl (.int (xJ 0) :: st) d e)) : yB D code Q L i dl st' d e := yb_callSi hc hT hk hm hs hst hn hA1 hcat (yC_mono h (fun _ _ _ q => q.elim (fun q => by rw [q.1]; exact q.2) (fun q => by rw [q.1]; exact q.2)))
theorem yb_forget {dl2 : List Value} (hle : xe_le dl dl2) (h : yB D code Q L i dl st d e) : yB D code Q L i dl2 st d e := xb_forget hle h
end YBR
section YBQ
variable {D : Nat} {code : List Instr} {L i : Nat} {dl : List Value} {d : xh_D} {e : xd_E}
theorem yb_ret {P : Int → xh_D → xd_E → Prop} {x : Int} (hc : code[i]? = some .ireturn) (h : P x d e) : yB D code (yQi L P) L i dl [.int (xJ x)] d e := xb_ret hc ⟨x, d, rfl, rfl, h⟩
theorem yb_ret1 {P R : xh_D → xd_E → Prop} (hc : code[i]? = some .freturn) (h : P d e) : yB D code (yQz L P R) L i dl [.int (xJ 1)] d e := xb_retz hc (Or.inr rfl) ⟨1, d, rfl, rfl, Or.inl ⟨rfl, h⟩⟩
theorem yb_ret0 {P R : xh_D → xd_E → Prop} (hc : code[i]? = some .freturn) (h : R d e) : yB D code (yQz L P R) L i dl [.int (xJ 0)] d e := xb_retz hc (Or.inl rfl) ⟨0, d, rfl, rfl, Or.inr ⟨rfl, h⟩⟩
theorem yb_retz {P R : xh_D → xd_E → Prop} {x : Int} (hc : code[i]? = some .freturn) (hx : x = 0 ∨ x = 1) (h1 : x = 1 → P d e) (h0 : x = 0 → R d e) : yB D code (yQz L P R) L i dl [.int (xJ x)] d e := by
  rcases hx with rfl | rfl
  · exact yb_ret0 hc (h0 rfl)
  · exact yb_ret1 hc (h1 rfl)
theorem yb_retv {P : xh_D → xd_E → Prop} (hc : code[i]? = some .return_) (h : P d e) : yB D code (yQv L P) L i dl [] d e := xb_retv hc ⟨d, rfl, h⟩
end YBQ
theorem xd_A16 : xd_Al 16 30 := ⟨by decide, by decide, by decide, fun _ _ _ => rfl⟩
theorem xd_A22 : xd_Al 22 30 := ⟨by decide, by decide, by decide, fun _ _ _ => rfl⟩
theorem xd_A32 : xd_Al 32 30 := ⟨by decide, by decide, by decide, fun _ _ _ => rfl⟩
theorem xd_A38 : xd_Al 38 30 := ⟨by decide, by decide, by decide, fun _ _ _ => rfl⟩
theorem xd_A44 : xd_Al 44 30 := ⟨by decide, by decide, by decide, fun _ _ _ => rfl⟩
theorem xd_A50 : xd_Al 50 30 := ⟨by decide, by decide, by decide, fun _ _ _ => rfl⟩
theorem xd_A56 : xd_Al 56 30 := ⟨by decide, by decide, by decide, fun _ _ _ => rfl⟩
theorem xd_A62 : xd_Al 62 30 := ⟨by decide, by decide, by decide, fun _ _ _ => rfl⟩
theorem xd_A68 : xd_Al 68 30 := ⟨by decide, by decide, by decide, fun _ _ _ => rfl⟩
theorem xd_A74 : xd_Al 74 30 := ⟨by decide, by decide, by decide, fun _ _ _ => rfl⟩
theorem xd_A80 : xd_Al 80 30 := ⟨by decide, by decide, by decide, fun _ _ _ => rfl⟩
theorem xd_A86 : xd_Al 86 30 := ⟨by decide, by decide, by decide, fun _ _ _ => rfl⟩
theorem xd_A92 : xd_Al 92 30 := ⟨by decide, by decide, by decide, fun _ _ _ => rfl⟩
theorem xd_A98 : xd_Al 98 30 := ⟨by decide, by decide, by decide, fun _ _ _ => rfl⟩
theorem xd_A104 : xd_Al 104 30 := ⟨by decide, by decide, by decide, fun _ _ _ => rfl⟩
theorem xd_A110 : xd_Al 110 30 := ⟨by decide, by decide, by decide, fun _ _ _ => rfl⟩
theorem xd_A117 : xd_Ab 3 117 5 := ⟨by decide, by decide, by decide, fun _ _ _ => rfl⟩
theorem xd_A150 : xd_Ab 0 150 80 := ⟨by decide, by decide, by decide, fun _ _ _ => rfl⟩
theorem xd_A153 : xd_Ab 0 153 40 := ⟨by decide, by decide, by decide, fun _ _ _ => rfl⟩
theorem xd_A175 : xd_Ab 3 175 2 := ⟨by decide, by decide, by decide, fun _ _ _ => rfl⟩
theorem xd_A177 : xd_Al 177 1 := ⟨by decide, by decide, by decide, fun _ _ _ => rfl⟩
theorem xd_Al5 {s : Nat} (h : xd_isS s = true) : xd_Al (s + 5) 30 := ⟨(xd_Sa5 h).1, (xd_Sa5 h).2.1, by decide, (xd_Sa5 h).2.2⟩
theorem xp_Sn {j : Int} {b n : Nat} (h : 0 ≤ j ∧ j < (n : Int)) : va_rf ((fun i => if i < n then some (b + 6 * i) else none) j.toNat) = .ref (b + 6 * j.toNat) := by
  show va_rf (if j.toNat < n then _ else _) = _
  rw [if_pos (by omega)]
  rfl
theorem xp_S27 {j : Int} (h : 0 ≤ j ∧ j < 12) : xd_isS (27 + 6 * j.toNat) = true := by
  have h1 : j.toNat < 12 := by omega
  generalize j.toNat = n at h1 ⊢
  revert n
  decide
theorem xp_S99 {j : Int} (h : 0 ≤ j ∧ j < 2) : xd_isS (99 + 6 * j.toNat) = true := by
  have h1 : j.toNat < 2 := by omega
  generalize j.toNat = n at h1 ⊢
  revert n
  decide
