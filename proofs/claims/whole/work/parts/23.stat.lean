/-! STATIC FUNCTIONS, and small methods: what a call of them gives. -/
def xw (z : Int) : Int := (xJ z).toInt
theorem xw_J (z : Int) : xJ (xw z) = xJ z := xJ_toInt _
theorem xw_r (z : Int) : -2147483648 ≤ xw z ∧ xw z < 2147483648 := xJ_rng _
theorem xw_i {z : Int} (h : -2147483648 ≤ z ∧ z < 2147483648) : xw z = z := xJ_i h
theorem xJ_b8 {x : Int} (h : -128 ≤ x ∧ x < 128) : (xJ x).toInt8.toInt32 = xJ x := by
  apply Int32.toInt_inj.mp
  rw [Int8.toInt_toInt32, Int32.toInt_toInt8, xJ_i (by omega), Int.bmod_eq_of_le (by omega) (by omega)]
def xp_bc1 (x : Int32) : Int32 := x - (xp_ushr x 1 &&& 1431655765)
def xp_bc2 (x : Int32) : Int32 := (x &&& 858993459) + (xp_ushr x 2 &&& 858993459)
def xp_bc3 (x : Int32) : Int32 := (x + xp_ushr x 4) &&& 252645135
def xp_bc4 (x : Int32) : Int32 := x + xp_ushr x 8
def xp_bc5 (x : Int32) : Int32 := (x + xp_ushr x 16) &&& 63
def xp_bc (x : Int) : Int := (xp_bc5 (xp_bc4 (xp_bc3 (xp_bc2 (xp_bc1 (xJ x)))))).toInt
def xp_ntz (x : Int) : Int := if x % 2 = 1 then 0 else if x % 4 = 2 then 1 else if x % 8 = 4 then 2 else if x % 16 = 8 then 3 else if x % 32 = 16 then 4 else 5
theorem xp_ntz_r (x : Int) : -2147483648 ≤ xp_ntz x ∧ xp_ntz x < 2147483648 := by unfold xp_ntz; repeat' split <;> omega
def xp_str (x : Int) : Int := if x = 60 ∨ x = 61 ∨ x = 62 then 1 else if x = 43 ∨ x = 45 then 2 else if x = 42 ∨ x = 47 then 3 else if x = 256 then 4 else 0
theorem xp_str_r (x : Int) : -2147483648 ≤ xp_str x ∧ xp_str x < 2147483648 := by unfold xp_str; repeat' split <;> omega
def xp_thg (x : Int) : Int := if x = 116 then 0 else if x = 117 then 1 else if x = 114 then 2 else if x = 107 then 3 else if x = 100 then 4 else if x = 105 then 5 else if x = 106 then 6 else -1
theorem xp_thg_r (x : Int) : -2147483648 ≤ xp_thg x ∧ xp_thg x < 2147483648 := by unfold xp_thg; repeat' split <;> omega
def xp_join (o x y : Int) : Int := if o = 60 then (if x < y then 1 else 0) else if o = 62 then (if y < x then 1 else 0) else if o = 61 then (if x = y then 1 else 0) else if o = 43 then xw (x + y) else if o = 45 then xw (x - y) else if o = 42 then xw (x * y) else if y = 0 then 0 else xi_div x y
theorem xi_div_r (x y : Int) : -2147483648 ≤ xi_div x y ∧ xi_div x y < 2147483648 := xJ_rng _
theorem xp_join_r (o x y : Int) : -2147483648 ≤ xp_join o x y ∧ xp_join o x y < 2147483648 := by
  have h1 := xw_r (x + y)
  have h2 := xw_r (x - y)
  have h3 := xw_r (x * y)
  have h4 := xi_div_r x y
  unfold xp_join
  repeat' split
  all_goals omega
theorem xi_i8_r (x : Int) : -2147483648 ≤ xi_i8 x ∧ xi_i8 x < 2147483648 := xJ_rng _
theorem xi_i16_r (x : Int) : -2147483648 ≤ xi_i16 x ∧ xi_i16 x < 2147483648 := xJ_rng _
def xp_kind (k x : Int) : Int := if k = 0 then xi_i8 x else if k = 1 then xi_i16 x else xw x
theorem xp_kind_r (k x : Int) : -2147483648 ≤ xp_kind k x ∧ xp_kind k x < 2147483648 := by
  have h1 := xi_i8_r x
  have h2 := xi_i16_r x
  have h3 := xw_r x
  unfold xp_kind
  repeat' split
  all_goals omega
def xp_pia (x : Int) : Int := if x = 100 then 1 else if x = 115 then 3 else if x = 104 ∨ x = 109 then 2 else -1
theorem xp_pia_r (x : Int) : -2147483648 ≤ xp_pia x ∧ xp_pia x < 2147483648 := by unfold xp_pia; repeat' split <;> omega
def xp_pb (p x : Int) : Int := if p = 0 then xp_pia x else if p = 2 then (if 97 ≤ x ∧ x ≤ 105 then 4 else -1) else if p = 3 then (if 97 ≤ x ∧ x ≤ 105 then 5 else -1) else if p = 4 then (if 48 ≤ x ∧ x ≤ 56 then 6 else -1) else if p = 5 then (if 97 ≤ x ∧ x ≤ 105 then 6 else -1) else if p = 1 ∧ 49 ≤ x ∧ x ≤ 57 then 6 else if x = 59 then 0 else -1
theorem xp_pb_r (p x : Int) : -2147483648 ≤ xp_pb p x ∧ xp_pb p x < 2147483648 := by
  have h := xp_pia_r x
  unfold xp_pb
  repeat' split
  all_goals omega
def xp_apart (x y : Int) : Int := min (max (x - y) (-(x - y))) (9 - max (x - y) (-(x - y)))
theorem xp_apart_r {x y : Int} (hx : 0 ≤ x ∧ x < 9) (hy : 0 ≤ y ∧ y < 9) : -2147483648 ≤ xp_apart x y ∧ xp_apart x y < 2147483648 := by unfold xp_apart; omega
theorem xi_xor_nn {x y : Int} (hx : 0 ≤ x ∧ x < 2147483648) (hy : 0 ≤ y ∧ y < 2147483648) : 0 ≤ xi_xor x y := by
  unfold xi_xor
  rw [Int32.toInt, Int32.toBitVec_xor]
  apply BitVec.toInt_nonneg_of_msb_false
  have h1 : (xJ x).toInt = x := xJ_i (by omega)
  have h2 : (xJ y).toInt = y := xJ_i (by omega)
  rw [BitVec.msb_xor, BitVec.msb_eq_toInt, BitVec.msb_eq_toInt]
  show (decide ((xJ x).toInt < 0) ^^ decide ((xJ y).toInt < 0)) = false
  rw [h1, h2, decide_eq_false (by omega), decide_eq_false (by omega)]
  rfl
/-- the text: its signs are bytes -/
def xt_ok (d : xh_D) : Prop := (0 ≤ d 2 1 ∧ d 2 1 ≤ 80) ∧ ∀ i, 0 ≤ i → i < d 2 1 → 0 ≤ d 3 i ∧ d 3 i < 256
def xt_at (d : xh_D) (p : Int) : Int := if 0 ≤ p ∧ p < d 2 1 then d 3 p else -1
def xt_dg (c : Int) : Int := if 48 ≤ c ∧ c ≤ 57 then c - 48 else -1
def xt_dig (d : xh_D) (p : Int) : Int := xt_dg (xt_at d p)
theorem xt_at_r {d : xh_D} (h : xt_ok d) (p : Int) : -1 ≤ xt_at d p ∧ xt_at d p < 256 := by
  unfold xt_at
  split
  · rename_i q
    have := h.2 p q.1 q.2
    omega
  · omega
def xm_hok (d : xh_D) : Prop := 0 ≤ d 146 12 ∧ d 146 12 < 2147483648 ∧ 0 ≤ d 146 11 ∧ d 146 11 < 2147483648 ∧ ((d 146 9 = 150 ∧ 0 ≤ d 146 10 ∧ d 146 10 ≤ 80) ∨ (d 146 9 = 153 ∧ 0 ≤ d 146 10 ∧ d 146 10 ≤ 40))
def xm_here (d : xh_D) : Int := if d 146 12 < d 146 10 ∧ d 146 12 < d 146 11 then d (d 146 9).toNat (d 146 12) else -1
def xp_ent (w : Int64) (p : Int) : Int := xi_and (w.toUInt64 >>> ((xJ (p * (4 : Int))).toInt64.toUInt64 &&& Int64.toUInt64 63)).toInt64.toInt32.toInt 15

theorem yC_wrap {D g L : Nat} {a : List Value} {d : xh_D} {e : xd_E} {P : Int → xh_D → xd_E → Prop} (h : yC D g L a d e (fun z d e => P (xw z) d e)) : yC D g L a d e P := xC_mono h (fun _ _ _ ⟨z, d1, h1, h2, h3⟩ => ⟨xw z, d1, by rw [xw_J]; exact h1, h2, h3⟩)
theorem yk_0_0 {D L : Nat} {P : Int → xh_D → xd_E → Prop} {d : xh_D} {e : xd_E} {a0 : Int}   (h : (∀ v1, v1 = (a0 - (xi_and (xi_ushr a0 (1 : Int)) (1431655765 : Int))) → (∀ v2, v2 = ((xi_and v1 (858993459 : Int)) + (xi_and (xi_ushr v1 (2 : Int)) (858993459 : Int))) → (∀ v3, v3 = (xi_and (v2 + (xi_ushr v2 (4 : Int))) (252645135 : Int)) → (∀ v4, v4 = ((v3 + (xi_ushr v3 (8 : Int))) + (xi_ushr (v3 + (xi_ushr v3 (8 : Int))) (16 : Int))) → P (xi_and v4 (63 : Int)) d e))))) : yB D xm_c0 (yQi L P) L 0 [.int (xJ a0)] [] d e := by
  refine yb_iload (x := a0) rfl rfl ?_
  refine yb_iload (x := a0) rfl rfl ?_
  refine yb_push (v := 1) rfl ?_
  refine yb_iushr (x := a0) (y := (1 : Int)) rfl ?_
  refine yb_push (v := 1431655765) rfl ?_
  refine yb_iand (x := (xi_ushr a0 (1 : Int))) (y := (1431655765 : Int)) rfl ?_
  refine yb_isub (x := a0) (y := (xi_and (xi_ushr a0 (1 : Int)) (1431655765 : Int))) rfl ?_
  replace h := h _ rfl
  refine yb_istore rfl rfl rfl ?_
  refine yb_iload (x := (a0 - (xi_and (xi_ushr a0 (1 : Int)) (1431655765 : Int)))) rfl rfl ?_
  refine yb_push (v := 858993459) rfl ?_
  refine yb_iand (x := (a0 - (xi_and (xi_ushr a0 (1 : Int)) (1431655765 : Int)))) (y := (858993459 : Int)) rfl ?_
  refine yb_iload (x := (a0 - (xi_and (xi_ushr a0 (1 : Int)) (1431655765 : Int)))) rfl rfl ?_
  refine yb_push (v := 2) rfl ?_
  refine yb_iushr (x := (a0 - (xi_and (xi_ushr a0 (1 : Int)) (1431655765 : Int)))) (y := (2 : Int)) rfl ?_
  refine yb_push (v := 858993459) rfl ?_
  refine yb_iand (x := (xi_ushr (a0 - (xi_and (xi_ushr a0 (1 : Int)) (1431655765 : Int))) (2 : Int))) (y := (858993459 : Int)) rfl ?_
  refine yb_iadd (x := (xi_and (a0 - (xi_and (xi_ushr a0 (1 : Int)) (1431655765 : Int))) (858993459 : Int))) (y := (xi_and (xi_ushr (a0 - (xi_and (xi_ushr a0 (1 : Int)) (1431655765 : Int))) (2 : Int)) (858993459 : Int))) rfl ?_
  replace h := h _ rfl
  refine yb_istore rfl rfl rfl ?_
  refine yb_iload (x := ((xi_and (a0 - (xi_and (xi_ushr a0 (1 : Int)) (1431655765 : Int))) (858993459 : Int)) + (xi_and (xi_ushr (a0 - (xi_and (xi_ushr a0 (1 : Int)) (1431655765 : Int))) (2 : Int)) (858993459 : Int)))) rfl rfl ?_
  refine yb_iload (x := ((xi_and (a0 - (xi_and (xi_ushr a0 (1 : Int)) (1431655765 : Int))) (858993459 : Int)) + (xi_and (xi_ushr (a0 - (xi_and (xi_ushr a0 (1 : Int)) (1431655765 : Int))) (2 : Int)) (858993459 : Int)))) rfl rfl ?_
  refine yb_push (v := 4) rfl ?_
  refine yb_iushr (x := ((xi_and (a0 - (xi_and (xi_ushr a0 (1 : Int)) (1431655765 : Int))) (858993459 : Int)) + (xi_and (xi_ushr (a0 - (xi_and (xi_ushr a0 (1 : Int)) (1431655765 : Int))) (2 : Int)) (858993459 : Int)))) (y := (4 : Int)) rfl ?_
  refine yb_iadd (x := ((xi_and (a0 - (xi_and (xi_ushr a0 (1 : Int)) (1431655765 : Int))) (858993459 : Int)) + (xi_and (xi_ushr (a0 - (xi_and (xi_ushr a0 (1 : Int)) (1431655765 : Int))) (2 : Int)) (858993459 : Int)))) (y := (xi_ushr ((xi_and (a0 - (xi_and (xi_ushr a0 (1 : Int)) (1431655765 : Int))) (858993459 : Int)) + (xi_and (xi_ushr (a0 - (xi_and (xi_ushr a0 (1 : Int)) (1431655765 : Int))) (2 : Int)) (858993459 : Int))) (4 : Int))) rfl ?_
  refine yb_push (v := 252645135) rfl ?_
  refine yb_iand (x := (((xi_and (a0 - (xi_and (xi_ushr a0 (1 : Int)) (1431655765 : Int))) (858993459 : Int)) + (xi_and (xi_ushr (a0 - (xi_and (xi_ushr a0 (1 : Int)) (1431655765 : Int))) (2 : Int)) (858993459 : Int))) + (xi_ushr ((xi_and (a0 - (xi_and (xi_ushr a0 (1 : Int)) (1431655765 : Int))) (858993459 : Int)) + (xi_and (xi_ushr (a0 - (xi_and (xi_ushr a0 (1 : Int)) (1431655765 : Int))) (2 : Int)) (858993459 : Int))) (4 : Int)))) (y := (252645135 : Int)) rfl ?_
  replace h := h _ rfl
  refine yb_istore rfl rfl rfl ?_
  refine yb_iload (x := (xi_and (((xi_and (a0 - (xi_and (xi_ushr a0 (1 : Int)) (1431655765 : Int))) (858993459 : Int)) + (xi_and (xi_ushr (a0 - (xi_and (xi_ushr a0 (1 : Int)) (1431655765 : Int))) (2 : Int)) (858993459 : Int))) + (xi_ushr ((xi_and (a0 - (xi_and (xi_ushr a0 (1 : Int)) (1431655765 : Int))) (858993459 : Int)) + (xi_and (xi_ushr (a0 - (xi_and (xi_ushr a0 (1 : Int)) (1431655765 : Int))) (2 : Int)) (858993459 : Int))) (4 : Int))) (252645135 : Int))) rfl rfl ?_
  refine yb_iload (x := (xi_and (((xi_and (a0 - (xi_and (xi_ushr a0 (1 : Int)) (1431655765 : Int))) (858993459 : Int)) + (xi_and (xi_ushr (a0 - (xi_and (xi_ushr a0 (1 : Int)) (1431655765 : Int))) (2 : Int)) (858993459 : Int))) + (xi_ushr ((xi_and (a0 - (xi_and (xi_ushr a0 (1 : Int)) (1431655765 : Int))) (858993459 : Int)) + (xi_and (xi_ushr (a0 - (xi_and (xi_ushr a0 (1 : Int)) (1431655765 : Int))) (2 : Int)) (858993459 : Int))) (4 : Int))) (252645135 : Int))) rfl rfl ?_
  refine yb_push (v := 8) rfl ?_
  refine yb_iushr (x := (xi_and (((xi_and (a0 - (xi_and (xi_ushr a0 (1 : Int)) (1431655765 : Int))) (858993459 : Int)) + (xi_and (xi_ushr (a0 - (xi_and (xi_ushr a0 (1 : Int)) (1431655765 : Int))) (2 : Int)) (858993459 : Int))) + (xi_ushr ((xi_and (a0 - (xi_and (xi_ushr a0 (1 : Int)) (1431655765 : Int))) (858993459 : Int)) + (xi_and (xi_ushr (a0 - (xi_and (xi_ushr a0 (1 : Int)) (1431655765 : Int))) (2 : Int)) (858993459 : Int))) (4 : Int))) (252645135 : Int))) (y := (8 : Int)) rfl ?_
  refine yb_iadd (x := (xi_and (((xi_and (a0 - (xi_and (xi_ushr a0 (1 : Int)) (1431655765 : Int))) (858993459 : Int)) + (xi_and (xi_ushr (a0 - (xi_and (xi_ushr a0 (1 : Int)) (1431655765 : Int))) (2 : Int)) (858993459 : Int))) + (xi_ushr ((xi_and (a0 - (xi_and (xi_ushr a0 (1 : Int)) (1431655765 : Int))) (858993459 : Int)) + (xi_and (xi_ushr (a0 - (xi_and (xi_ushr a0 (1 : Int)) (1431655765 : Int))) (2 : Int)) (858993459 : Int))) (4 : Int))) (252645135 : Int))) (y := (xi_ushr (xi_and (((xi_and (a0 - (xi_and (xi_ushr a0 (1 : Int)) (1431655765 : Int))) (858993459 : Int)) + (xi_and (xi_ushr (a0 - (xi_and (xi_ushr a0 (1 : Int)) (1431655765 : Int))) (2 : Int)) (858993459 : Int))) + (xi_ushr ((xi_and (a0 - (xi_and (xi_ushr a0 (1 : Int)) (1431655765 : Int))) (858993459 : Int)) + (xi_and (xi_ushr (a0 - (xi_and (xi_ushr a0 (1 : Int)) (1431655765 : Int))) (2 : Int)) (858993459 : Int))) (4 : Int))) (252645135 : Int)) (8 : Int))) rfl ?_
  refine yb_istore rfl rfl rfl ?_
  refine yb_iload (x := ((xi_and (((xi_and (a0 - (xi_and (xi_ushr a0 (1 : Int)) (1431655765 : Int))) (858993459 : Int)) + (xi_and (xi_ushr (a0 - (xi_and (xi_ushr a0 (1 : Int)) (1431655765 : Int))) (2 : Int)) (858993459 : Int))) + (xi_ushr ((xi_and (a0 - (xi_and (xi_ushr a0 (1 : Int)) (1431655765 : Int))) (858993459 : Int)) + (xi_and (xi_ushr (a0 - (xi_and (xi_ushr a0 (1 : Int)) (1431655765 : Int))) (2 : Int)) (858993459 : Int))) (4 : Int))) (252645135 : Int)) + (xi_ushr (xi_and (((xi_and (a0 - (xi_and (xi_ushr a0 (1 : Int)) (1431655765 : Int))) (858993459 : Int)) + (xi_and (xi_ushr (a0 - (xi_and (xi_ushr a0 (1 : Int)) (1431655765 : Int))) (2 : Int)) (858993459 : Int))) + (xi_ushr ((xi_and (a0 - (xi_and (xi_ushr a0 (1 : Int)) (1431655765 : Int))) (858993459 : Int)) + (xi_and (xi_ushr (a0 - (xi_and (xi_ushr a0 (1 : Int)) (1431655765 : Int))) (2 : Int)) (858993459 : Int))) (4 : Int))) (252645135 : Int)) (8 : Int)))) rfl rfl ?_
  refine yb_iload (x := ((xi_and (((xi_and (a0 - (xi_and (xi_ushr a0 (1 : Int)) (1431655765 : Int))) (858993459 : Int)) + (xi_and (xi_ushr (a0 - (xi_and (xi_ushr a0 (1 : Int)) (1431655765 : Int))) (2 : Int)) (858993459 : Int))) + (xi_ushr ((xi_and (a0 - (xi_and (xi_ushr a0 (1 : Int)) (1431655765 : Int))) (858993459 : Int)) + (xi_and (xi_ushr (a0 - (xi_and (xi_ushr a0 (1 : Int)) (1431655765 : Int))) (2 : Int)) (858993459 : Int))) (4 : Int))) (252645135 : Int)) + (xi_ushr (xi_and (((xi_and (a0 - (xi_and (xi_ushr a0 (1 : Int)) (1431655765 : Int))) (858993459 : Int)) + (xi_and (xi_ushr (a0 - (xi_and (xi_ushr a0 (1 : Int)) (1431655765 : Int))) (2 : Int)) (858993459 : Int))) + (xi_ushr ((xi_and (a0 - (xi_and (xi_ushr a0 (1 : Int)) (1431655765 : Int))) (858993459 : Int)) + (xi_and (xi_ushr (a0 - (xi_and (xi_ushr a0 (1 : Int)) (1431655765 : Int))) (2 : Int)) (858993459 : Int))) (4 : Int))) (252645135 : Int)) (8 : Int)))) rfl rfl ?_
  refine yb_push (v := 16) rfl ?_
  refine yb_iushr (x := ((xi_and (((xi_and (a0 - (xi_and (xi_ushr a0 (1 : Int)) (1431655765 : Int))) (858993459 : Int)) + (xi_and (xi_ushr (a0 - (xi_and (xi_ushr a0 (1 : Int)) (1431655765 : Int))) (2 : Int)) (858993459 : Int))) + (xi_ushr ((xi_and (a0 - (xi_and (xi_ushr a0 (1 : Int)) (1431655765 : Int))) (858993459 : Int)) + (xi_and (xi_ushr (a0 - (xi_and (xi_ushr a0 (1 : Int)) (1431655765 : Int))) (2 : Int)) (858993459 : Int))) (4 : Int))) (252645135 : Int)) + (xi_ushr (xi_and (((xi_and (a0 - (xi_and (xi_ushr a0 (1 : Int)) (1431655765 : Int))) (858993459 : Int)) + (xi_and (xi_ushr (a0 - (xi_and (xi_ushr a0 (1 : Int)) (1431655765 : Int))) (2 : Int)) (858993459 : Int))) + (xi_ushr ((xi_and (a0 - (xi_and (xi_ushr a0 (1 : Int)) (1431655765 : Int))) (858993459 : Int)) + (xi_and (xi_ushr (a0 - (xi_and (xi_ushr a0 (1 : Int)) (1431655765 : Int))) (2 : Int)) (858993459 : Int))) (4 : Int))) (252645135 : Int)) (8 : Int)))) (y := (16 : Int)) rfl ?_
  refine yb_iadd (x := ((xi_and (((xi_and (a0 - (xi_and (xi_ushr a0 (1 : Int)) (1431655765 : Int))) (858993459 : Int)) + (xi_and (xi_ushr (a0 - (xi_and (xi_ushr a0 (1 : Int)) (1431655765 : Int))) (2 : Int)) (858993459 : Int))) + (xi_ushr ((xi_and (a0 - (xi_and (xi_ushr a0 (1 : Int)) (1431655765 : Int))) (858993459 : Int)) + (xi_and (xi_ushr (a0 - (xi_and (xi_ushr a0 (1 : Int)) (1431655765 : Int))) (2 : Int)) (858993459 : Int))) (4 : Int))) (252645135 : Int)) + (xi_ushr (xi_and (((xi_and (a0 - (xi_and (xi_ushr a0 (1 : Int)) (1431655765 : Int))) (858993459 : Int)) + (xi_and (xi_ushr (a0 - (xi_and (xi_ushr a0 (1 : Int)) (1431655765 : Int))) (2 : Int)) (858993459 : Int))) + (xi_ushr ((xi_and (a0 - (xi_and (xi_ushr a0 (1 : Int)) (1431655765 : Int))) (858993459 : Int)) + (xi_and (xi_ushr (a0 - (xi_and (xi_ushr a0 (1 : Int)) (1431655765 : Int))) (2 : Int)) (858993459 : Int))) (4 : Int))) (252645135 : Int)) (8 : Int)))) (y := (xi_ushr ((xi_and (((xi_and (a0 - (xi_and (xi_ushr a0 (1 : Int)) (1431655765 : Int))) (858993459 : Int)) + (xi_and (xi_ushr (a0 - (xi_and (xi_ushr a0 (1 : Int)) (1431655765 : Int))) (2 : Int)) (858993459 : Int))) + (xi_ushr ((xi_and (a0 - (xi_and (xi_ushr a0 (1 : Int)) (1431655765 : Int))) (858993459 : Int)) + (xi_and (xi_ushr (a0 - (xi_and (xi_ushr a0 (1 : Int)) (1431655765 : Int))) (2 : Int)) (858993459 : Int))) (4 : Int))) (252645135 : Int)) + (xi_ushr (xi_and (((xi_and (a0 - (xi_and (xi_ushr a0 (1 : Int)) (1431655765 : Int))) (858993459 : Int)) + (xi_and (xi_ushr (a0 - (xi_and (xi_ushr a0 (1 : Int)) (1431655765 : Int))) (2 : Int)) (858993459 : Int))) + (xi_ushr ((xi_and (a0 - (xi_and (xi_ushr a0 (1 : Int)) (1431655765 : Int))) (858993459 : Int)) + (xi_and (xi_ushr (a0 - (xi_and (xi_ushr a0 (1 : Int)) (1431655765 : Int))) (2 : Int)) (858993459 : Int))) (4 : Int))) (252645135 : Int)) (8 : Int))) (16 : Int))) rfl ?_
  replace h := h _ rfl
  refine yb_istore rfl rfl rfl ?_
  refine yb_iload (x := (((xi_and (((xi_and (a0 - (xi_and (xi_ushr a0 (1 : Int)) (1431655765 : Int))) (858993459 : Int)) + (xi_and (xi_ushr (a0 - (xi_and (xi_ushr a0 (1 : Int)) (1431655765 : Int))) (2 : Int)) (858993459 : Int))) + (xi_ushr ((xi_and (a0 - (xi_and (xi_ushr a0 (1 : Int)) (1431655765 : Int))) (858993459 : Int)) + (xi_and (xi_ushr (a0 - (xi_and (xi_ushr a0 (1 : Int)) (1431655765 : Int))) (2 : Int)) (858993459 : Int))) (4 : Int))) (252645135 : Int)) + (xi_ushr (xi_and (((xi_and (a0 - (xi_and (xi_ushr a0 (1 : Int)) (1431655765 : Int))) (858993459 : Int)) + (xi_and (xi_ushr (a0 - (xi_and (xi_ushr a0 (1 : Int)) (1431655765 : Int))) (2 : Int)) (858993459 : Int))) + (xi_ushr ((xi_and (a0 - (xi_and (xi_ushr a0 (1 : Int)) (1431655765 : Int))) (858993459 : Int)) + (xi_and (xi_ushr (a0 - (xi_and (xi_ushr a0 (1 : Int)) (1431655765 : Int))) (2 : Int)) (858993459 : Int))) (4 : Int))) (252645135 : Int)) (8 : Int))) + (xi_ushr ((xi_and (((xi_and (a0 - (xi_and (xi_ushr a0 (1 : Int)) (1431655765 : Int))) (858993459 : Int)) + (xi_and (xi_ushr (a0 - (xi_and (xi_ushr a0 (1 : Int)) (1431655765 : Int))) (2 : Int)) (858993459 : Int))) + (xi_ushr ((xi_and (a0 - (xi_and (xi_ushr a0 (1 : Int)) (1431655765 : Int))) (858993459 : Int)) + (xi_and (xi_ushr (a0 - (xi_and (xi_ushr a0 (1 : Int)) (1431655765 : Int))) (2 : Int)) (858993459 : Int))) (4 : Int))) (252645135 : Int)) + (xi_ushr (xi_and (((xi_and (a0 - (xi_and (xi_ushr a0 (1 : Int)) (1431655765 : Int))) (858993459 : Int)) + (xi_and (xi_ushr (a0 - (xi_and (xi_ushr a0 (1 : Int)) (1431655765 : Int))) (2 : Int)) (858993459 : Int))) + (xi_ushr ((xi_and (a0 - (xi_and (xi_ushr a0 (1 : Int)) (1431655765 : Int))) (858993459 : Int)) + (xi_and (xi_ushr (a0 - (xi_and (xi_ushr a0 (1 : Int)) (1431655765 : Int))) (2 : Int)) (858993459 : Int))) (4 : Int))) (252645135 : Int)) (8 : Int))) (16 : Int)))) rfl rfl ?_
  refine yb_push (v := 63) rfl ?_
  refine yb_iand (x := (((xi_and (((xi_and (a0 - (xi_and (xi_ushr a0 (1 : Int)) (1431655765 : Int))) (858993459 : Int)) + (xi_and (xi_ushr (a0 - (xi_and (xi_ushr a0 (1 : Int)) (1431655765 : Int))) (2 : Int)) (858993459 : Int))) + (xi_ushr ((xi_and (a0 - (xi_and (xi_ushr a0 (1 : Int)) (1431655765 : Int))) (858993459 : Int)) + (xi_and (xi_ushr (a0 - (xi_and (xi_ushr a0 (1 : Int)) (1431655765 : Int))) (2 : Int)) (858993459 : Int))) (4 : Int))) (252645135 : Int)) + (xi_ushr (xi_and (((xi_and (a0 - (xi_and (xi_ushr a0 (1 : Int)) (1431655765 : Int))) (858993459 : Int)) + (xi_and (xi_ushr (a0 - (xi_and (xi_ushr a0 (1 : Int)) (1431655765 : Int))) (2 : Int)) (858993459 : Int))) + (xi_ushr ((xi_and (a0 - (xi_and (xi_ushr a0 (1 : Int)) (1431655765 : Int))) (858993459 : Int)) + (xi_and (xi_ushr (a0 - (xi_and (xi_ushr a0 (1 : Int)) (1431655765 : Int))) (2 : Int)) (858993459 : Int))) (4 : Int))) (252645135 : Int)) (8 : Int))) + (xi_ushr ((xi_and (((xi_and (a0 - (xi_and (xi_ushr a0 (1 : Int)) (1431655765 : Int))) (858993459 : Int)) + (xi_and (xi_ushr (a0 - (xi_and (xi_ushr a0 (1 : Int)) (1431655765 : Int))) (2 : Int)) (858993459 : Int))) + (xi_ushr ((xi_and (a0 - (xi_and (xi_ushr a0 (1 : Int)) (1431655765 : Int))) (858993459 : Int)) + (xi_and (xi_ushr (a0 - (xi_and (xi_ushr a0 (1 : Int)) (1431655765 : Int))) (2 : Int)) (858993459 : Int))) (4 : Int))) (252645135 : Int)) + (xi_ushr (xi_and (((xi_and (a0 - (xi_and (xi_ushr a0 (1 : Int)) (1431655765 : Int))) (858993459 : Int)) + (xi_and (xi_ushr (a0 - (xi_and (xi_ushr a0 (1 : Int)) (1431655765 : Int))) (2 : Int)) (858993459 : Int))) + (xi_ushr ((xi_and (a0 - (xi_and (xi_ushr a0 (1 : Int)) (1431655765 : Int))) (858993459 : Int)) + (xi_and (xi_ushr (a0 - (xi_and (xi_ushr a0 (1 : Int)) (1431655765 : Int))) (2 : Int)) (858993459 : Int))) (4 : Int))) (252645135 : Int)) (8 : Int))) (16 : Int)))) (y := (63 : Int)) rfl ?_
  exact yb_ret rfl h
theorem sp_0 {D L : Nat} {P : Int → xh_D → xd_E → Prop} {d : xh_D} {e : xd_E} {a0 : Int} (hD : 1 ≤ D) (h : P (xp_bc a0) d e) : yC D 0 L [.int (xJ a0)] d e P := by
  refine yC_of rfl rfl rfl (by omega) (yk_0_0 ?_)
  intro v1 e1 v2 e2 v3 e3 v4 e4
  refine cast ?_ h
  congr 1
  have hw : ∀ (x : Int32) (z k : Int), xJ z = x → xJ (xi_ushr z k) = xp_ushr x (xJ k) := fun x z k q => by unfold xi_ushr; rw [xJ_toInt, q]
  have ha : ∀ (z k : Int), xJ (xi_and z k) = xJ z &&& xJ k := fun z k => xJ_toInt _
  have g1 : xJ v1 = xp_bc1 (xJ a0) := by rw [e1, ← xJ_sub, ha, hw _ _ _ rfl]; rfl
  have g2 : xJ v2 = xp_bc2 (xp_bc1 (xJ a0)) := by rw [e2, ← xJ_add, ha, ha, hw _ _ _ g1, g1]; rfl
  have g3 : xJ v3 = xp_bc3 (xp_bc2 (xp_bc1 (xJ a0))) := by rw [e3, ha, ← xJ_add, hw _ _ _ g2, g2]; rfl
  have g4 : xJ (v3 + xi_ushr v3 8) = xp_bc4 (xp_bc3 (xp_bc2 (xp_bc1 (xJ a0)))) := by rw [← xJ_add, hw _ _ _ g3, g3]; rfl
  have g5 : xJ v4 = xp_bc4 (xp_bc3 (xp_bc2 (xp_bc1 (xJ a0)))) + xp_ushr (xp_bc4 (xp_bc3 (xp_bc2 (xp_bc1 (xJ a0))))) 16 := by rw [e4, ← xJ_add, hw _ _ _ g4, g4]; rfl
  unfold xp_bc xi_and
  rw [g5]
  rfl
theorem yk_1_0 {D L : Nat} {P : Int → xh_D → xd_E → Prop} {d : xh_D} {e : xd_E} {a0 : Int}   (h : (∀ v1, v1 = (xi_and (xi_xor a0 (-1 : Int)) (a0 - (1 : Int))) → (((0 < v1) → (((v1 ≤ (65536 : Int)) → yB D xm_c1 (yQi L P) L 24 [.int (xJ v1), .int (xJ (1 : Int))] [] d e) ∧ ((¬ v1 ≤ (65536 : Int)) → yB D xm_c1 (yQi L P) L 24 [.int (xJ (xi_ushr v1 (16 : Int))), .int (xJ ((1 : Int) + 16))] [] d e))) ∧ ((¬ 0 < v1) → P (xi_and v1 (32 : Int)) d e)))) : yB D xm_c1 (yQi L P) L 0 [.int (xJ a0), .double 0] [] d e := by
  refine yb_iload (x := a0) rfl rfl ?_
  refine yb_push (v := (-1)) rfl ?_
  refine yb_ixor (x := a0) (y := (-1 : Int)) rfl ?_
  refine yb_iload (x := a0) rfl rfl ?_
  refine yb_push (v := 1) rfl ?_
  refine yb_isub (x := a0) (y := (1 : Int)) rfl ?_
  refine yb_iand (x := (xi_xor a0 (-1 : Int))) (y := (a0 - (1 : Int))) rfl ?_
  replace h := h _ rfl
  refine yb_istore rfl rfl rfl ?_
  refine yb_iload (x := (xi_and (xi_xor a0 (-1 : Int)) (a0 - (1 : Int)))) rfl rfl ?_
  refine yb_if_gt (x := (xi_and (xi_xor a0 (-1 : Int)) (a0 - (1 : Int)))) rfl rfl (xJ_rng _) (fun c => ?_) (fun c => ?_)
  · replace h := h.1 c
    refine yb_push (v := 1) rfl ?_
    refine yb_istore rfl rfl rfl ?_
    refine yb_iload (x := (xi_and (xi_xor a0 (-1 : Int)) (a0 - (1 : Int)))) rfl rfl ?_
    refine yb_push (v := 65536) rfl ?_
    refine yb_icmp_le (x := (xi_and (xi_xor a0 (-1 : Int)) (a0 - (1 : Int)))) (y := (65536 : Int)) rfl rfl (xJ_rng _) (by decide) (fun c => ?_) (fun c => ?_)
    · replace h := h.1 c
      exact h
    · replace h := h.2 c
      refine yb_iinc (x := (1 : Int)) (n := 16) rfl rfl rfl rfl ?_
      refine yb_iload (x := (xi_and (xi_xor a0 (-1 : Int)) (a0 - (1 : Int)))) rfl rfl ?_
      refine yb_push (v := 16) rfl ?_
      refine yb_iushr (x := (xi_and (xi_xor a0 (-1 : Int)) (a0 - (1 : Int)))) (y := (16 : Int)) rfl ?_
      refine yb_istore rfl rfl rfl ?_
      exact h
  · replace h := h.2 c
    refine yb_iload (x := (xi_and (xi_xor a0 (-1 : Int)) (a0 - (1 : Int)))) rfl rfl ?_
    refine yb_push (v := 32) rfl ?_
    refine yb_iand (x := (xi_and (xi_xor a0 (-1 : Int)) (a0 - (1 : Int)))) (y := (32 : Int)) rfl ?_
    exact yb_ret rfl h
theorem yk_1_24 {D L : Nat} {P : Int → xh_D → xd_E → Prop} {d : xh_D} {e : xd_E}  {l0 : Int} {l1 : Int}  (h : ((-2147483648 ≤ l0 ∧ l0 < 2147483648) ∧ (((l0 ≤ (256 : Int)) → yB D xm_c1 (yQi L P) L 32 [.int (xJ l0), .int (xJ l1)] [] d e) ∧ ((¬ l0 ≤ (256 : Int)) → yB D xm_c1 (yQi L P) L 32 [.int (xJ (xi_ushr l0 (8 : Int))), .int (xJ (l1 + 8))] [] d e)))) : yB D xm_c1 (yQi L P) L 24 [.int (xJ l0), .int (xJ l1)] [] d e := by
  refine yb_iload (x := l0) rfl rfl ?_
  refine yb_push (v := 256) rfl ?_
  have r1 := h.1
  replace h := h.2
  refine yb_icmp_le (x := l0) (y := (256 : Int)) rfl rfl r1 (by decide) (fun c => ?_) (fun c => ?_)
  · replace h := h.1 c
    exact h
  · replace h := h.2 c
    refine yb_iinc (x := l1) (n := 8) rfl rfl rfl rfl ?_
    refine yb_iload (x := l0) rfl rfl ?_
    refine yb_push (v := 8) rfl ?_
    refine yb_iushr (x := l0) (y := (8 : Int)) rfl ?_
    refine yb_istore rfl rfl rfl ?_
    exact h
theorem yk_1_32 {D L : Nat} {P : Int → xh_D → xd_E → Prop} {d : xh_D} {e : xd_E}  {l0 : Int} {l1 : Int}  (h : ((-2147483648 ≤ l0 ∧ l0 < 2147483648) ∧ (((l0 ≤ (16 : Int)) → (((l0 ≤ (4 : Int)) → P (l1 + (xi_ushr l0 (1 : Int))) d e) ∧ ((¬ l0 ≤ (4 : Int)) → P ((l1 + 2) + (xi_ushr (xi_ushr l0 (2 : Int)) (1 : Int))) d e))) ∧ ((¬ l0 ≤ (16 : Int)) → ((((xi_ushr l0 (4 : Int)) ≤ (4 : Int)) → P ((l1 + 4) + (xi_ushr (xi_ushr l0 (4 : Int)) (1 : Int))) d e) ∧ ((¬ (xi_ushr l0 (4 : Int)) ≤ (4 : Int)) → (∀ v2, v2 = (xi_ushr (xi_ushr l0 (4 : Int)) (2 : Int)) → P (((l1 + 4) + 2) + (xi_ushr v2 (1 : Int))) d e))))))) : yB D xm_c1 (yQi L P) L 32 [.int (xJ l0), .int (xJ l1)] [] d e := by
  refine yb_iload (x := l0) rfl rfl ?_
  refine yb_push (v := 16) rfl ?_
  have r1 := h.1
  replace h := h.2
  refine yb_icmp_le (x := l0) (y := (16 : Int)) rfl rfl r1 (by decide) (fun c => ?_) (fun c => ?_)
  · replace h := h.1 c
    refine yb_iload (x := l0) rfl rfl ?_
    refine yb_push (v := 4) rfl ?_
    refine yb_icmp_le (x := l0) (y := (4 : Int)) rfl rfl r1 (by decide) (fun c => ?_) (fun c => ?_)
    · replace h := h.1 c
      refine yb_iload (x := l1) rfl rfl ?_
      refine yb_iload (x := l0) rfl rfl ?_
      refine yb_push (v := 1) rfl ?_
      refine yb_iushr (x := l0) (y := (1 : Int)) rfl ?_
      refine yb_iadd (x := l1) (y := (xi_ushr l0 (1 : Int))) rfl ?_
      exact yb_ret rfl h
    · replace h := h.2 c
      refine yb_iinc (x := l1) (n := 2) rfl rfl rfl rfl ?_
      refine yb_iload (x := l0) rfl rfl ?_
      refine yb_push (v := 2) rfl ?_
      refine yb_iushr (x := l0) (y := (2 : Int)) rfl ?_
      refine yb_istore rfl rfl rfl ?_
      refine yb_iload (x := (l1 + 2)) rfl rfl ?_
      refine yb_iload (x := (xi_ushr l0 (2 : Int))) rfl rfl ?_
      refine yb_push (v := 1) rfl ?_
      refine yb_iushr (x := (xi_ushr l0 (2 : Int))) (y := (1 : Int)) rfl ?_
      refine yb_iadd (x := (l1 + 2)) (y := (xi_ushr (xi_ushr l0 (2 : Int)) (1 : Int))) rfl ?_
      exact yb_ret rfl h
  · replace h := h.2 c
    refine yb_iinc (x := l1) (n := 4) rfl rfl rfl rfl ?_
    refine yb_iload (x := l0) rfl rfl ?_
    refine yb_push (v := 4) rfl ?_
    refine yb_iushr (x := l0) (y := (4 : Int)) rfl ?_
    refine yb_istore rfl rfl rfl ?_
    refine yb_iload (x := (xi_ushr l0 (4 : Int))) rfl rfl ?_
    refine yb_push (v := 4) rfl ?_
    refine yb_icmp_le (x := (xi_ushr l0 (4 : Int))) (y := (4 : Int)) rfl rfl (xJ_rng _) (by decide) (fun c => ?_) (fun c => ?_)
    · replace h := h.1 c
      refine yb_iload (x := (l1 + 4)) rfl rfl ?_
      refine yb_iload (x := (xi_ushr l0 (4 : Int))) rfl rfl ?_
      refine yb_push (v := 1) rfl ?_
      refine yb_iushr (x := (xi_ushr l0 (4 : Int))) (y := (1 : Int)) rfl ?_
      refine yb_iadd (x := (l1 + 4)) (y := (xi_ushr (xi_ushr l0 (4 : Int)) (1 : Int))) rfl ?_
      exact yb_ret rfl h
    · replace h := h.2 c
      refine yb_iinc (x := (l1 + 4)) (n := 2) rfl rfl rfl rfl ?_
      refine yb_iload (x := (xi_ushr l0 (4 : Int))) rfl rfl ?_
      refine yb_push (v := 2) rfl ?_
      refine yb_iushr (x := (xi_ushr l0 (4 : Int))) (y := (2 : Int)) rfl ?_
      replace h := h _ rfl
      refine yb_istore rfl rfl rfl ?_
      refine yb_iload (x := ((l1 + 4) + 2)) rfl rfl ?_
      refine yb_iload (x := (xi_ushr (xi_ushr l0 (4 : Int)) (2 : Int))) rfl rfl ?_
      refine yb_push (v := 1) rfl ?_
      refine yb_iushr (x := (xi_ushr (xi_ushr l0 (4 : Int)) (2 : Int))) (y := (1 : Int)) rfl ?_
      refine yb_iadd (x := ((l1 + 4) + 2)) (y := (xi_ushr (xi_ushr (xi_ushr l0 (4 : Int)) (2 : Int)) (1 : Int))) rfl ?_
      exact yb_ret rfl h
theorem sp_1 {D L : Nat} {P : Int → xh_D → xd_E → Prop} {d : xh_D} {e : xd_E} {a0 : Int} (hD : 1 ≤ D) (o : (0 < a0 ∧ a0 < 64)) (h : P (xp_ntz a0) d e) : yC D 1 L [.int (xJ a0)] d e P := by
  refine yC_of rfl rfl rfl (by omega) (yk_1_0 ?_)
  intro v1 e1
  have key : ∀ n : Nat, n < 64 → 0 < n → (xp_ntz n = 0 ∧ xi_and (xi_xor n (-1)) (n - 1) = 0) ∨ (xp_ntz n = 1 ∧ xi_and (xi_xor n (-1)) (n - 1) = 1) ∨ (xp_ntz n = 2 ∧ xi_and (xi_xor n (-1)) (n - 1) = 3) ∨ (xp_ntz n = 3 ∧ xi_and (xi_xor n (-1)) (n - 1) = 7) ∨ (xp_ntz n = 4 ∧ xi_and (xi_xor n (-1)) (n - 1) = 15) ∨ (xp_ntz n = 5 ∧ xi_and (xi_xor n (-1)) (n - 1) = 31) := by decide +kernel
  have k := key a0.toNat (by omega) (by omega)
  rw [Int.toNat_of_nonneg (by omega), ← e1] at k
  rcases k with ⟨h1, rfl⟩ | ⟨h1, rfl⟩ | ⟨h1, rfl⟩ | ⟨h1, rfl⟩ | ⟨h1, rfl⟩ | ⟨h1, rfl⟩ <;> rw [h1] at h
  · exact ⟨fun c => absurd c (by decide), fun _ => h⟩
  all_goals refine ⟨fun _ => ⟨fun _ => yk_1_24 ⟨by omega, fun _ => yk_1_32 ⟨by omega, fun c => ⟨fun c => ?_, fun c => ?_⟩, fun c => ⟨fun c => ?_, fun c v2 e2 => ?_⟩⟩, fun c => absurd (by decide) c⟩, fun c => absurd (by decide) c⟩, fun c => absurd (by decide) c⟩
  all_goals first
    | exact h
    | omega
    | exact absurd c (by decide)
    | exact absurd (by decide) c
    | exact absurd (by decide) ‹¬ (_ : Int) ≤ 16›
theorem yk_2_0 {D L : Nat} {P : Int → xh_D → xd_E → Prop} {d : xh_D} {e : xd_E} {a0 : Int}   (h : ((-2147483648 ≤ a0 ∧ a0 < 2147483648) ∧ (((0 ≤ a0) → P a0 d e) ∧ ((¬ 0 ≤ a0) → P (-a0) d e)))) : yB D xm_c2 (yQi L P) L 0 [.int (xJ a0)] [] d e := by
  refine yb_iload (x := a0) rfl rfl ?_
  have r1 := h.1
  replace h := h.2
  refine yb_if_ge (x := a0) rfl rfl r1 (fun c => ?_) (fun c => ?_)
  · replace h := h.1 c
    refine yb_iload (x := a0) rfl rfl ?_
    exact yb_ret rfl h
  · replace h := h.2 c
    refine yb_iload (x := a0) rfl rfl ?_
    refine yb_ineg (x := a0) rfl ?_
    refine yb_goto rfl rfl ?_
    exact yb_ret rfl h
theorem sp_2 {D L : Nat} {P : Int → xh_D → xd_E → Prop} {d : xh_D} {e : xd_E} {a0 : Int} (hD : 1 ≤ D) (o : (-2147483648 < a0 ∧ a0 < 2147483648)) (h : P (max a0 (-a0)) d e) : yC D 2 L [.int (xJ a0)] d e P := by
  refine yC_of rfl rfl rfl (by omega) (yk_2_0 ?_)
  refine ⟨by omega, fun c => ?_, fun c => ?_⟩
  · rw [show max a0 (-a0) = a0 by omega] at h; exact h
  · rw [show max a0 (-a0) = -a0 by omega] at h; exact h
theorem yk_3_0 {D L : Nat} {P : Int → xh_D → xd_E → Prop} {d : xh_D} {e : xd_E} {a0 : Int} {a1 : Int}   (h : ((0 ≤ a0 ∧ a0 < 2147483648) ∧ ((0 < a1 ∧ a1 < 2147483648) ∧ (((0 ≤ (xi_xor a0 a1)) → P (a0 % a1) d e) ∧ ((¬ 0 ≤ (xi_xor a0 a1)) → ((-2147483648 ≤ (a0 % a1) ∧ (a0 % a1) < 2147483648) ∧ ((((a0 % a1) = 0) → P (a0 % a1) d e) ∧ ((¬ (a0 % a1) = 0) → P ((a0 % a1) + a1) d e)))))))) : yB D xm_c3 (yQi L P) L 0 [.int (xJ a0), .int (xJ a1), .double 0] [] d e := by
  refine yb_iload (x := a0) rfl rfl ?_
  refine yb_iload (x := a1) rfl rfl ?_
  have r1 := h.1
  replace h := h.2
  have r2 := h.1
  replace h := h.2
  refine yb_irem (x := a0) (y := a1) rfl r1 r2 ?_
  refine yb_istore rfl rfl rfl ?_
  refine yb_iload (x := a0) rfl rfl ?_
  refine yb_iload (x := a1) rfl rfl ?_
  refine yb_ixor (x := a0) (y := a1) rfl ?_
  refine yb_if_ge (x := (xi_xor a0 a1)) rfl rfl (xJ_rng _) (fun c => ?_) (fun c => ?_)
  · replace h := h.1 c
    refine yb_iload (x := (a0 % a1)) rfl rfl ?_
    exact yb_ret rfl h
  · replace h := h.2 c
    refine yb_iload (x := (a0 % a1)) rfl rfl ?_
    have r3 := h.1
    replace h := h.2
    refine yb_if_eq (x := (a0 % a1)) rfl rfl r3 (fun c => ?_) (fun c => ?_)
    · replace h := h.1 c
      refine yb_iload (x := (a0 % a1)) rfl rfl ?_
      exact yb_ret rfl h
    · replace h := h.2 c
      refine yb_iload (x := (a0 % a1)) rfl rfl ?_
      refine yb_iload (x := a1) rfl rfl ?_
      refine yb_iadd (x := (a0 % a1)) (y := a1) rfl ?_
      exact yb_ret rfl h
theorem sp_3 {D L : Nat} {P : Int → xh_D → xd_E → Prop} {d : xh_D} {e : xd_E} {a0 a1 : Int} (hD : 1 ≤ D) (o : (0 ≤ a0 ∧ a0 < 2147483648) ∧ (0 < a1 ∧ a1 < 2147483648)) (h : P (a0 % a1) d e) : yC D 3 L [.int (xJ a0), .int (xJ a1)] d e P := by
  refine yC_of rfl rfl rfl (by omega) (yk_3_0 ?_)
  exact ⟨o.1, o.2, fun _ => h, fun c => absurd (xi_xor_nn o.1 (by omega)) c⟩
theorem yk_4_0 {D L : Nat} {P : Int → xh_D → xd_E → Prop} {d : xh_D} {e : xd_E} {a0 : Int} {a1 : Int}   (h : ((-2147483648 ≤ a0 ∧ a0 < 2147483648) ∧ ((-2147483648 ≤ a1 ∧ a1 < 2147483648) ∧ (((a0 < a1) → P a1 d e) ∧ ((¬ a0 < a1) → P a0 d e))))) : yB D xm_c4 (yQi L P) L 0 [.int (xJ a0), .int (xJ a1)] [] d e := by
  refine yb_iload (x := a0) rfl rfl ?_
  refine yb_iload (x := a1) rfl rfl ?_
  have r1 := h.1
  replace h := h.2
  have r2 := h.1
  replace h := h.2
  refine yb_icmp_lt (x := a0) (y := a1) rfl rfl r1 r2 (fun c => ?_) (fun c => ?_)
  · replace h := h.1 c
    refine yb_iload (x := a1) rfl rfl ?_
    exact yb_ret rfl h
  · replace h := h.2 c
    refine yb_iload (x := a0) rfl rfl ?_
    refine yb_goto rfl rfl ?_
    exact yb_ret rfl h
theorem sp_4 {D L : Nat} {P : Int → xh_D → xd_E → Prop} {d : xh_D} {e : xd_E} {a0 a1 : Int} (hD : 1 ≤ D) (o : (-2147483648 ≤ a0 ∧ a0 < 2147483648) ∧ (-2147483648 ≤ a1 ∧ a1 < 2147483648)) (h : P (max a0 a1) d e) : yC D 4 L [.int (xJ a0), .int (xJ a1)] d e P := by
  refine yC_of rfl rfl rfl (by omega) (yk_4_0 ?_)
  refine ⟨by omega, by omega, fun c => ?_, fun c => ?_⟩
  · rw [show max a0 a1 = a1 by omega] at h; exact h
  · rw [show max a0 a1 = a0 by omega] at h; exact h
theorem yk_5_0 {D L : Nat} {P : Int → xh_D → xd_E → Prop} {d : xh_D} {e : xd_E} {a0 : Int} {a1 : Int}   (h : ((-2147483648 ≤ a0 ∧ a0 < 2147483648) ∧ ((-2147483648 ≤ a1 ∧ a1 < 2147483648) ∧ (((a1 < a0) → P a1 d e) ∧ ((¬ a1 < a0) → P a0 d e))))) : yB D xm_c5 (yQi L P) L 0 [.int (xJ a0), .int (xJ a1)] [] d e := by
  refine yb_iload (x := a0) rfl rfl ?_
  refine yb_iload (x := a1) rfl rfl ?_
  have r1 := h.1
  replace h := h.2
  have r2 := h.1
  replace h := h.2
  refine yb_icmp_gt (x := a0) (y := a1) rfl rfl r1 r2 (fun c => ?_) (fun c => ?_)
  · replace h := h.1 c
    refine yb_iload (x := a1) rfl rfl ?_
    exact yb_ret rfl h
  · replace h := h.2 c
    refine yb_iload (x := a0) rfl rfl ?_
    refine yb_goto rfl rfl ?_
    exact yb_ret rfl h
theorem sp_5 {D L : Nat} {P : Int → xh_D → xd_E → Prop} {d : xh_D} {e : xd_E} {a0 a1 : Int} (hD : 1 ≤ D) (o : (-2147483648 ≤ a0 ∧ a0 < 2147483648) ∧ (-2147483648 ≤ a1 ∧ a1 < 2147483648)) (h : P (min a0 a1) d e) : yC D 5 L [.int (xJ a0), .int (xJ a1)] d e P := by
  refine yC_of rfl rfl rfl (by omega) (yk_5_0 ?_)
  refine ⟨by omega, by omega, fun c => ?_, fun c => ?_⟩
  · rw [show min a0 a1 = a1 by omega] at h; exact h
  · rw [show min a0 a1 = a0 by omega] at h; exact h
theorem yk_44_0 {D L : Nat} {P : Int → xh_D → xd_E → Prop} {d : xh_D} {e : xd_E} {a0 : Int}   (h : ((-2147483648 ≤ a0 ∧ a0 < 2147483648) ∧ ((a0 = 42 → P (3 : Int) d e) ∧ (a0 = 43 → P (2 : Int) d e) ∧ (a0 = 45 → P (2 : Int) d e) ∧ (a0 = 47 → P (3 : Int) d e) ∧ (a0 = 60 → P (1 : Int) d e) ∧ (a0 = 61 → P (1 : Int) d e) ∧ (a0 = 62 → P (1 : Int) d e) ∧ (a0 = 256 → P (4 : Int) d e) ∧ ((¬ a0 = 42 ∧ ¬ a0 = 43 ∧ ¬ a0 = 45 ∧ ¬ a0 = 47 ∧ ¬ a0 = 60 ∧ ¬ a0 = 61 ∧ ¬ a0 = 62 ∧ ¬ a0 = 256) → P (0 : Int) d e)))) : yB D xm_c44 (yQi L P) L 0 [.int (xJ a0)] [] d e := by
  refine yb_iload (x := a0) rfl rfl ?_
  have r1 := h.1
  replace h := h.2
  by_cases c0 : a0 = 42
  · replace h := h.1 c0
    refine yb_lookup (x := a0) rfl r1 ?_
    rw [c0]
    show yB D xm_c44 _ L 6 _ _ _ _
    refine yb_push (v := 3) rfl ?_
    exact yb_ret rfl h
  by_cases c1 : a0 = 43
  · replace h := h.2.1 c1
    refine yb_lookup (x := a0) rfl r1 ?_
    rw [c1]
    show yB D xm_c44 _ L 4 _ _ _ _
    refine yb_push (v := 2) rfl ?_
    exact yb_ret rfl h
  by_cases c2 : a0 = 45
  · replace h := h.2.2.1 c2
    refine yb_lookup (x := a0) rfl r1 ?_
    rw [c2]
    show yB D xm_c44 _ L 4 _ _ _ _
    refine yb_push (v := 2) rfl ?_
    exact yb_ret rfl h
  by_cases c3 : a0 = 47
  · replace h := h.2.2.2.1 c3
    refine yb_lookup (x := a0) rfl r1 ?_
    rw [c3]
    show yB D xm_c44 _ L 6 _ _ _ _
    refine yb_push (v := 3) rfl ?_
    exact yb_ret rfl h
  by_cases c4 : a0 = 60
  · replace h := h.2.2.2.2.1 c4
    refine yb_lookup (x := a0) rfl r1 ?_
    rw [c4]
    show yB D xm_c44 _ L 2 _ _ _ _
    refine yb_push (v := 1) rfl ?_
    exact yb_ret rfl h
  by_cases c5 : a0 = 61
  · replace h := h.2.2.2.2.2.1 c5
    refine yb_lookup (x := a0) rfl r1 ?_
    rw [c5]
    show yB D xm_c44 _ L 2 _ _ _ _
    refine yb_push (v := 1) rfl ?_
    exact yb_ret rfl h
  by_cases c6 : a0 = 62
  · replace h := h.2.2.2.2.2.2.1 c6
    refine yb_lookup (x := a0) rfl r1 ?_
    rw [c6]
    show yB D xm_c44 _ L 2 _ _ _ _
    refine yb_push (v := 1) rfl ?_
    exact yb_ret rfl h
  by_cases c7 : a0 = 256
  · replace h := h.2.2.2.2.2.2.2.1 c7
    refine yb_lookup (x := a0) rfl r1 ?_
    rw [c7]
    show yB D xm_c44 _ L 8 _ _ _ _
    refine yb_push (v := 4) rfl ?_
    exact yb_ret rfl h
  replace h := h.2.2.2.2.2.2.2.2 ⟨c0, c1, c2, c3, c4, c5, c6, c7⟩
  refine yb_lookup (x := a0) rfl r1 ?_
  rw [show Op.lookupswitch.offset _ _ _ = (10 : Int) from by simp [Op.lookupswitch.offset, c0, Ne.symm c0, c1, Ne.symm c1, c2, Ne.symm c2, c3, Ne.symm c3, c4, Ne.symm c4, c5, Ne.symm c5, c6, Ne.symm c6, c7, Ne.symm c7]]
  show yB D xm_c44 _ L 10 _ _ _ _
  refine yb_push (v := 0) rfl ?_
  exact yb_ret rfl h
theorem sp_44 {D L : Nat} {P : Int → xh_D → xd_E → Prop} {d : xh_D} {e : xd_E} {a0 : Int} (hD : 1 ≤ D) (o : (-2147483648 ≤ a0 ∧ a0 < 2147483648)) (h : P (xp_str a0) d e) : yC D 44 L [.int (xJ a0)] d e P := by
  refine yC_of rfl rfl rfl (by omega) (yk_44_0 ?_)
  repeat' (first | apply And.intro | intro _)
  all_goals first
    | omega
    | (refine cast ?_ h; congr 1; unfold xp_str; (repeat' split) <;> omega)
theorem yk_45_0 {D L : Nat} {P : Int → xh_D → xd_E → Prop} {d : xh_D} {e : xd_E} {a0 : Int}   (h : ((-2147483648 ≤ a0 ∧ a0 < 2147483648) ∧ (((a0 < 100 ∨ 117 < a0) → P (-1 : Int) d e) ∧ (a0 = 100 → P (4 : Int) d e) ∧ (a0 = 101 → P (-1 : Int) d e) ∧ (a0 = 102 → P (-1 : Int) d e) ∧ (a0 = 103 → P (-1 : Int) d e) ∧ (a0 = 104 → P (-1 : Int) d e) ∧ (a0 = 105 → P (5 : Int) d e) ∧ (a0 = 106 → P (6 : Int) d e) ∧ (a0 = 107 → P (3 : Int) d e) ∧ (a0 = 108 → P (-1 : Int) d e) ∧ (a0 = 109 → P (-1 : Int) d e) ∧ (a0 = 110 → P (-1 : Int) d e) ∧ (a0 = 111 → P (-1 : Int) d e) ∧ (a0 = 112 → P (-1 : Int) d e) ∧ (a0 = 113 → P (-1 : Int) d e) ∧ (a0 = 114 → P (2 : Int) d e) ∧ (a0 = 115 → P (-1 : Int) d e) ∧ (a0 = 116 → P (0 : Int) d e) ∧ (a0 = 117 → P (1 : Int) d e)))) : yB D xm_c45 (yQi L P) L 0 [.int (xJ a0)] [] d e := by
  refine yb_iload (x := a0) rfl rfl ?_
  have r1 := h.1
  replace h := h.2
  refine yb_table (x := a0) rfl rfl r1 (fun c => ?_) (fun c1 c2 => ?_)
  · replace h := h.1 c
    refine yb_push (v := (-1)) rfl ?_
    exact yb_ret rfl h
  · rcases (show a0 = 100 ∨ a0 = 101 ∨ a0 = 102 ∨ a0 = 103 ∨ a0 = 104 ∨ a0 = 105 ∨ a0 = 106 ∨ a0 = 107 ∨ a0 = 108 ∨ a0 = 109 ∨ a0 = 110 ∨ a0 = 111 ∨ a0 = 112 ∨ a0 = 113 ∨ a0 = 114 ∨ a0 = 115 ∨ a0 = 116 ∨ a0 = 117 by omega) with c | c | c | c | c | c | c | c | c | c | c | c | c | c | c | c | c | c
    · replace h := h.2.1 c
      refine ⟨_, by rw [c]; rfl, ?_⟩
      refine yb_push (v := 4) rfl ?_
      exact yb_ret rfl h
    · replace h := h.2.2.1 c
      refine ⟨_, by rw [c]; rfl, ?_⟩
      refine yb_push (v := (-1)) rfl ?_
      exact yb_ret rfl h
    · replace h := h.2.2.2.1 c
      refine ⟨_, by rw [c]; rfl, ?_⟩
      refine yb_push (v := (-1)) rfl ?_
      exact yb_ret rfl h
    · replace h := h.2.2.2.2.1 c
      refine ⟨_, by rw [c]; rfl, ?_⟩
      refine yb_push (v := (-1)) rfl ?_
      exact yb_ret rfl h
    · replace h := h.2.2.2.2.2.1 c
      refine ⟨_, by rw [c]; rfl, ?_⟩
      refine yb_push (v := (-1)) rfl ?_
      exact yb_ret rfl h
    · replace h := h.2.2.2.2.2.2.1 c
      refine ⟨_, by rw [c]; rfl, ?_⟩
      refine yb_push (v := 5) rfl ?_
      exact yb_ret rfl h
    · replace h := h.2.2.2.2.2.2.2.1 c
      refine ⟨_, by rw [c]; rfl, ?_⟩
      refine yb_push (v := 6) rfl ?_
      exact yb_ret rfl h
    · replace h := h.2.2.2.2.2.2.2.2.1 c
      refine ⟨_, by rw [c]; rfl, ?_⟩
      refine yb_push (v := 3) rfl ?_
      exact yb_ret rfl h
    · replace h := h.2.2.2.2.2.2.2.2.2.1 c
      refine ⟨_, by rw [c]; rfl, ?_⟩
      refine yb_push (v := (-1)) rfl ?_
      exact yb_ret rfl h
    · replace h := h.2.2.2.2.2.2.2.2.2.2.1 c
      refine ⟨_, by rw [c]; rfl, ?_⟩
      refine yb_push (v := (-1)) rfl ?_
      exact yb_ret rfl h
    · replace h := h.2.2.2.2.2.2.2.2.2.2.2.1 c
      refine ⟨_, by rw [c]; rfl, ?_⟩
      refine yb_push (v := (-1)) rfl ?_
      exact yb_ret rfl h
    · replace h := h.2.2.2.2.2.2.2.2.2.2.2.2.1 c
      refine ⟨_, by rw [c]; rfl, ?_⟩
      refine yb_push (v := (-1)) rfl ?_
      exact yb_ret rfl h
    · replace h := h.2.2.2.2.2.2.2.2.2.2.2.2.2.1 c
      refine ⟨_, by rw [c]; rfl, ?_⟩
      refine yb_push (v := (-1)) rfl ?_
      exact yb_ret rfl h
    · replace h := h.2.2.2.2.2.2.2.2.2.2.2.2.2.2.1 c
      refine ⟨_, by rw [c]; rfl, ?_⟩
      refine yb_push (v := (-1)) rfl ?_
      exact yb_ret rfl h
    · replace h := h.2.2.2.2.2.2.2.2.2.2.2.2.2.2.2.1 c
      refine ⟨_, by rw [c]; rfl, ?_⟩
      refine yb_push (v := 2) rfl ?_
      exact yb_ret rfl h
    · replace h := h.2.2.2.2.2.2.2.2.2.2.2.2.2.2.2.2.1 c
      refine ⟨_, by rw [c]; rfl, ?_⟩
      refine yb_push (v := (-1)) rfl ?_
      exact yb_ret rfl h
    · replace h := h.2.2.2.2.2.2.2.2.2.2.2.2.2.2.2.2.2.1 c
      refine ⟨_, by rw [c]; rfl, ?_⟩
      refine yb_push (v := 0) rfl ?_
      exact yb_ret rfl h
    · replace h := h.2.2.2.2.2.2.2.2.2.2.2.2.2.2.2.2.2.2 c
      refine ⟨_, by rw [c]; rfl, ?_⟩
      refine yb_push (v := 1) rfl ?_
      exact yb_ret rfl h
theorem sp_45 {D L : Nat} {P : Int → xh_D → xd_E → Prop} {d : xh_D} {e : xd_E} {a0 : Int} (hD : 1 ≤ D) (o : (-2147483648 ≤ a0 ∧ a0 < 2147483648)) (h : P (xp_thg a0) d e) : yC D 45 L [.int (xJ a0)] d e P := by
  refine yC_of rfl rfl rfl (by omega) (yk_45_0 ?_)
  repeat' (first | apply And.intro | intro _)
  all_goals first
    | omega
    | (refine cast ?_ h; congr 1; unfold xp_thg; (repeat' split) <;> omega)
theorem yk_48_0 {D L : Nat} {P : Int → xh_D → xd_E → Prop} {d : xh_D} {e : xd_E} {a0 : Int} {a1 : Int} {a2 : Int}   (h : ((-2147483648 ≤ a0 ∧ a0 < 2147483648) ∧ ((a0 = 42 → P (a1 * a2) d e) ∧ (a0 = 43 → P (a1 + a2) d e) ∧ (a0 = 45 → P (a1 - a2) d e) ∧ (a0 = 60 → ((-2147483648 ≤ a1 ∧ a1 < 2147483648) ∧ ((-2147483648 ≤ a2 ∧ a2 < 2147483648) ∧ (((a2 ≤ a1) → P (0 : Int) d e) ∧ ((¬ a2 ≤ a1) → P (1 : Int) d e))))) ∧ (a0 = 61 → ((-2147483648 ≤ a1 ∧ a1 < 2147483648) ∧ ((-2147483648 ≤ a2 ∧ a2 < 2147483648) ∧ (((¬ a1 = a2) → P (0 : Int) d e) ∧ ((a1 = a2) → P (1 : Int) d e))))) ∧ (a0 = 62 → ((-2147483648 ≤ a1 ∧ a1 < 2147483648) ∧ ((-2147483648 ≤ a2 ∧ a2 < 2147483648) ∧ (((a1 ≤ a2) → P (0 : Int) d e) ∧ ((¬ a1 ≤ a2) → P (1 : Int) d e))))) ∧ ((¬ a0 = 42 ∧ ¬ a0 = 43 ∧ ¬ a0 = 45 ∧ ¬ a0 = 60 ∧ ¬ a0 = 61 ∧ ¬ a0 = 62) → ((-2147483648 ≤ a2 ∧ a2 < 2147483648) ∧ (((¬ a2 = 0) → (((-2147483648 ≤ a2 ∧ a2 < 2147483648) ∧ ¬ a2 = 0) ∧ P (xi_div a1 a2) d e)) ∧ ((a2 = 0) → P (0 : Int) d e))))))) : yB D xm_c48 (yQi L P) L 0 [.int (xJ a0), .int (xJ a1), .int (xJ a2)] [] d e := by
  refine yb_iload (x := a0) rfl rfl ?_
  have r1 := h.1
  replace h := h.2
  by_cases c0 : a0 = 42
  · replace h := h.1 c0
    refine yb_lookup (x := a0) rfl r1 ?_
    rw [c0]
    show yB D xm_c48 _ L 31 _ _ _ _
    refine yb_iload (x := a1) rfl rfl ?_
    refine yb_iload (x := a2) rfl rfl ?_
    refine yb_imul (x := a1) (y := a2) rfl ?_
    exact yb_ret rfl h
  by_cases c1 : a0 = 43
  · replace h := h.2.1 c1
    refine yb_lookup (x := a0) rfl r1 ?_
    rw [c1]
    show yB D xm_c48 _ L 23 _ _ _ _
    refine yb_iload (x := a1) rfl rfl ?_
    refine yb_iload (x := a2) rfl rfl ?_
    refine yb_iadd (x := a1) (y := a2) rfl ?_
    exact yb_ret rfl h
  by_cases c2 : a0 = 45
  · replace h := h.2.2.1 c2
    refine yb_lookup (x := a0) rfl r1 ?_
    rw [c2]
    show yB D xm_c48 _ L 27 _ _ _ _
    refine yb_iload (x := a1) rfl rfl ?_
    refine yb_iload (x := a2) rfl rfl ?_
    refine yb_isub (x := a1) (y := a2) rfl ?_
    exact yb_ret rfl h
  by_cases c3 : a0 = 60
  · replace h := h.2.2.2.1 c3
    refine yb_lookup (x := a0) rfl r1 ?_
    rw [c3]
    show yB D xm_c48 _ L 2 _ _ _ _
    refine yb_iload (x := a1) rfl rfl ?_
    refine yb_iload (x := a2) rfl rfl ?_
    have r2 := h.1
    replace h := h.2
    have r3 := h.1
    replace h := h.2
    refine yb_icmp_ge (x := a1) (y := a2) rfl rfl r2 r3 (fun c => ?_) (fun c => ?_)
    · replace h := h.1 c
      refine yb_push (v := 0) rfl ?_
      exact yb_ret rfl h
    · replace h := h.2 c
      refine yb_push (v := 1) rfl ?_
      refine yb_goto rfl rfl ?_
      exact yb_ret rfl h
  by_cases c4 : a0 = 61
  · replace h := h.2.2.2.2.1 c4
    refine yb_lookup (x := a0) rfl r1 ?_
    rw [c4]
    show yB D xm_c48 _ L 16 _ _ _ _
    refine yb_iload (x := a1) rfl rfl ?_
    refine yb_iload (x := a2) rfl rfl ?_
    have r4 := h.1
    replace h := h.2
    have r5 := h.1
    replace h := h.2
    refine yb_icmp_ne (x := a1) (y := a2) rfl rfl r4 r5 (fun c => ?_) (fun c => ?_)
    · replace h := h.1 c
      refine yb_push (v := 0) rfl ?_
      exact yb_ret rfl h
    · replace h := h.2 c
      refine yb_push (v := 1) rfl ?_
      refine yb_goto rfl rfl ?_
      exact yb_ret rfl h
  by_cases c5 : a0 = 62
  · replace h := h.2.2.2.2.2.1 c5
    refine yb_lookup (x := a0) rfl r1 ?_
    rw [c5]
    show yB D xm_c48 _ L 9 _ _ _ _
    refine yb_iload (x := a1) rfl rfl ?_
    refine yb_iload (x := a2) rfl rfl ?_
    have r6 := h.1
    replace h := h.2
    have r7 := h.1
    replace h := h.2
    refine yb_icmp_le (x := a1) (y := a2) rfl rfl r6 r7 (fun c => ?_) (fun c => ?_)
    · replace h := h.1 c
      refine yb_push (v := 0) rfl ?_
      exact yb_ret rfl h
    · replace h := h.2 c
      refine yb_push (v := 1) rfl ?_
      refine yb_goto rfl rfl ?_
      exact yb_ret rfl h
  replace h := h.2.2.2.2.2.2 ⟨c0, c1, c2, c3, c4, c5⟩
  refine yb_lookup (x := a0) rfl r1 ?_
  rw [show Op.lookupswitch.offset _ _ _ = (35 : Int) from by simp [Op.lookupswitch.offset, c0, Ne.symm c0, c1, Ne.symm c1, c2, Ne.symm c2, c3, Ne.symm c3, c4, Ne.symm c4, c5, Ne.symm c5]]
  show yB D xm_c48 _ L 35 _ _ _ _
  refine yb_iload (x := a2) rfl rfl ?_
  have r8 := h.1
  replace h := h.2
  refine yb_if_ne (x := a2) rfl rfl r8 (fun c => ?_) (fun c => ?_)
  · replace h := h.1 c
    refine yb_iload (x := a1) rfl rfl ?_
    refine yb_iload (x := a2) rfl rfl ?_
    have r9 := h.1
    replace h := h.2
    refine yb_idivg (x := a1) (y := a2) rfl r9 ?_
    exact yb_ret rfl h
  · replace h := h.2 c
    refine yb_push (v := 0) rfl ?_
    refine yb_goto rfl rfl ?_
    exact yb_ret rfl h
theorem sp_48 {D L : Nat} {P : Int → xh_D → xd_E → Prop} {d : xh_D} {e : xd_E} {a0 a1 a2 : Int} (hD : 1 ≤ D) (o : (-2147483648 ≤ a0 ∧ a0 < 2147483648) ∧ (-2147483648 ≤ a1 ∧ a1 < 2147483648) ∧ (-2147483648 ≤ a2 ∧ a2 < 2147483648)) (h : P (xp_join a0 a1 a2) d e) : yC D 48 L [.int (xJ a0), .int (xJ a1), .int (xJ a2)] d e P := by
  refine yC_wrap ?_
  refine yC_of rfl rfl rfl (by omega) (yk_48_0 ?_)
  have w0 : xw 0 = 0 := rfl
  have w1 : xw 1 = 1 := rfl
  have w2 : xw (xi_div a1 a2) = xi_div a1 a2 := xw_i (xi_div_r _ _)
  unfold xp_join at h
  repeat' (first | apply And.intro | intro _)
  all_goals first
    | omega
    | (simp only [w0, w1, w2, *] at h ⊢; exact h)
    | (refine cast ?_ h; congr 1; (repeat' split) <;> omega)
theorem yk_113_0 {D L : Nat} {P : Int → xh_D → xd_E → Prop} {d : xh_D} {e : xd_E} {a0 : Int} {a1 : Int}   (h : ((-2147483648 ≤ a0 ∧ a0 < 2147483648) ∧ (((¬ a0 = 0) → (((¬ a0 = (1 : Int)) → P a1 d e) ∧ ((a0 = (1 : Int)) → P (xi_i16 a1) d e))) ∧ ((a0 = 0) → P (xi_i8 a1) d e)))) : yB D xm_c113 (yQi L P) L 0 [.int (xJ a0), .int (xJ a1)] [] d e := by
  refine yb_iload (x := a0) rfl rfl ?_
  have r1 := h.1
  replace h := h.2
  refine yb_if_ne (x := a0) rfl rfl r1 (fun c => ?_) (fun c => ?_)
  · replace h := h.1 c
    refine yb_iload (x := a0) rfl rfl ?_
    refine yb_push (v := 1) rfl ?_
    refine yb_icmp_ne (x := a0) (y := (1 : Int)) rfl rfl r1 (by decide) (fun c => ?_) (fun c => ?_)
    · replace h := h.1 c
      refine yb_iload (x := a1) rfl rfl ?_
      exact yb_ret rfl h
    · replace h := h.2 c
      refine yb_iload (x := a1) rfl rfl ?_
      refine yb_i2s (x := a1) rfl ?_
      refine yb_goto rfl rfl ?_
      exact yb_ret rfl h
  · replace h := h.2 c
    refine yb_iload (x := a1) rfl rfl ?_
    refine yb_i2b (x := a1) rfl ?_
    exact yb_ret rfl h
theorem sp_113 {D L : Nat} {P : Int → xh_D → xd_E → Prop} {d : xh_D} {e : xd_E} {a0 a1 : Int} (hD : 1 ≤ D) (o : (-2147483648 ≤ a0 ∧ a0 < 2147483648)) (h : P (xp_kind a0 a1) d e) : yC D 113 L [.int (xJ a0), .int (xJ a1)] d e P := by
  refine yC_wrap ?_
  refine yC_of rfl rfl rfl (by omega) (yk_113_0 ?_)
  have w0 : xw 0 = 0 := rfl
  have w1 : xw 1 = 1 := rfl
  have w2 : xw (xi_i8 a1) = xi_i8 a1 := xw_i (xi_i8_r _)
  have w3 : xw (xi_i16 a1) = xi_i16 a1 := xw_i (xi_i16_r _)
  unfold xp_kind at h
  repeat' (first | apply And.intro | intro _)
  all_goals first
    | omega
    | (refine cast ?_ h; congr 1; (repeat' split) <;> omega)
theorem yk_124_0 {D L : Nat} {P : Int → xh_D → xd_E → Prop} {d : xh_D} {e : xd_E} {a0 : Int}   (h : ((-2147483648 ≤ a0 ∧ a0 < 2147483648) ∧ (((¬ a0 = (100 : Int)) → (((¬ a0 = (115 : Int)) → (((a0 = (104 : Int)) → P (2 : Int) d e) ∧ ((¬ a0 = (104 : Int)) → (((¬ a0 = (109 : Int)) → P (-1 : Int) d e) ∧ ((a0 = (109 : Int)) → P (2 : Int) d e))))) ∧ ((a0 = (115 : Int)) → P (3 : Int) d e))) ∧ ((a0 = (100 : Int)) → P (1 : Int) d e)))) : yB D xm_c124 (yQi L P) L 0 [.int (xJ a0)] [] d e := by
  refine yb_iload (x := a0) rfl rfl ?_
  refine yb_push (v := 100) rfl ?_
  have r1 := h.1
  replace h := h.2
  refine yb_icmp_ne (x := a0) (y := (100 : Int)) rfl rfl r1 (by decide) (fun c => ?_) (fun c => ?_)
  · replace h := h.1 c
    refine yb_iload (x := a0) rfl rfl ?_
    refine yb_push (v := 115) rfl ?_
    refine yb_icmp_ne (x := a0) (y := (115 : Int)) rfl rfl r1 (by decide) (fun c => ?_) (fun c => ?_)
    · replace h := h.1 c
      refine yb_iload (x := a0) rfl rfl ?_
      refine yb_push (v := 104) rfl ?_
      refine yb_icmp_eq (x := a0) (y := (104 : Int)) rfl rfl r1 (by decide) (fun c => ?_) (fun c => ?_)
      · replace h := h.1 c
        refine yb_push (v := 2) rfl ?_
        refine yb_goto rfl rfl ?_
        exact yb_ret rfl h
      · replace h := h.2 c
        refine yb_iload (x := a0) rfl rfl ?_
        refine yb_push (v := 109) rfl ?_
        refine yb_icmp_ne (x := a0) (y := (109 : Int)) rfl rfl r1 (by decide) (fun c => ?_) (fun c => ?_)
        · replace h := h.1 c
          refine yb_push (v := (-1)) rfl ?_
          exact yb_ret rfl h
        · replace h := h.2 c
          refine yb_push (v := 2) rfl ?_
          refine yb_goto rfl rfl ?_
          exact yb_ret rfl h
    · replace h := h.2 c
      refine yb_push (v := 3) rfl ?_
      exact yb_ret rfl h
  · replace h := h.2 c
    refine yb_push (v := 1) rfl ?_
    exact yb_ret rfl h
theorem sp_124 {D L : Nat} {P : Int → xh_D → xd_E → Prop} {d : xh_D} {e : xd_E} {a0 : Int} (hD : 1 ≤ D) (o : (-2147483648 ≤ a0 ∧ a0 < 2147483648)) (h : P (xp_pia a0) d e) : yC D 124 L [.int (xJ a0)] d e P := by
  refine yC_of rfl rfl rfl (by omega) (yk_124_0 ?_)
  repeat' (first | apply And.intro | intro _)
  all_goals first
    | omega
    | (refine cast ?_ h; congr 1; unfold xp_pia; (repeat' split) <;> omega)
theorem yk_170_0 {D L : Nat} {P1 P0 : xh_D → xd_E → Prop} {d : xh_D} {e : xd_E} {a0 : Int}   (h : ((-2147483648 ≤ a0 ∧ a0 < 2147483648) ∧ (((a0 < (48 : Int)) → P0 d e) ∧ ((¬ a0 < (48 : Int)) → ((((56 : Int) < a0) → P0 d e) ∧ ((¬ (56 : Int) < a0) → P1 d e)))))) : yB D xm_c170 (yQz L P1 P0) L 0 [.int (xJ a0)] [] d e := by
  refine yb_iload (x := a0) rfl rfl ?_
  refine yb_push (v := 48) rfl ?_
  have r1 := h.1
  replace h := h.2
  refine yb_icmp_lt (x := a0) (y := (48 : Int)) rfl rfl r1 (by decide) (fun c => ?_) (fun c => ?_)
  · replace h := h.1 c
    refine yb_push (v := 0) rfl ?_
    exact yb_ret0 rfl h
  · replace h := h.2 c
    refine yb_iload (x := a0) rfl rfl ?_
    refine yb_push (v := 56) rfl ?_
    refine yb_icmp_gt (x := a0) (y := (56 : Int)) rfl rfl r1 (by decide) (fun c => ?_) (fun c => ?_)
    · replace h := h.1 c
      refine yb_push (v := 0) rfl ?_
      exact yb_ret0 rfl h
    · replace h := h.2 c
      refine yb_push (v := 1) rfl ?_
      refine yb_goto rfl rfl ?_
      exact yb_ret1 rfl h
theorem sp_170 {D L : Nat} {P1 P0 : xh_D → xd_E → Prop} {d : xh_D} {e : xd_E} {a0 : Int} (hD : 1 ≤ D) (o : (-2147483648 ≤ a0 ∧ a0 < 2147483648)) (h1 : (48 ≤ a0 ∧ a0 ≤ 56) → P1 d e) (h0 : ¬ (48 ≤ a0 ∧ a0 ≤ 56) → P0 d e) : yZ D 170 L [.int (xJ a0)] d e P1 P0 := by
  refine yZ_of rfl rfl rfl (by omega) (yk_170_0 ?_)
  repeat' (first | apply And.intro | intro _)
  all_goals first
    | omega
    | exact h1 (by omega)
    | exact h0 (by omega)
theorem yk_171_0 {D L : Nat} {P1 P0 : xh_D → xd_E → Prop} {d : xh_D} {e : xd_E} {a0 : Int}   (h : ((-2147483648 ≤ a0 ∧ a0 < 2147483648) ∧ (((a0 < (97 : Int)) → P0 d e) ∧ ((¬ a0 < (97 : Int)) → ((((105 : Int) < a0) → P0 d e) ∧ ((¬ (105 : Int) < a0) → P1 d e)))))) : yB D xm_c171 (yQz L P1 P0) L 0 [.int (xJ a0)] [] d e := by
  refine yb_iload (x := a0) rfl rfl ?_
  refine yb_push (v := 97) rfl ?_
  have r1 := h.1
  replace h := h.2
  refine yb_icmp_lt (x := a0) (y := (97 : Int)) rfl rfl r1 (by decide) (fun c => ?_) (fun c => ?_)
  · replace h := h.1 c
    refine yb_push (v := 0) rfl ?_
    exact yb_ret0 rfl h
  · replace h := h.2 c
    refine yb_iload (x := a0) rfl rfl ?_
    refine yb_push (v := 105) rfl ?_
    refine yb_icmp_gt (x := a0) (y := (105 : Int)) rfl rfl r1 (by decide) (fun c => ?_) (fun c => ?_)
    · replace h := h.1 c
      refine yb_push (v := 0) rfl ?_
      exact yb_ret0 rfl h
    · replace h := h.2 c
      refine yb_push (v := 1) rfl ?_
      refine yb_goto rfl rfl ?_
      exact yb_ret1 rfl h
theorem sp_171 {D L : Nat} {P1 P0 : xh_D → xd_E → Prop} {d : xh_D} {e : xd_E} {a0 : Int} (hD : 1 ≤ D) (o : (-2147483648 ≤ a0 ∧ a0 < 2147483648)) (h1 : (97 ≤ a0 ∧ a0 ≤ 105) → P1 d e) (h0 : ¬ (97 ≤ a0 ∧ a0 ≤ 105) → P0 d e) : yZ D 171 L [.int (xJ a0)] d e P1 P0 := by
  refine yZ_of rfl rfl rfl (by omega) (yk_171_0 ?_)
  repeat' (first | apply And.intro | intro _)
  all_goals first
    | omega
    | exact h1 (by omega)
    | exact h0 (by omega)
theorem yk_172_0 {D L : Nat} {P1 P0 : xh_D → xd_E → Prop} {d : xh_D} {e : xd_E} {a0 : Int}   (h : ((-2147483648 ≤ a0 ∧ a0 < 2147483648) ∧ (((a0 < 0) → P0 d e) ∧ ((¬ a0 < 0) → ((((6 : Int) ≤ a0) → P0 d e) ∧ ((¬ (6 : Int) ≤ a0) → P1 d e)))))) : yB D xm_c172 (yQz L P1 P0) L 0 [.int (xJ a0)] [] d e := by
  refine yb_iload (x := a0) rfl rfl ?_
  have r1 := h.1
  replace h := h.2
  refine yb_if_lt (x := a0) rfl rfl r1 (fun c => ?_) (fun c => ?_)
  · replace h := h.1 c
    refine yb_push (v := 0) rfl ?_
    exact yb_ret0 rfl h
  · replace h := h.2 c
    refine yb_iload (x := a0) rfl rfl ?_
    refine yb_push (v := 6) rfl ?_
    refine yb_icmp_ge (x := a0) (y := (6 : Int)) rfl rfl r1 (by decide) (fun c => ?_) (fun c => ?_)
    · replace h := h.1 c
      refine yb_push (v := 0) rfl ?_
      exact yb_ret0 rfl h
    · replace h := h.2 c
      refine yb_push (v := 1) rfl ?_
      refine yb_goto rfl rfl ?_
      exact yb_ret1 rfl h
theorem sp_172 {D L : Nat} {P1 P0 : xh_D → xd_E → Prop} {d : xh_D} {e : xd_E} {a0 : Int} (hD : 1 ≤ D) (o : (-2147483648 ≤ a0 ∧ a0 < 2147483648)) (h1 : (0 ≤ a0 ∧ a0 ≤ 5) → P1 d e) (h0 : ¬ (0 ≤ a0 ∧ a0 ≤ 5) → P0 d e) : yZ D 172 L [.int (xJ a0)] d e P1 P0 := by
  refine yZ_of rfl rfl rfl (by omega) (yk_172_0 ?_)
  repeat' (first | apply And.intro | intro _)
  all_goals first
    | omega
    | exact h1 (by omega)
    | exact h0 (by omega)
theorem yk_173_0 {D L : Nat} {P1 P0 : xh_D → xd_E → Prop} {d : xh_D} {e : xd_E} {a0 : Int}   (h : ((-2147483648 ≤ a0 ∧ a0 < 2147483648) ∧ (((a0 < 0) → P0 d e) ∧ ((¬ a0 < 0) → ((((9 : Int) ≤ a0) → P0 d e) ∧ ((¬ (9 : Int) ≤ a0) → P1 d e)))))) : yB D xm_c173 (yQz L P1 P0) L 0 [.int (xJ a0)] [] d e := by
  refine yb_iload (x := a0) rfl rfl ?_
  have r1 := h.1
  replace h := h.2
  refine yb_if_lt (x := a0) rfl rfl r1 (fun c => ?_) (fun c => ?_)
  · replace h := h.1 c
    refine yb_push (v := 0) rfl ?_
    exact yb_ret0 rfl h
  · replace h := h.2 c
    refine yb_iload (x := a0) rfl rfl ?_
    refine yb_push (v := 9) rfl ?_
    refine yb_icmp_ge (x := a0) (y := (9 : Int)) rfl rfl r1 (by decide) (fun c => ?_) (fun c => ?_)
    · replace h := h.1 c
      refine yb_push (v := 0) rfl ?_
      exact yb_ret0 rfl h
    · replace h := h.2 c
      refine yb_push (v := 1) rfl ?_
      refine yb_goto rfl rfl ?_
      exact yb_ret1 rfl h
theorem sp_173 {D L : Nat} {P1 P0 : xh_D → xd_E → Prop} {d : xh_D} {e : xd_E} {a0 : Int} (hD : 1 ≤ D) (o : (-2147483648 ≤ a0 ∧ a0 < 2147483648)) (h1 : (0 ≤ a0 ∧ a0 ≤ 8) → P1 d e) (h0 : ¬ (0 ≤ a0 ∧ a0 ≤ 8) → P0 d e) : yZ D 173 L [.int (xJ a0)] d e P1 P0 := by
  refine yZ_of rfl rfl rfl (by omega) (yk_173_0 ?_)
  repeat' (first | apply And.intro | intro _)
  all_goals first
    | omega
    | exact h1 (by omega)
    | exact h0 (by omega)
theorem yk_174_0 {D L : Nat} {P1 P0 : xh_D → xd_E → Prop} {d : xh_D} {e : xd_E} {a0 : Int}   (h : ((-2147483648 ≤ a0 ∧ a0 < 2147483648) ∧ (((a0 < 0) → P0 d e) ∧ ((¬ a0 < 0) → ((((9 : Int) ≤ a0) → P0 d e) ∧ ((¬ (9 : Int) ≤ a0) → P1 d e)))))) : yB D xm_c174 (yQz L P1 P0) L 0 [.int (xJ a0)] [] d e := by
  refine yb_iload (x := a0) rfl rfl ?_
  have r1 := h.1
  replace h := h.2
  refine yb_if_lt (x := a0) rfl rfl r1 (fun c => ?_) (fun c => ?_)
  · replace h := h.1 c
    refine yb_push (v := 0) rfl ?_
    exact yb_ret0 rfl h
  · replace h := h.2 c
    refine yb_iload (x := a0) rfl rfl ?_
    refine yb_push (v := 9) rfl ?_
    refine yb_icmp_ge (x := a0) (y := (9 : Int)) rfl rfl r1 (by decide) (fun c => ?_) (fun c => ?_)
    · replace h := h.1 c
      refine yb_push (v := 0) rfl ?_
      exact yb_ret0 rfl h
    · replace h := h.2 c
      refine yb_push (v := 1) rfl ?_
      refine yb_goto rfl rfl ?_
      exact yb_ret1 rfl h
theorem sp_174 {D L : Nat} {P1 P0 : xh_D → xd_E → Prop} {d : xh_D} {e : xd_E} {a0 : Int} (hD : 1 ≤ D) (o : (-2147483648 ≤ a0 ∧ a0 < 2147483648)) (h1 : (0 ≤ a0 ∧ a0 ≤ 8) → P1 d e) (h0 : ¬ (0 ≤ a0 ∧ a0 ≤ 8) → P0 d e) : yZ D 174 L [.int (xJ a0)] d e P1 P0 := by
  refine yZ_of rfl rfl rfl (by omega) (yk_174_0 ?_)
  repeat' (first | apply And.intro | intro _)
  all_goals first
    | omega
    | exact h1 (by omega)
    | exact h0 (by omega)
theorem yk_175_0 {D L : Nat} {P1 P0 : xh_D → xd_E → Prop} {d : xh_D} {e : xd_E} {a0 : Int}   (h : ((-2147483648 ≤ a0 ∧ a0 < 2147483648) ∧ (((a0 < 0) → P0 d e) ∧ ((¬ a0 < 0) → ((((999 : Int) < a0) → P0 d e) ∧ ((¬ (999 : Int) < a0) → P1 d e)))))) : yB D xm_c175 (yQz L P1 P0) L 0 [.int (xJ a0)] [] d e := by
  refine yb_iload (x := a0) rfl rfl ?_
  have r1 := h.1
  replace h := h.2
  refine yb_if_lt (x := a0) rfl rfl r1 (fun c => ?_) (fun c => ?_)
  · replace h := h.1 c
    refine yb_push (v := 0) rfl ?_
    exact yb_ret0 rfl h
  · replace h := h.2 c
    refine yb_iload (x := a0) rfl rfl ?_
    refine yb_push (v := 999) rfl ?_
    refine yb_icmp_gt (x := a0) (y := (999 : Int)) rfl rfl r1 (by decide) (fun c => ?_) (fun c => ?_)
    · replace h := h.1 c
      refine yb_push (v := 0) rfl ?_
      exact yb_ret0 rfl h
    · replace h := h.2 c
      refine yb_push (v := 1) rfl ?_
      refine yb_goto rfl rfl ?_
      exact yb_ret1 rfl h
theorem sp_175 {D L : Nat} {P1 P0 : xh_D → xd_E → Prop} {d : xh_D} {e : xd_E} {a0 : Int} (hD : 1 ≤ D) (o : (-2147483648 ≤ a0 ∧ a0 < 2147483648)) (h1 : (0 ≤ a0 ∧ a0 ≤ 999) → P1 d e) (h0 : ¬ (0 ≤ a0 ∧ a0 ≤ 999) → P0 d e) : yZ D 175 L [.int (xJ a0)] d e P1 P0 := by
  refine yZ_of rfl rfl rfl (by omega) (yk_175_0 ?_)
  repeat' (first | apply And.intro | intro _)
  all_goals first
    | omega
    | exact h1 (by omega)
    | exact h0 (by omega)
theorem yk_123_0 {D L : Nat} {P : Int → xh_D → xd_E → Prop} {d : xh_D} {e : xd_E} {a0 : Int} {a1 : Int}   (hD : 1 ≤ D) (h : ((-2147483648 ≤ a0 ∧ a0 < 2147483648) ∧ (((a0 < 0 ∨ 5 < a0) → yB D xm_c123 (yQi L P) L 33 [.int (xJ a0), .int (xJ a1)] [] d e) ∧ (a0 = 0 → ((-2147483648 ≤ a1 ∧ a1 < 2147483648) ∧ P (xp_pia a1) d e)) ∧ (a0 = 1 → yB D xm_c123 (yQi L P) L 33 [.int (xJ a0), .int (xJ a1)] [] d e) ∧ (a0 = 2 → ((-2147483648 ≤ a1 ∧ a1 < 2147483648) ∧ (((97 ≤ a1 ∧ a1 ≤ 105) → P (4 : Int) d e) ∧ (¬ (97 ≤ a1 ∧ a1 ≤ 105) → P (-1 : Int) d e)))) ∧ (a0 = 3 → ((-2147483648 ≤ a1 ∧ a1 < 2147483648) ∧ (((97 ≤ a1 ∧ a1 ≤ 105) → P (5 : Int) d e) ∧ (¬ (97 ≤ a1 ∧ a1 ≤ 105) → P (-1 : Int) d e)))) ∧ (a0 = 4 → ((-2147483648 ≤ a1 ∧ a1 < 2147483648) ∧ (((48 ≤ a1 ∧ a1 ≤ 56) → P (6 : Int) d e) ∧ (¬ (48 ≤ a1 ∧ a1 ≤ 56) → P (-1 : Int) d e)))) ∧ (a0 = 5 → ((-2147483648 ≤ a1 ∧ a1 < 2147483648) ∧ (((97 ≤ a1 ∧ a1 ≤ 105) → P (6 : Int) d e) ∧ (¬ (97 ≤ a1 ∧ a1 ≤ 105) → P (-1 : Int) d e))))))) : yB D xm_c123 (yQi L P) L 0 [.int (xJ a0), .int (xJ a1)] [] d e := by
  refine yb_iload (x := a0) rfl rfl ?_
  have r1 := h.1
  replace h := h.2
  refine yb_table (x := a0) rfl rfl r1 (fun c => ?_) (fun c1 c2 => ?_)
  · replace h := h.1 c
    exact h
  · rcases (show a0 = 0 ∨ a0 = 1 ∨ a0 = 2 ∨ a0 = 3 ∨ a0 = 4 ∨ a0 = 5 by omega) with c | c | c | c | c | c
    · replace h := h.2.1 c
      refine ⟨_, by rw [c]; rfl, ?_⟩
      refine yb_iload (x := a1) rfl rfl ?_
      have r2 := h.1
      replace h := h.2
      refine yb_callSi (As := [.int (xJ a1)]) rfl rfl rfl rfl rfl rfl rfl rfl (by decide) (sp_124 (by omega) r2 ?_)
      show yB D xm_c123 _ L 4 [.int (xJ a0), .int (xJ a1)] [.int (xJ (xp_pia a1))] d e
      exact yb_ret rfl h
    · replace h := h.2.2.1 c
      refine ⟨_, by rw [c]; rfl, ?_⟩
      exact h
    · replace h := h.2.2.2.1 c
      refine ⟨_, by rw [c]; rfl, ?_⟩
      refine yb_iload (x := a1) rfl rfl ?_
      have r3 := h.1
      replace h := h.2
      refine yb_callSz (As := [.int (xJ a1)]) rfl rfl rfl rfl rfl rfl rfl rfl (by decide) (sp_171 (by omega) r3 (fun c => ?_) (fun c => ?_))
      · replace h := h.1 c
        show yB D xm_c123 _ L 7 [.int (xJ a0), .int (xJ a1)] [.int (xJ (1 : Int))] d e
        refine yb_if_eq (x := (1 : Int)) rfl rfl (by decide) (fun c => absurd c (by decide)) (fun _ => ?_)
        refine yb_push (v := 4) rfl ?_
        refine yb_goto rfl rfl ?_
        exact yb_ret rfl h
      · replace h := h.2 c
        show yB D xm_c123 _ L 7 [.int (xJ a0), .int (xJ a1)] [.int (xJ (0 : Int))] d e
        refine yb_if_eq (x := (0 : Int)) rfl rfl (by decide) (fun _ => ?_) (fun c => absurd (by decide) c)
        refine yb_push (v := (-1)) rfl ?_
        exact yb_ret rfl h
    · replace h := h.2.2.2.2.1 c
      refine ⟨_, by rw [c]; rfl, ?_⟩
      refine yb_iload (x := a1) rfl rfl ?_
      have r4 := h.1
      replace h := h.2
      refine yb_callSz (As := [.int (xJ a1)]) rfl rfl rfl rfl rfl rfl rfl rfl (by decide) (sp_171 (by omega) r4 (fun c => ?_) (fun c => ?_))
      · replace h := h.1 c
        show yB D xm_c123 _ L 14 [.int (xJ a0), .int (xJ a1)] [.int (xJ (1 : Int))] d e
        refine yb_if_eq (x := (1 : Int)) rfl rfl (by decide) (fun c => absurd c (by decide)) (fun _ => ?_)
        refine yb_push (v := 5) rfl ?_
        refine yb_goto rfl rfl ?_
        exact yb_ret rfl h
      · replace h := h.2 c
        show yB D xm_c123 _ L 14 [.int (xJ a0), .int (xJ a1)] [.int (xJ (0 : Int))] d e
        refine yb_if_eq (x := (0 : Int)) rfl rfl (by decide) (fun _ => ?_) (fun c => absurd (by decide) c)
        refine yb_push (v := (-1)) rfl ?_
        exact yb_ret rfl h
    · replace h := h.2.2.2.2.2.1 c
      refine ⟨_, by rw [c]; rfl, ?_⟩
      refine yb_iload (x := a1) rfl rfl ?_
      have r5 := h.1
      replace h := h.2
      refine yb_callSz (As := [.int (xJ a1)]) rfl rfl rfl rfl rfl rfl rfl rfl (by decide) (sp_170 (by omega) r5 (fun c => ?_) (fun c => ?_))
      · replace h := h.1 c
        show yB D xm_c123 _ L 21 [.int (xJ a0), .int (xJ a1)] [.int (xJ (1 : Int))] d e
        refine yb_if_eq (x := (1 : Int)) rfl rfl (by decide) (fun c => absurd c (by decide)) (fun _ => ?_)
        refine yb_push (v := 6) rfl ?_
        refine yb_goto rfl rfl ?_
        exact yb_ret rfl h
      · replace h := h.2 c
        show yB D xm_c123 _ L 21 [.int (xJ a0), .int (xJ a1)] [.int (xJ (0 : Int))] d e
        refine yb_if_eq (x := (0 : Int)) rfl rfl (by decide) (fun _ => ?_) (fun c => absurd (by decide) c)
        refine yb_push (v := (-1)) rfl ?_
        exact yb_ret rfl h
    · replace h := h.2.2.2.2.2.2 c
      refine ⟨_, by rw [c]; rfl, ?_⟩
      refine yb_iload (x := a1) rfl rfl ?_
      have r6 := h.1
      replace h := h.2
      refine yb_callSz (As := [.int (xJ a1)]) rfl rfl rfl rfl rfl rfl rfl rfl (by decide) (sp_171 (by omega) r6 (fun c => ?_) (fun c => ?_))
      · replace h := h.1 c
        show yB D xm_c123 _ L 28 [.int (xJ a0), .int (xJ a1)] [.int (xJ (1 : Int))] d e
        refine yb_if_eq (x := (1 : Int)) rfl rfl (by decide) (fun c => absurd c (by decide)) (fun _ => ?_)
        refine yb_push (v := 6) rfl ?_
        refine yb_goto rfl rfl ?_
        exact yb_ret rfl h
      · replace h := h.2 c
        show yB D xm_c123 _ L 28 [.int (xJ a0), .int (xJ a1)] [.int (xJ (0 : Int))] d e
        refine yb_if_eq (x := (0 : Int)) rfl rfl (by decide) (fun _ => ?_) (fun c => absurd (by decide) c)
        refine yb_push (v := (-1)) rfl ?_
        exact yb_ret rfl h
theorem yk_123_33 {D L : Nat} {P : Int → xh_D → xd_E → Prop} {d : xh_D} {e : xd_E}  {l0 : Int} {l1 : Int}  (h : ((-2147483648 ≤ l0 ∧ l0 < 2147483648) ∧ (((¬ l0 = (1 : Int)) → ((-2147483648 ≤ l1 ∧ l1 < 2147483648) ∧ (((¬ l1 = (59 : Int)) → P (-1 : Int) d e) ∧ ((l1 = (59 : Int)) → P (0 : Int) d e)))) ∧ ((l0 = (1 : Int)) → ((-2147483648 ≤ l1 ∧ l1 < 2147483648) ∧ (((l1 < (49 : Int)) → (((¬ l1 = (59 : Int)) → P (-1 : Int) d e) ∧ ((l1 = (59 : Int)) → P (0 : Int) d e))) ∧ ((¬ l1 < (49 : Int)) → ((((57 : Int) < l1) → (((¬ l1 = (59 : Int)) → P (-1 : Int) d e) ∧ ((l1 = (59 : Int)) → P (0 : Int) d e))) ∧ ((¬ (57 : Int) < l1) → P (6 : Int) d e))))))))) : yB D xm_c123 (yQi L P) L 33 [.int (xJ l0), .int (xJ l1)] [] d e := by
  refine yb_iload (x := l0) rfl rfl ?_
  refine yb_push (v := 1) rfl ?_
  have r1 := h.1
  replace h := h.2
  refine yb_icmp_ne (x := l0) (y := (1 : Int)) rfl rfl r1 (by decide) (fun c => ?_) (fun c => ?_)
  · replace h := h.1 c
    refine yb_iload (x := l1) rfl rfl ?_
    refine yb_push (v := 59) rfl ?_
    have r2 := h.1
    replace h := h.2
    refine yb_icmp_ne (x := l1) (y := (59 : Int)) rfl rfl r2 (by decide) (fun c => ?_) (fun c => ?_)
    · replace h := h.1 c
      refine yb_push (v := (-1)) rfl ?_
      exact yb_ret rfl h
    · replace h := h.2 c
      refine yb_push (v := 0) rfl ?_
      refine yb_goto rfl rfl ?_
      exact yb_ret rfl h
  · replace h := h.2 c
    refine yb_iload (x := l1) rfl rfl ?_
    refine yb_push (v := 49) rfl ?_
    have r3 := h.1
    replace h := h.2
    refine yb_icmp_lt (x := l1) (y := (49 : Int)) rfl rfl r3 (by decide) (fun c => ?_) (fun c => ?_)
    · replace h := h.1 c
      refine yb_iload (x := l1) rfl rfl ?_
      refine yb_push (v := 59) rfl ?_
      refine yb_icmp_ne (x := l1) (y := (59 : Int)) rfl rfl r3 (by decide) (fun c => ?_) (fun c => ?_)
      · replace h := h.1 c
        refine yb_push (v := (-1)) rfl ?_
        exact yb_ret rfl h
      · replace h := h.2 c
        refine yb_push (v := 0) rfl ?_
        refine yb_goto rfl rfl ?_
        exact yb_ret rfl h
    · replace h := h.2 c
      refine yb_iload (x := l1) rfl rfl ?_
      refine yb_push (v := 57) rfl ?_
      refine yb_icmp_gt (x := l1) (y := (57 : Int)) rfl rfl r3 (by decide) (fun c => ?_) (fun c => ?_)
      · replace h := h.1 c
        refine yb_iload (x := l1) rfl rfl ?_
        refine yb_push (v := 59) rfl ?_
        refine yb_icmp_ne (x := l1) (y := (59 : Int)) rfl rfl r3 (by decide) (fun c => ?_) (fun c => ?_)
        · replace h := h.1 c
          refine yb_push (v := (-1)) rfl ?_
          exact yb_ret rfl h
        · replace h := h.2 c
          refine yb_push (v := 0) rfl ?_
          refine yb_goto rfl rfl ?_
          exact yb_ret rfl h
      · replace h := h.2 c
        refine yb_push (v := 6) rfl ?_
        exact yb_ret rfl h
theorem sp_123 {D L : Nat} {P : Int → xh_D → xd_E → Prop} {d : xh_D} {e : xd_E} {a0 a1 : Int} (hD : 2 ≤ D) (o : (-2147483648 ≤ a0 ∧ a0 < 2147483648) ∧ (-2147483648 ≤ a1 ∧ a1 < 2147483648)) (h : P (xp_pb a0 a1) d e) : yC D 123 L [.int (xJ a0), .int (xJ a1)] d e P := by
  refine yC_of rfl rfl rfl (by omega) (yk_123_0 (by omega) ?_)
  have hb : ¬ a0 = 0 → ¬ a0 = 2 → ¬ a0 = 3 → ¬ a0 = 4 → ¬ a0 = 5 → yB (D - 1) xm_c123 (yQi L P) L 33 [.int (xJ a0), .int (xJ a1)] [] d e := by
    intro h0 h2 h3 h4 h5
    refine yk_123_33 ?_
    repeat' (first | apply And.intro | intro _)
    all_goals first
      | omega
      | (refine cast ?_ h; congr 1; unfold xp_pb; (repeat' split) <;> omega)
  repeat' (first | apply And.intro | intro _)
  all_goals first
    | omega
    | (apply hb <;> omega)
    | (refine cast ?_ h; congr 1; unfold xp_pb; (repeat' split) <;> first | rfl | omega)
theorem yk_162_0 {D L : Nat} {P : Int → xh_D → xd_E → Prop} {d : xh_D} {e : xd_E} {a0 : Int} {a1 : Int}   (hD : 1 ≤ D) (h : P ((xp_bc a0) + (xp_bc (xi_and a0 (xi_xor a1 (-1 : Int))))) d e) : yB D xm_c162 (yQi L P) L 0 [.int (xJ a0), .int (xJ a1)] [] d e := by
  refine yb_iload (x := a0) rfl rfl ?_
  refine yb_callSi (As := [.int (xJ a0)]) rfl rfl rfl rfl rfl rfl rfl rfl (by decide) (sp_0 (by omega) ?_)
  show yB D xm_c162 _ L 2 [.int (xJ a0), .int (xJ a1)] [.int (xJ (xp_bc a0))] d e
  refine yb_iload (x := a0) rfl rfl ?_
  refine yb_iload (x := a1) rfl rfl ?_
  refine yb_push (v := (-1)) rfl ?_
  refine yb_ixor (x := a1) (y := (-1 : Int)) rfl ?_
  refine yb_iand (x := a0) (y := (xi_xor a1 (-1 : Int))) rfl ?_
  refine yb_callSi (As := [.int (xJ (xi_and a0 (xi_xor a1 (-1 : Int))))]) rfl rfl rfl rfl rfl rfl rfl rfl (by show (1 : Nat) ≤ 8; decide) (sp_0 (by omega) ?_)
  show yB D xm_c162 _ L 8 [.int (xJ a0), .int (xJ a1)] [.int (xJ (xp_bc (xi_and a0 (xi_xor a1 (-1 : Int))))), .int (xJ (xp_bc a0))] d e
  refine yb_iadd (x := (xp_bc a0)) (y := (xp_bc (xi_and a0 (xi_xor a1 (-1 : Int))))) rfl ?_
  exact yb_ret rfl h
theorem sp_162 {D L : Nat} {P : Int → xh_D → xd_E → Prop} {d : xh_D} {e : xd_E} {a0 a1 : Int} (hD : 2 ≤ D) (h : P (xp_bc a0 + xp_bc (xi_and a0 (xi_xor a1 (-1 : Int)))) d e) : yC D 162 L [.int (xJ a0), .int (xJ a1)] d e P := by
  refine yC_of rfl rfl rfl (by omega) (yk_162_0 (by omega) ?_)
  exact h
theorem yk_165_0 {D L : Nat} {P : Int → xh_D → xd_E → Prop} {d : xh_D} {e : xd_E} {a0 : Int}   (h : P ((a0 * (1103515245 : Int)) + (12345 : Int)) d e) : yB D xm_c165 (yQi L P) L 0 [.int (xJ a0)] [] d e := by
  refine yb_iload (x := a0) rfl rfl ?_
  refine yb_push (v := 1103515245) rfl ?_
  refine yb_imul (x := a0) (y := (1103515245 : Int)) rfl ?_
  refine yb_push (v := 12345) rfl ?_
  refine yb_iadd (x := (a0 * (1103515245 : Int))) (y := (12345 : Int)) rfl ?_
  exact yb_ret rfl h
theorem sp_165 {D L : Nat} {P : Int → xh_D → xd_E → Prop} {d : xh_D} {e : xd_E} {a0 : Int} (hD : 1 ≤ D) (h : P (a0 * 1103515245 + 12345) d e) : yC D 165 L [.int (xJ a0)] d e P := by
  refine yC_of rfl rfl rfl (by omega) (yk_165_0 ?_)
  exact h
theorem yk_176_0 {D L : Nat} {P : Int → xh_D → xd_E → Prop} {d : xh_D} {e : xd_E} {a0 : Int} {a1 : Int}   (hD : 1 ≤ D) (h : ((-2147483648 ≤ a0 ∧ a0 < 2147483648) ∧ ((-2147483648 ≤ a1 ∧ a1 < 2147483648) ∧ P (max (0 : Int) (min a0 a1)) d e))) : yB D xm_c176 (yQi L P) L 0 [.int (xJ a0), .int (xJ a1)] [] d e := by
  refine yb_push (v := 0) rfl ?_
  refine yb_iload (x := a0) rfl rfl ?_
  refine yb_iload (x := a1) rfl rfl ?_
  have r1 := h.1
  replace h := h.2
  have r2 := h.1
  replace h := h.2
  refine yb_callSi (As := [.int (xJ a0), .int (xJ a1)]) rfl rfl rfl rfl rfl rfl rfl rfl (by show (1 : Nat) ≤ 8; decide) (sp_5 (by omega) ⟨r1, r2⟩ ?_)
  show yB D xm_c176 _ L 4 [.int (xJ a0), .int (xJ a1)] [.int (xJ (min a0 a1)), .int (xJ (0 : Int))] d e
  have r3 : (-2147483648 ≤ (min a0 a1) ∧ (min a0 a1) < 2147483648) := (by omega)
  refine yb_callSi (As := [.int (xJ (0 : Int)), .int (xJ (min a0 a1))]) rfl rfl rfl rfl rfl rfl rfl rfl (by decide) (sp_4 (by omega) ⟨(by show (-2147483648 ≤ (0 : Int) ∧ (0 : Int) < 2147483648); decide), r3⟩ ?_)
  show yB D xm_c176 _ L 5 [.int (xJ a0), .int (xJ a1)] [.int (xJ (max (0 : Int) (min a0 a1)))] d e
  exact yb_ret rfl h
theorem sp_176 {D L : Nat} {P : Int → xh_D → xd_E → Prop} {d : xh_D} {e : xd_E} {a0 a1 : Int} (hD : 2 ≤ D) (o : (-2147483648 ≤ a0 ∧ a0 < 2147483648) ∧ (-2147483648 ≤ a1 ∧ a1 < 2147483648)) (h : P (max 0 (min a0 a1)) d e) : yC D 176 L [.int (xJ a0), .int (xJ a1)] d e P := by
  refine yC_of rfl rfl rfl (by omega) (yk_176_0 (by omega) ?_)
  exact ⟨by omega, by omega, h⟩
theorem yk_177_0 {D L : Nat} {P : Int → xh_D → xd_E → Prop} {d : xh_D} {e : xd_E} {a0 : Int} {a1 : Int}   (hD : 1 ≤ D) (h : ((-2147483648 < (a0 - a1) ∧ (a0 - a1) < 2147483648) ∧ ((-2147483648 ≤ ((9 : Int) - (max (a0 - a1) (-(a0 - a1)))) ∧ ((9 : Int) - (max (a0 - a1) (-(a0 - a1)))) < 2147483648) ∧ P (min (max (a0 - a1) (-(a0 - a1))) ((9 : Int) - (max (a0 - a1) (-(a0 - a1))))) d e))) : yB D xm_c177 (yQi L P) L 0 [.int (xJ a0), .int (xJ a1), .double 0] [] d e := by
  refine yb_iload (x := a0) rfl rfl ?_
  refine yb_iload (x := a1) rfl rfl ?_
  refine yb_isub (x := a0) (y := a1) rfl ?_
  have r1 := h.1
  replace h := h.2
  refine yb_callSi (As := [.int (xJ (a0 - a1))]) rfl rfl rfl rfl rfl rfl rfl rfl (by decide) (sp_2 (by omega) r1 ?_)
  show yB D xm_c177 _ L 4 [.int (xJ a0), .int (xJ a1), .double 0] [.int (xJ (max (a0 - a1) (-(a0 - a1))))] d e
  refine yb_istore rfl rfl rfl ?_
  refine yb_iload (x := (max (a0 - a1) (-(a0 - a1)))) rfl rfl ?_
  refine yb_push (v := 9) rfl ?_
  refine yb_iload (x := (max (a0 - a1) (-(a0 - a1)))) rfl rfl ?_
  refine yb_isub (x := (9 : Int)) (y := (max (a0 - a1) (-(a0 - a1)))) rfl ?_
  have r2 : (-2147483648 ≤ (max (a0 - a1) (-(a0 - a1))) ∧ (max (a0 - a1) (-(a0 - a1))) < 2147483648) := (by omega)
  have r3 := h.1
  replace h := h.2
  refine yb_callSi (As := [.int (xJ (max (a0 - a1) (-(a0 - a1)))), .int (xJ ((9 : Int) - (max (a0 - a1) (-(a0 - a1)))))]) rfl rfl rfl rfl rfl rfl rfl rfl (by decide) (sp_5 (by omega) ⟨r2, r3⟩ ?_)
  show yB D xm_c177 _ L 10 [.int (xJ a0), .int (xJ a1), .int (xJ (max (a0 - a1) (-(a0 - a1))))] [.int (xJ (min (max (a0 - a1) (-(a0 - a1))) ((9 : Int) - (max (a0 - a1) (-(a0 - a1))))))] d e
  exact yb_ret rfl h
theorem sp_177 {D L : Nat} {P : Int → xh_D → xd_E → Prop} {d : xh_D} {e : xd_E} {a0 a1 : Int} (hD : 2 ≤ D) (o : (0 ≤ a0 ∧ a0 < 9) ∧ (0 ≤ a1 ∧ a1 < 9)) (h : P (xp_apart a0 a1) d e) : yC D 177 L [.int (xJ a0), .int (xJ a1)] d e P := by
  refine yC_of rfl rfl rfl (by omega) (yk_177_0 (by omega) ?_)
  exact ⟨by omega, by omega, h⟩
theorem yk_180_0 {D L : Nat} {P1 P0 : xh_D → xd_E → Prop} {d : xh_D} {e : xd_E} {a0 : Int} {a1 : Int} {a2 : Int}   (h : ((-2147483648 ≤ a0 ∧ a0 < 2147483648) ∧ ((-2147483648 ≤ a1 ∧ a1 < 2147483648) ∧ (((a0 < a1) → P0 d e) ∧ ((¬ a0 < a1) → ((-2147483648 ≤ a2 ∧ a2 < 2147483648) ∧ (((a2 < a0) → P0 d e) ∧ ((¬ a2 < a0) → P1 d e)))))))) : yB D xm_c180 (yQz L P1 P0) L 0 [.int (xJ a0), .int (xJ a1), .int (xJ a2)] [] d e := by
  refine yb_iload (x := a0) rfl rfl ?_
  refine yb_iload (x := a1) rfl rfl ?_
  have r1 := h.1
  replace h := h.2
  have r2 := h.1
  replace h := h.2
  refine yb_icmp_lt (x := a0) (y := a1) rfl rfl r1 r2 (fun c => ?_) (fun c => ?_)
  · replace h := h.1 c
    refine yb_push (v := 0) rfl ?_
    exact yb_ret0 rfl h
  · replace h := h.2 c
    refine yb_iload (x := a0) rfl rfl ?_
    refine yb_iload (x := a2) rfl rfl ?_
    have r3 := h.1
    replace h := h.2
    refine yb_icmp_gt (x := a0) (y := a2) rfl rfl r1 r3 (fun c => ?_) (fun c => ?_)
    · replace h := h.1 c
      refine yb_push (v := 0) rfl ?_
      exact yb_ret0 rfl h
    · replace h := h.2 c
      refine yb_push (v := 1) rfl ?_
      refine yb_goto rfl rfl ?_
      exact yb_ret1 rfl h
theorem sp_180 {D L : Nat} {P1 P0 : xh_D → xd_E → Prop} {d : xh_D} {e : xd_E} {a0 a1 a2 : Int} (hD : 1 ≤ D) (o : (-2147483648 ≤ a0 ∧ a0 < 2147483648) ∧ (-2147483648 ≤ a1 ∧ a1 < 2147483648) ∧ (-2147483648 ≤ a2 ∧ a2 < 2147483648)) (h1 : (a1 ≤ a0 ∧ a0 ≤ a2) → P1 d e) (h0 : ¬ (a1 ≤ a0 ∧ a0 ≤ a2) → P0 d e) : yZ D 180 L [.int (xJ a0), .int (xJ a1), .int (xJ a2)] d e P1 P0 := by
  refine yZ_of rfl rfl rfl (by omega) (yk_180_0 ?_)
  repeat' (first | apply And.intro | intro _)
  all_goals first
    | omega
    | exact h1 (by omega)
    | exact h0 (by omega)
theorem yk_181_0 {D L : Nat} {P1 P0 : xh_D → xd_E → Prop} {d : xh_D} {e : xd_E} {a0 : Int} {a1 : Int}   (h : (((¬ (xi_and (xi_shr a0 a1) (1 : Int)) = (1 : Int)) → P0 d e) ∧ (((xi_and (xi_shr a0 a1) (1 : Int)) = (1 : Int)) → P1 d e))) : yB D xm_c181 (yQz L P1 P0) L 0 [.int (xJ a0), .int (xJ a1)] [] d e := by
  refine yb_iload (x := a0) rfl rfl ?_
  refine yb_iload (x := a1) rfl rfl ?_
  refine yb_ishr (x := a0) (y := a1) rfl ?_
  refine yb_push (v := 1) rfl ?_
  refine yb_iand (x := (xi_shr a0 a1)) (y := (1 : Int)) rfl ?_
  refine yb_push (v := 1) rfl ?_
  refine yb_icmp_ne (x := (xi_and (xi_shr a0 a1) (1 : Int))) (y := (1 : Int)) rfl rfl (xJ_rng _) (by decide) (fun c => ?_) (fun c => ?_)
  · replace h := h.1 c
    refine yb_push (v := 0) rfl ?_
    exact yb_ret0 rfl h
  · replace h := h.2 c
    refine yb_push (v := 1) rfl ?_
    refine yb_goto rfl rfl ?_
    exact yb_ret1 rfl h
theorem sp_181 {D L : Nat} {P1 P0 : xh_D → xd_E → Prop} {d : xh_D} {e : xd_E} {a0 a1 : Int} (hD : 1 ≤ D) (h1 : (xi_and (xi_shr a0 a1) (1 : Int) = 1) → P1 d e) (h0 : ¬ (xi_and (xi_shr a0 a1) (1 : Int) = 1) → P0 d e) : yZ D 181 L [.int (xJ a0), .int (xJ a1)] d e P1 P0 := by
  refine yZ_of rfl rfl rfl (by omega) (yk_181_0 ?_)
  exact ⟨h0, h1⟩
theorem yk_186_0 {D L : Nat} {P1 P0 : xh_D → xd_E → Prop} {d : xh_D} {e : xd_E} {a0 : Int}   (hD : 1 ≤ D) (h : ((-2147483648 ≤ a0 ∧ a0 < 2147483648) ∧ ((((0 : Int) ≤ a0 ∧ a0 ≤ (8 : Int)) → P1 d e) ∧ (¬ ((0 : Int) ≤ a0 ∧ a0 ≤ (8 : Int)) → P0 d e)))) : yB D xm_c186 (yQz L P1 P0) L 0 [.int (xJ a0)] [] d e := by
  refine yb_iload (x := a0) rfl rfl ?_
  refine yb_push (v := 0) rfl ?_
  refine yb_push (v := 8) rfl ?_
  have r1 := h.1
  replace h := h.2
  refine yb_callSz (As := [.int (xJ a0), .int (xJ (0 : Int)), .int (xJ (8 : Int))]) rfl rfl rfl rfl rfl rfl rfl rfl (by decide) (sp_180 (by omega) ⟨r1, (by show (-2147483648 ≤ (0 : Int) ∧ (0 : Int) < 2147483648); decide), (by show (-2147483648 ≤ (8 : Int) ∧ (8 : Int) < 2147483648); decide)⟩ (fun c => ?_) (fun c => ?_))
  · replace h := h.1 c
    show yB D xm_c186 _ L 4 [.int (xJ a0)] [.int (xJ (1 : Int))] d e
    exact yb_ret1 rfl h
  · replace h := h.2 c
    show yB D xm_c186 _ L 4 [.int (xJ a0)] [.int (xJ (0 : Int))] d e
    exact yb_ret0 rfl h
theorem sp_186 {D L : Nat} {P1 P0 : xh_D → xd_E → Prop} {d : xh_D} {e : xd_E} {a0 : Int} (hD : 2 ≤ D) (o : (-2147483648 ≤ a0 ∧ a0 < 2147483648)) (h1 : (0 ≤ a0 ∧ a0 ≤ 8) → P1 d e) (h0 : ¬ (0 ≤ a0 ∧ a0 ≤ 8) → P0 d e) : yZ D 186 L [.int (xJ a0)] d e P1 P0 := by
  refine yZ_of rfl rfl rfl (by omega) (yk_186_0 (by omega) ?_)
  exact ⟨by omega, h1, h0⟩
theorem yk_208_0 {D L : Nat} {P : Int → xh_D → xd_E → Prop} {d : xh_D} {e : xd_E} {a0 : Int} {a1 : Int}   (hD : 1 ≤ D) (h : ((-2147483648 < (a0 - a1) ∧ (a0 - a1) < 2147483648) ∧ ((-2147483648 ≤ ((9 : Int) - (max (a0 - a1) (-(a0 - a1)))) ∧ ((9 : Int) - (max (a0 - a1) (-(a0 - a1)))) < 2147483648) ∧ P (min (max (a0 - a1) (-(a0 - a1))) ((9 : Int) - (max (a0 - a1) (-(a0 - a1))))) d e))) : yB D xm_c208 (yQi L P) L 0 [.int (xJ a0), .int (xJ a1), .double 0] [] d e := by
  refine yb_iload (x := a0) rfl rfl ?_
  refine yb_iload (x := a1) rfl rfl ?_
  refine yb_isub (x := a0) (y := a1) rfl ?_
  have r1 := h.1
  replace h := h.2
  refine yb_callSi (As := [.int (xJ (a0 - a1))]) rfl rfl rfl rfl rfl rfl rfl rfl (by decide) (sp_2 (by omega) r1 ?_)
  show yB D xm_c208 _ L 4 [.int (xJ a0), .int (xJ a1), .double 0] [.int (xJ (max (a0 - a1) (-(a0 - a1))))] d e
  refine yb_istore rfl rfl rfl ?_
  refine yb_iload (x := (max (a0 - a1) (-(a0 - a1)))) rfl rfl ?_
  refine yb_push (v := 9) rfl ?_
  refine yb_iload (x := (max (a0 - a1) (-(a0 - a1)))) rfl rfl ?_
  refine yb_isub (x := (9 : Int)) (y := (max (a0 - a1) (-(a0 - a1)))) rfl ?_
  have r2 : (-2147483648 ≤ (max (a0 - a1) (-(a0 - a1))) ∧ (max (a0 - a1) (-(a0 - a1))) < 2147483648) := (by omega)
  have r3 := h.1
  replace h := h.2
  refine yb_callSi (As := [.int (xJ (max (a0 - a1) (-(a0 - a1)))), .int (xJ ((9 : Int) - (max (a0 - a1) (-(a0 - a1)))))]) rfl rfl rfl rfl rfl rfl rfl rfl (by decide) (sp_5 (by omega) ⟨r2, r3⟩ ?_)
  show yB D xm_c208 _ L 10 [.int (xJ a0), .int (xJ a1), .int (xJ (max (a0 - a1) (-(a0 - a1))))] [.int (xJ (min (max (a0 - a1) (-(a0 - a1))) ((9 : Int) - (max (a0 - a1) (-(a0 - a1))))))] d e
  exact yb_ret rfl h
theorem sp_208 {D L : Nat} {P : Int → xh_D → xd_E → Prop} {d : xh_D} {e : xd_E} {a0 a1 : Int} (hD : 2 ≤ D) (o : (0 ≤ a0 ∧ a0 < 9) ∧ (0 ≤ a1 ∧ a1 < 9)) (h : P (xp_apart a0 a1) d e) : yC D 208 L [.int (xJ a0), .int (xJ a1)] d e P := by
  refine yC_of rfl rfl rfl (by omega) (yk_208_0 (by omega) ?_)
  exact ⟨by omega, by omega, h⟩
