/-! THE LAW: its loop. -/
/-- the script's ints -/
def scI (xs : Nat → Int32) (i : Nat) : Int := (xs i).toInt
theorem scI_J {xs : Nat → Int32} {i : Nat} : xJ (scI xs i) = xs i := xJ_toInt _
theorem scI_r {xs : Nat → Int32} {i : Nat} : yR (scI xs i) := xJ_rng _
def sS (xs : Nat → Int32) (d : xh_D) : Prop := ∀ i : Nat, xJ (d 0 i) = xs i
section LLP
variable {D L : Nat} {code : List Instr} {Q : xe_Q} {kc ks i : Nat} {dl st : List Value} {d : xh_D} {e : xd_E} {xs : Nat → Int32} {b b' : Int}
theorem sS_t {d' : xh_D} (h : sS xs d) (h2 : ∀ i : Nat, xJ (d' 0 i) = xJ (d 0 i)) : sS xs d' := fun i => by rw [h2 i, h i]
theorem zb_forget {dl2 : List Value} (hle : xe_le dl dl2) (h : zB D code Q L kc ks i dl st d e) : zB D code Q L kc ks i dl2 st d e := xe_forget h dl2 hle
theorem zb_iald0 {j : Nat} (hc : code[i]? = some .iaload) (hS : sS xs d) (hj : j < L ∧ L ≤ 2560) (h : zB D code Q L kc ks (i + 1) dl (.int (xJ (scI xs j)) :: st) d e) : zB D code Q L kc ks i dl (.int (xJ (j : Int)) :: .ref 0 :: st) d e := by
  refine xe_Ev_step ⟨_, hc, 0, xJ (j : Int), L, xh_m d 0, st, rfl, by decide, rfl, xJ_in (by omega) (by omega), ?_⟩
  rw [xJ_nat (by omega), Int.toNat_natCast, show xh_m d 0 j = xJ (scI xs j) by rw [scI_J]; exact hS j]
  exact h
theorem zb_arg {n j : Nat} (h0 : code[i]? = some (.aload 0)) (h1 : code[i + 1]? = some (.iload 4)) (h2 : code[i + 1 + 1]? = some (.sipush (j : Int))) (h3 : code[i + 1 + 1 + 1]? = some .iadd) (h4 : code[i + 1 + 1 + 1 + 1]? = some .iaload) (l0 : dl[0]? = some (.ref 0)) (l4 : dl[4]? = some (.int (xJ (n : Int)))) (hS : sS xs d) (hj : n + j < L ∧ L ≤ 2560) (h : zB D code Q L kc ks (i + 5) dl (.int (xJ (scI xs (n + j))) :: st) d e) : zB D code Q L kc ks i dl st d e := by
  refine zb_aload h0 l0 (zb_iload h1 l4 (zb_push h2 (zb_iadd h3 ?_)))
  rw [show (n : Int) + (j : Int) = ((n + j : Nat) : Int) by omega]
  exact zb_iald0 h4 hS hj h
theorem zb_table {v : Int} {dd : Int} {os : Array Int} (hc : code[i]? = some (.tableswitch dd 0 55 os)) (hv : 0 ≤ v ∧ v < 64) (h1 : 55 < v → zB D code Q L kc ks dd.toNat dl st d e) (h2 : ∀ k : Nat, v = (k : Int) → k ≤ 55 → ∃ t, os[k]? = some t ∧ zB D code Q L kc ks t.toNat dl st d e) : zB D code Q L kc ks i dl (.int (xJ v) :: st) d e := by
  refine xe_Ev_step ⟨_, hc, xJ v, st, rfl, fun q => h1 ?_, fun q1 q2 => ?_⟩
  · rw [xJ_i (by omega)] at q; omega
  · rw [xJ_i (by omega)] at q1 q2 ⊢
    obtain ⟨t, a, c⟩ := h2 v.toNat (by omega) (by omega)
    exact ⟨t, by rw [Int.sub_zero]; exact a, c⟩
theorem zb_lald {a n : Nat} {j : Int} {v : Int64} (hc : code[i]? = some .laload) (hA : xd_Al a n) (hin : 0 ≤ j ∧ j < (n : Int)) (hv : e a j.toNat = v) (h : zB D code Q L kc ks (i + 1) dl (.long v :: st) d e) : zB D code Q L kc ks i dl (.int (xJ j) :: .ref a :: st) d e := xe_Ev_step ⟨_, hc, a, xJ j, n, e a, st, rfl, hA.1, hA.2.1, hA.2.2.2 L _ _, xJ_in (by have := hA.2.2.1; omega) hin, by rw [xJ_nat (by have := hA.2.2.1; omega), hv]; exact h⟩
theorem zb_lcmp {x : Int64} (hc : code[i]? = some .lcmp) (h : zB D code Q L kc ks (i + 1) dl (.int (xJ 0) :: st) d e) : zB D code Q L kc ks i dl (.long x :: .long x :: st) d e := xe_Ev_step ⟨_, hc, x, x, st, rfl, by
  rw [show lg_cmp x x = xJ 0 from by
    unfold lg_cmp
    rw [if_neg (show ¬ x > x from fun w => Int64.lt_irrefl w), if_pos rfl]
    rfl]
  exact h⟩
theorem zb_alen (hc : code[i]? = some .arraylength) (h : zB D code Q L kc ks (i + 1) dl (.int (xJ (L : Int)) :: st) d e) : zB D code Q L kc ks i dl (.ref 0 :: st) d e := xe_Ev_step ⟨_, hc, 0, 1, L, _, st, rfl, by decide, by decide, rfl, fun _ => rfl, h⟩
theorem Oz_Op {R : xR} {gx gm : Nat} {as : List Value} (h : Oz R b b' L gx gm as d e) : Op R b b' L gx gm as d e := yC_mono h (fun r1 d1 e1 q => q.elim (fun q => yC_mono q.2 (fun r2 d2 e2 w => w.elim (fun w => ⟨q.1.trans w.1.symm, w.2⟩) (fun w => w.2.elim))) (fun q => yC_mono q.2 (fun r2 d2 e2 w => w.elim (fun w => w.2.elim) (fun w => ⟨q.1.trans w.1.symm, w.2⟩))))
theorem op_L {gx gm : Nat} {as : List Value} (hb : b' ≤ b + 720) (h : Op iR b b' L gx gm as d e) : yC 200 gx L (.ref 1 :: as) d e (fun r1 d1 e1 => yC 200 gm L (.ref 146 :: as) d1 e1 (fun r2 d2 e2 => r1 = r2 ∧ Inv iR (b + 720) d2 e2 ∧ ∀ i : Nat, xJ (d2 0 i) = xJ (d1 0 i)) ∧ ∀ i : Nat, xJ (d1 0 i) = xJ (d 0 i)) := yC_mono (yC_0 (yC_d (k := 50) h)) (fun r1 d1 e1 q => ⟨yC_mono (yC_0 (yC_d (k := 50) q.1)) (fun r2 d2 e2 w => ⟨w.1.1, Inv_mono hb w.1.2, w.2⟩), q.2⟩)
theorem op_W {gx gm : Nat} {ax am : List Value} (hb : b' ≤ b + 720) (h : Ow iR b b' L gx gm ax am d e) : yC 200 gx L (.ref 1 :: ax) d e (fun k d1 e1 => yC 200 gm L (.ref 146 :: am) d1 e1 (fun r d2 e2 => (Inv iR (b + 720) d2 e2 ∧ (k = 0 ∨ k = 1) ∧ d2 146 8 = k ∧ (k = 0 → e2 177 0 = (xJ r).toInt64)) ∧ ∀ i : Nat, xJ (d2 0 i) = xJ (d1 0 i)) ∧ ∀ i : Nat, xJ (d1 0 i) = xJ (d 0 i)) := yC_mono (yC_0 (yC_d (k := 50) h)) (fun r1 d1 e1 q => ⟨yC_mono (yC_0 (yC_d (k := 50) q.1)) (fun r2 d2 e2 w => ⟨⟨Inv_mono hb w.1.1, w.1.2⟩, w.2⟩), q.2⟩)
theorem thr_C {v : Int} {P : Int → xh_D → xd_E → Prop} (h8 : d 146 8 = v) (h : P v d e) : yC 200 179 L [.ref 146] d e P := by
  refine yC_of rfl rfl rfl (by omega) (yk_179_0 ?_)
  rw [h8]
  exact h
def nxt (L : Nat) (xs : Nat → Int32) (Q : xe_Q) (b : Int) (kc ks n : Nat) : Prop := ∀ (d2 : xh_D) (e2 : xd_E) (dl2 : List Value), xe_le [.ref 0, .ref 1, .ref 146, .ref 177, .int (xJ (n : Int)), .double 0, .double 0] dl2 → Inv iR (b + 720) d2 e2 → sS xs d2 → zB 200 xm_law Q L kc ks 1049 dl2 [] d2 e2
theorem cs_0 {n : Nat} (hL : n + 5 ≤ L ∧ L ≤ 2560) (hb : b < 1000000) (hI : Inv iR b d e) (hS : sS xs d) (nx : nxt L xs Q b kc ks n) : zB 200 xm_law Q L kc ks 25 [.ref 0, .ref 1, .ref 146, .ref 177, .int (xJ (n : Int)), .double 0, .double 0] [] d e := by
  refine zb_aload (x := 1) rfl rfl ?_
  refine zb_arg (n := n) (j := 1) rfl rfl rfl rfl rfl rfl rfl hS (by omega) ?_
  refine zb_callVi (As := [.int (xJ (scI xs (n + 1)))]) (a := 1) rfl rfl rfl rfl rfl rfl rfl rfl (by decide) (by decide) rfl (by decide) (yC_mono (op_L (by omega) (op_sign (L := L) scI_r hI)) (fun r1 d1 e1 hh => ?_))
  obtain ⟨k2, k1⟩ := hh
  have hS1 := sS_t hS k1
  refine zb_aload (x := 146) rfl rfl ?_
  refine zb_arg (n := n) (j := 1) rfl rfl rfl rfl rfl rfl rfl hS1 (by omega) ?_
  refine zb_callVi (As := [.int (xJ (scI xs (n + 1)))]) (a := 146) rfl rfl rfl rfl rfl rfl rfl rfl (by decide) (by decide) rfl (Nat.le_of_ble_eq_true rfl) (yC_mono k2 (fun r2 d2 e2 hh => ?_))
  obtain ⟨q1, q2, q3⟩ := hh
  exact zb_icmp_eqv (j := 1049) rfl rfl q1 (nx d2 e2 _ (by simp [xe_le]) q2 (sS_t hS1 q3))
theorem cs_1 {n : Nat} (hL : n + 5 ≤ L ∧ L ≤ 2560) (hb : b < 1000000) (hI : Inv iR b d e) (hS : sS xs d) (nx : nxt L xs Q b kc ks n) : zB 200 xm_law Q L kc ks 42 [.ref 0, .ref 1, .ref 146, .ref 177, .int (xJ (n : Int)), .double 0, .double 0] [] d e := by
  refine zb_aload (x := 1) rfl rfl ?_
  refine zb_arg (n := n) (j := 1) rfl rfl rfl rfl rfl rfl rfl hS (by omega) ?_
  refine zb_callVi (As := [.int (xJ (scI xs (n + 1)))]) (a := 1) rfl rfl rfl rfl rfl rfl rfl rfl (by decide) (by decide) rfl (by decide) (yC_mono (op_L (by omega) (Oz_Op (op_end (L := L) scI_r hI))) (fun r1 d1 e1 hh => ?_))
  obtain ⟨k2, k1⟩ := hh
  have hS1 := sS_t hS k1
  refine zb_aload (x := 146) rfl rfl ?_
  refine zb_arg (n := n) (j := 1) rfl rfl rfl rfl rfl rfl rfl hS1 (by omega) ?_
  refine zb_callVi (As := [.int (xJ (scI xs (n + 1)))]) (a := 146) rfl rfl rfl rfl rfl rfl rfl rfl (by decide) (by decide) rfl (Nat.le_of_ble_eq_true rfl) (yC_mono k2 (fun r2 d2 e2 hh => ?_))
  obtain ⟨q1, q2, q3⟩ := hh
  exact zb_icmp_eqv (j := 1049) rfl rfl q1 (nx d2 e2 _ (by simp [xe_le]) q2 (sS_t hS1 q3))
theorem cs_2 {n : Nat} (hL : n + 5 ≤ L ∧ L ≤ 2560) (hb : b < 1000000) (hI : Inv iR b d e) (hS : sS xs d) (nx : nxt L xs Q b kc ks n) : zB 200 xm_law Q L kc ks 59 [.ref 0, .ref 1, .ref 146, .ref 177, .int (xJ (n : Int)), .double 0, .double 0] [] d e := by
  refine zb_aload (x := 1) rfl rfl ?_
  refine zb_callVi (As := []) (a := 1) rfl rfl rfl rfl rfl rfl rfl rfl (by decide) (by decide) rfl (by decide) (yC_mono (op_L (by omega) (op_town (L := L) hI)) (fun r1 d1 e1 hh => ?_))
  obtain ⟨k2, k1⟩ := hh
  have hS1 := sS_t hS k1
  refine zb_aload (x := 146) rfl rfl ?_
  refine zb_callVi (As := []) (a := 146) rfl rfl rfl rfl rfl rfl rfl rfl (by decide) (by decide) rfl (Nat.le_of_ble_eq_true rfl) (yC_mono k2 (fun r2 d2 e2 hh => ?_))
  obtain ⟨q1, q2, q3⟩ := hh
  exact zb_icmp_eqv (j := 1049) rfl rfl q1 (nx d2 e2 _ (by simp [xe_le]) q2 (sS_t hS1 q3))
theorem cs_3 {n : Nat} (hL : n + 5 ≤ L ∧ L ≤ 2560) (hb : b < 1000000) (hI : Inv iR b d e) (hS : sS xs d) (nx : nxt L xs Q b kc ks n) : zB 200 xm_law Q L kc ks 66 [.ref 0, .ref 1, .ref 146, .ref 177, .int (xJ (n : Int)), .double 0, .double 0] [] d e := by
  refine zb_aload (x := 1) rfl rfl ?_
  refine zb_arg (n := n) (j := 1) rfl rfl rfl rfl rfl rfl rfl hS (by omega) ?_
  refine zb_callVi (As := [.int (xJ (scI xs (n + 1)))]) (a := 1) rfl rfl rfl rfl rfl rfl rfl rfl (by decide) (by decide) rfl (by decide) (yC_mono (op_L (by omega) (op_trust (L := L) scI_r hI)) (fun r1 d1 e1 hh => ?_))
  obtain ⟨k2, k1⟩ := hh
  have hS1 := sS_t hS k1
  refine zb_aload (x := 146) rfl rfl ?_
  refine zb_arg (n := n) (j := 1) rfl rfl rfl rfl rfl rfl rfl hS1 (by omega) ?_
  refine zb_callVi (As := [.int (xJ (scI xs (n + 1)))]) (a := 146) rfl rfl rfl rfl rfl rfl rfl rfl (by decide) (by decide) rfl (Nat.le_of_ble_eq_true rfl) (yC_mono k2 (fun r2 d2 e2 hh => ?_))
  obtain ⟨q1, q2, q3⟩ := hh
  exact zb_icmp_eqv (j := 1049) rfl rfl q1 (nx d2 e2 _ (by simp [xe_le]) q2 (sS_t hS1 q3))
theorem cs_4 {n : Nat} (hL : n + 5 ≤ L ∧ L ≤ 2560) (hb : b < 1000000) (hI : Inv iR b d e) (hS : sS xs d) (nx : nxt L xs Q b kc ks n) : zB 200 xm_law Q L kc ks 83 [.ref 0, .ref 1, .ref 146, .ref 177, .int (xJ (n : Int)), .double 0, .double 0] [] d e := by
  refine zb_aload (x := 1) rfl rfl ?_
  refine zb_arg (n := n) (j := 1) rfl rfl rfl rfl rfl rfl rfl hS (by omega) ?_
  refine zb_callVi (As := [.int (xJ (scI xs (n + 1)))]) (a := 1) rfl rfl rfl rfl rfl rfl rfl rfl (by decide) (by decide) rfl (by decide) (yC_mono (op_L (by omega) (op_likes (L := L) scI_r hI)) (fun r1 d1 e1 hh => ?_))
  obtain ⟨k2, k1⟩ := hh
  have hS1 := sS_t hS k1
  refine zb_aload (x := 146) rfl rfl ?_
  refine zb_arg (n := n) (j := 1) rfl rfl rfl rfl rfl rfl rfl hS1 (by omega) ?_
  refine zb_callVi (As := [.int (xJ (scI xs (n + 1)))]) (a := 146) rfl rfl rfl rfl rfl rfl rfl rfl (by decide) (by decide) rfl (Nat.le_of_ble_eq_true rfl) (yC_mono k2 (fun r2 d2 e2 hh => ?_))
  obtain ⟨q1, q2, q3⟩ := hh
  exact zb_icmp_eqv (j := 1049) rfl rfl q1 (nx d2 e2 _ (by simp [xe_le]) q2 (sS_t hS1 q3))
theorem cs_5 {n : Nat} (hL : n + 5 ≤ L ∧ L ≤ 2560) (hb : b < 1000000) (hI : Inv iR b d e) (hS : sS xs d) (nx : nxt L xs Q b kc ks n) : zB 200 xm_law Q L kc ks 100 [.ref 0, .ref 1, .ref 146, .ref 177, .int (xJ (n : Int)), .double 0, .double 0] [] d e := by
  refine zb_aload (x := 1) rfl rfl ?_
  refine zb_callVi (As := []) (a := 1) rfl rfl rfl rfl rfl rfl rfl rfl (by decide) (by decide) rfl (by decide) (yC_mono (op_L (by omega) (op_rule (L := L) hI)) (fun r1 d1 e1 hh => ?_))
  obtain ⟨k2, k1⟩ := hh
  have hS1 := sS_t hS k1
  refine zb_aload (x := 146) rfl rfl ?_
  refine zb_callVi (As := []) (a := 146) rfl rfl rfl rfl rfl rfl rfl rfl (by decide) (by decide) rfl (Nat.le_of_ble_eq_true rfl) (yC_mono k2 (fun r2 d2 e2 hh => ?_))
  obtain ⟨q1, q2, q3⟩ := hh
  exact zb_icmp_eqv (j := 1049) rfl rfl q1 (nx d2 e2 _ (by simp [xe_le]) q2 (sS_t hS1 q3))
theorem cs_6 {n : Nat} (hL : n + 5 ≤ L ∧ L ≤ 2560) (hb : b < 1000000) (hk : 1 ≤ kc ∧ 6 ≤ ks) (hI : Inv iR b d e) (hS : sS xs d) (nx : nxt L xs Q b (kc - 1) (ks - 6) n) : zB 200 xm_law Q L kc ks 107 [.ref 0, .ref 1, .ref 146, .ref 177, .int (xJ (n : Int)), .double 0, .double 0] [] d e := by
  refine zb_aload (x := 1) rfl rfl ?_
  refine zb_arg (n := n) (j := 1) rfl rfl rfl rfl rfl rfl rfl hS (by omega) ?_
  refine zb_arg (n := n) (j := 2) rfl rfl rfl rfl rfl rfl rfl hS (by omega) ?_
  refine zb_aload (x := 177) rfl rfl ?_
  refine zb_callW (As := [.ref 1, .int (xJ (scI xs (n + 1))), .int (xJ (scI xs (n + 2))), .ref 177]) rfl rfl rfl rfl rfl rfl rfl rfl (by decide) hk.1 hk.2 (yC_mono (op_W (by omega) (op_of (L := L) scI_r scI_r (by omega) hI)) (fun k0 d1 e1 hh => ?_))
  obtain ⟨k2, k1⟩ := hh
  have hS1 := sS_t hS k1
  refine zb_istore rfl rfl rfl ?_
  refine zb_aload (x := 146) rfl rfl ?_
  refine zb_arg (n := n) (j := 1) rfl rfl rfl rfl rfl rfl rfl hS1 (by omega) ?_
  refine zb_arg (n := n) (j := 2) rfl rfl rfl rfl rfl rfl rfl hS1 (by omega) ?_
  refine zb_callVi (As := [.int (xJ (scI xs (n + 1))), .int (xJ (scI xs (n + 2)))]) (a := 146) rfl rfl rfl rfl rfl rfl rfl rfl (by decide) (by decide) rfl (Nat.le_of_ble_eq_true rfl) (yC_mono k2 (fun r2 d2 e2 hh => ?_))
  obtain ⟨⟨q1, q2, q3, q4⟩, q5⟩ := hh
  refine zb_istore rfl rfl rfl ?_
  refine zb_aload (x := 146) rfl rfl ?_
  refine zb_callVi (As := []) (a := 146) rfl rfl rfl rfl rfl rfl rfl rfl (by decide) (by decide) rfl (Nat.le_of_ble_eq_true rfl) (thr_C q3 ?_)
  refine zb_iload (x := k0) rfl rfl (zb_icmp_eqv (j := 140) rfl rfl rfl ?_)
  have fin : zB 200 xm_law Q L (kc - 1) (ks - 6) 151 [.ref 0, .ref 1, .ref 146, .ref 177, .int (xJ (n : Int)), .int (xJ k0), .int (xJ r2)] [] d2 e2 := zb_goto (j := 1049) rfl rfl (nx d2 e2 _ (by simp [xe_le, xe_lg]) q1 (sS_t hS1 q5))
  refine zb_iload (x := k0) rfl rfl (zb_if_ne (j := 151) rfl rfl (by omega) (fun z => fin) (fun z => ?_))
  refine zb_aload (x := 177) rfl rfl (zb_push rfl (zb_lald (n := 1) rfl Al177 (by decide) (q4 z) (zb_iload (x := r2) rfl rfl (zb_i2l rfl (zb_lcmp rfl (zb_if_eq (x := 0) (j := 151) rfl rfl (by decide) (fun _ => fin) (fun w => absurd rfl w)))))))
theorem cs_7 {n : Nat} (hL : n + 5 ≤ L ∧ L ≤ 2560) (hb : b < 1000000) (hI : Inv iR b d e) (hS : sS xs d) (nx : nxt L xs Q b kc ks n) : zB 200 xm_law Q L kc ks 152 [.ref 0, .ref 1, .ref 146, .ref 177, .int (xJ (n : Int)), .double 0, .double 0] [] d e := by
  refine zb_aload (x := 1) rfl rfl ?_
  refine zb_arg (n := n) (j := 1) rfl rfl rfl rfl rfl rfl rfl hS (by omega) ?_
  refine zb_arg (n := n) (j := 2) rfl rfl rfl rfl rfl rfl rfl hS (by omega) ?_
  refine zb_callVi (As := [.int (xJ (scI xs (n + 1))), .int (xJ (scI xs (n + 2)))]) (a := 1) rfl rfl rfl rfl rfl rfl rfl rfl (by decide) (by decide) rfl (by decide) (yC_mono (op_L (by omega) (op_trusts (L := L) scI_r scI_r hI)) (fun r1 d1 e1 hh => ?_))
  obtain ⟨k2, k1⟩ := hh
  have hS1 := sS_t hS k1
  refine zb_aload (x := 146) rfl rfl ?_
  refine zb_arg (n := n) (j := 1) rfl rfl rfl rfl rfl rfl rfl hS1 (by omega) ?_
  refine zb_arg (n := n) (j := 2) rfl rfl rfl rfl rfl rfl rfl hS1 (by omega) ?_
  refine zb_callVi (As := [.int (xJ (scI xs (n + 1))), .int (xJ (scI xs (n + 2)))]) (a := 146) rfl rfl rfl rfl rfl rfl rfl rfl (by decide) (by decide) rfl (Nat.le_of_ble_eq_true rfl) (yC_mono k2 (fun r2 d2 e2 hh => ?_))
  obtain ⟨q1, q2, q3⟩ := hh
  exact zb_icmp_eqv (j := 1049) rfl rfl q1 (nx d2 e2 _ (by simp [xe_le]) q2 (sS_t hS1 q3))
theorem cs_8 {n : Nat} (hL : n + 5 ≤ L ∧ L ≤ 2560) (hb : b < 1000000) (hI : Inv iR b d e) (hS : sS xs d) (nx : nxt L xs Q b kc ks n) : zB 200 xm_law Q L kc ks 179 [.ref 0, .ref 1, .ref 146, .ref 177, .int (xJ (n : Int)), .double 0, .double 0] [] d e := by
  refine zb_aload (x := 1) rfl rfl ?_
  refine zb_arg (n := n) (j := 1) rfl rfl rfl rfl rfl rfl rfl hS (by omega) ?_
  refine zb_arg (n := n) (j := 2) rfl rfl rfl rfl rfl rfl rfl hS (by omega) ?_
  refine zb_callVi (As := [.int (xJ (scI xs (n + 1))), .int (xJ (scI xs (n + 2)))]) (a := 1) rfl rfl rfl rfl rfl rfl rfl rfl (by decide) (by decide) rfl (by decide) (yC_mono (op_L (by omega) (op_lessons (L := L) scI_r scI_r hI)) (fun r1 d1 e1 hh => ?_))
  obtain ⟨k2, k1⟩ := hh
  have hS1 := sS_t hS k1
  refine zb_aload (x := 146) rfl rfl ?_
  refine zb_arg (n := n) (j := 1) rfl rfl rfl rfl rfl rfl rfl hS1 (by omega) ?_
  refine zb_arg (n := n) (j := 2) rfl rfl rfl rfl rfl rfl rfl hS1 (by omega) ?_
  refine zb_callVi (As := [.int (xJ (scI xs (n + 1))), .int (xJ (scI xs (n + 2)))]) (a := 146) rfl rfl rfl rfl rfl rfl rfl rfl (by decide) (by decide) rfl (Nat.le_of_ble_eq_true rfl) (yC_mono k2 (fun r2 d2 e2 hh => ?_))
  obtain ⟨q1, q2, q3⟩ := hh
  exact zb_icmp_eqv (j := 1049) rfl rfl q1 (nx d2 e2 _ (by simp [xe_le]) q2 (sS_t hS1 q3))
theorem cs_9 {n : Nat} (hL : n + 5 ≤ L ∧ L ≤ 2560) (hb : b < 1000000) (hI : Inv iR b d e) (hS : sS xs d) (nx : nxt L xs Q b kc ks n) : zB 200 xm_law Q L kc ks 206 [.ref 0, .ref 1, .ref 146, .ref 177, .int (xJ (n : Int)), .double 0, .double 0] [] d e := by
  refine zb_aload (x := 1) rfl rfl ?_
  refine zb_arg (n := n) (j := 1) rfl rfl rfl rfl rfl rfl rfl hS (by omega) ?_
  refine zb_arg (n := n) (j := 2) rfl rfl rfl rfl rfl rfl rfl hS (by omega) ?_
  refine zb_arg (n := n) (j := 3) rfl rfl rfl rfl rfl rfl rfl hS (by omega) ?_
  refine zb_callVi (As := [.int (xJ (scI xs (n + 1))), .int (xJ (scI xs (n + 2))), .int (xJ (scI xs (n + 3)))]) (a := 1) rfl rfl rfl rfl rfl rfl rfl rfl (by decide) (by decide) rfl (by decide) (yC_mono (op_L (by omega) (op_set (L := L) scI_r scI_r scI_r hI)) (fun r1 d1 e1 hh => ?_))
  obtain ⟨k2, k1⟩ := hh
  have hS1 := sS_t hS k1
  refine zb_aload (x := 146) rfl rfl ?_
  refine zb_arg (n := n) (j := 1) rfl rfl rfl rfl rfl rfl rfl hS1 (by omega) ?_
  refine zb_arg (n := n) (j := 2) rfl rfl rfl rfl rfl rfl rfl hS1 (by omega) ?_
  refine zb_arg (n := n) (j := 3) rfl rfl rfl rfl rfl rfl rfl hS1 (by omega) ?_
  refine zb_callVi (As := [.int (xJ (scI xs (n + 1))), .int (xJ (scI xs (n + 2))), .int (xJ (scI xs (n + 3)))]) (a := 146) rfl rfl rfl rfl rfl rfl rfl rfl (by decide) (by decide) rfl (Nat.le_of_ble_eq_true rfl) (yC_mono k2 (fun r2 d2 e2 hh => ?_))
  obtain ⟨q1, q2, q3⟩ := hh
  exact zb_icmp_eqv (j := 1049) rfl rfl q1 (nx d2 e2 _ (by simp [xe_le]) q2 (sS_t hS1 q3))
theorem cs_10 {n : Nat} (hL : n + 5 ≤ L ∧ L ≤ 2560) (hb : b < 1000000) (hI : Inv iR b d e) (hS : sS xs d) (nx : nxt L xs Q b kc ks n) : zB 200 xm_law Q L kc ks 243 [.ref 0, .ref 1, .ref 146, .ref 177, .int (xJ (n : Int)), .double 0, .double 0] [] d e := by
  refine zb_aload (x := 1) rfl rfl ?_
  refine zb_arg (n := n) (j := 1) rfl rfl rfl rfl rfl rfl rfl hS (by omega) ?_
  refine zb_arg (n := n) (j := 2) rfl rfl rfl rfl rfl rfl rfl hS (by omega) ?_
  refine zb_arg (n := n) (j := 3) rfl rfl rfl rfl rfl rfl rfl hS (by omega) ?_
  refine zb_arg (n := n) (j := 4) rfl rfl rfl rfl rfl rfl rfl hS (by omega) ?_
  refine zb_callVi (As := [.int (xJ (scI xs (n + 1))), .int (xJ (scI xs (n + 2))), .int (xJ (scI xs (n + 3))), .int (xJ (scI xs (n + 4)))]) (a := 1) rfl rfl rfl rfl rfl rfl rfl rfl (by decide) (by decide) rfl (by decide) (yC_mono (op_L (by omega) (op_sheet (L := L) scI_r scI_r scI_r scI_r hI)) (fun r1 d1 e1 hh => ?_))
  obtain ⟨k2, k1⟩ := hh
  have hS1 := sS_t hS k1
  refine zb_aload (x := 146) rfl rfl ?_
  refine zb_arg (n := n) (j := 1) rfl rfl rfl rfl rfl rfl rfl hS1 (by omega) ?_
  refine zb_arg (n := n) (j := 2) rfl rfl rfl rfl rfl rfl rfl hS1 (by omega) ?_
  refine zb_arg (n := n) (j := 3) rfl rfl rfl rfl rfl rfl rfl hS1 (by omega) ?_
  refine zb_arg (n := n) (j := 4) rfl rfl rfl rfl rfl rfl rfl hS1 (by omega) ?_
  refine zb_callVi (As := [.int (xJ (scI xs (n + 1))), .int (xJ (scI xs (n + 2))), .int (xJ (scI xs (n + 3))), .int (xJ (scI xs (n + 4)))]) (a := 146) rfl rfl rfl rfl rfl rfl rfl rfl (by decide) (by decide) rfl (Nat.le_of_ble_eq_true rfl) (yC_mono k2 (fun r2 d2 e2 hh => ?_))
  obtain ⟨q1, q2, q3⟩ := hh
  exact zb_icmp_eqv (j := 1049) rfl rfl q1 (nx d2 e2 _ (by simp [xe_le]) q2 (sS_t hS1 q3))
theorem cs_11 {n : Nat} (hL : n + 5 ≤ L ∧ L ≤ 2560) (hb : b < 1000000) (hk : 1 ≤ kc ∧ 6 ≤ ks) (hI : Inv iR b d e) (hS : sS xs d) (nx : nxt L xs Q b (kc - 1) (ks - 6) n) : zB 200 xm_law Q L kc ks 290 [.ref 0, .ref 1, .ref 146, .ref 177, .int (xJ (n : Int)), .double 0, .double 0] [] d e := by
  refine zb_aload (x := 1) rfl rfl ?_
  refine zb_arg (n := n) (j := 1) rfl rfl rfl rfl rfl rfl rfl hS (by omega) ?_
  refine zb_arg (n := n) (j := 2) rfl rfl rfl rfl rfl rfl rfl hS (by omega) ?_
  refine zb_aload (x := 177) rfl rfl ?_
  refine zb_callW (As := [.ref 1, .int (xJ (scI xs (n + 1))), .int (xJ (scI xs (n + 2))), .ref 177]) rfl rfl rfl rfl rfl rfl rfl rfl (by decide) hk.1 hk.2 (yC_mono (op_W (by omega) (op_cost (L := L) scI_r scI_r (by omega) hI)) (fun k0 d1 e1 hh => ?_))
  obtain ⟨k2, k1⟩ := hh
  have hS1 := sS_t hS k1
  refine zb_istore rfl rfl rfl ?_
  refine zb_aload (x := 146) rfl rfl ?_
  refine zb_arg (n := n) (j := 1) rfl rfl rfl rfl rfl rfl rfl hS1 (by omega) ?_
  refine zb_arg (n := n) (j := 2) rfl rfl rfl rfl rfl rfl rfl hS1 (by omega) ?_
  refine zb_callVi (As := [.int (xJ (scI xs (n + 1))), .int (xJ (scI xs (n + 2)))]) (a := 146) rfl rfl rfl rfl rfl rfl rfl rfl (by decide) (by decide) rfl (Nat.le_of_ble_eq_true rfl) (yC_mono k2 (fun r2 d2 e2 hh => ?_))
  obtain ⟨⟨q1, q2, q3, q4⟩, q5⟩ := hh
  refine zb_istore rfl rfl rfl ?_
  refine zb_aload (x := 146) rfl rfl ?_
  refine zb_callVi (As := []) (a := 146) rfl rfl rfl rfl rfl rfl rfl rfl (by decide) (by decide) rfl (Nat.le_of_ble_eq_true rfl) (thr_C q3 ?_)
  refine zb_iload (x := k0) rfl rfl (zb_icmp_eqv (j := 323) rfl rfl rfl ?_)
  have fin : zB 200 xm_law Q L (kc - 1) (ks - 6) 334 [.ref 0, .ref 1, .ref 146, .ref 177, .int (xJ (n : Int)), .int (xJ k0), .int (xJ r2)] [] d2 e2 := zb_goto (j := 1049) rfl rfl (nx d2 e2 _ (by simp [xe_le, xe_lg]) q1 (sS_t hS1 q5))
  refine zb_iload (x := k0) rfl rfl (zb_if_ne (j := 334) rfl rfl (by omega) (fun z => fin) (fun z => ?_))
  refine zb_aload (x := 177) rfl rfl (zb_push rfl (zb_lald (n := 1) rfl Al177 (by decide) (q4 z) (zb_iload (x := r2) rfl rfl (zb_i2l rfl (zb_lcmp rfl (zb_if_eq (x := 0) (j := 334) rfl rfl (by decide) (fun _ => fin) (fun w => absurd rfl w)))))))
theorem cs_12 {n : Nat} (hL : n + 5 ≤ L ∧ L ≤ 2560) (hb : b < 1000000) (hI : Inv iR b d e) (hS : sS xs d) (nx : nxt L xs Q b kc ks n) : zB 200 xm_law Q L kc ks 335 [.ref 0, .ref 1, .ref 146, .ref 177, .int (xJ (n : Int)), .double 0, .double 0] [] d e := by
  refine zb_aload (x := 1) rfl rfl ?_
  refine zb_arg (n := n) (j := 1) rfl rfl rfl rfl rfl rfl rfl hS (by omega) ?_
  refine zb_callVi (As := [.int (xJ (scI xs (n + 1)))]) (a := 1) rfl rfl rfl rfl rfl rfl rfl rfl (by decide) (by decide) rfl (by decide) (yC_mono (op_L (by omega) (op_guides (L := L) scI_r hI)) (fun r1 d1 e1 hh => ?_))
  obtain ⟨k2, k1⟩ := hh
  have hS1 := sS_t hS k1
  refine zb_aload (x := 146) rfl rfl ?_
  refine zb_arg (n := n) (j := 1) rfl rfl rfl rfl rfl rfl rfl hS1 (by omega) ?_
  refine zb_callVi (As := [.int (xJ (scI xs (n + 1)))]) (a := 146) rfl rfl rfl rfl rfl rfl rfl rfl (by decide) (by decide) rfl (Nat.le_of_ble_eq_true rfl) (yC_mono k2 (fun r2 d2 e2 hh => ?_))
  obtain ⟨q1, q2, q3⟩ := hh
  exact zb_icmp_eqv (j := 1049) rfl rfl q1 (nx d2 e2 _ (by simp [xe_le]) q2 (sS_t hS1 q3))
theorem cs_13 {n : Nat} (hL : n + 5 ≤ L ∧ L ≤ 2560) (hb : b < 1000000) (hI : Inv iR b d e) (hS : sS xs d) (nx : nxt L xs Q b kc ks n) : zB 200 xm_law Q L kc ks 352 [.ref 0, .ref 1, .ref 146, .ref 177, .int (xJ (n : Int)), .double 0, .double 0] [] d e := by
  refine zb_aload (x := 1) rfl rfl ?_
  refine zb_arg (n := n) (j := 1) rfl rfl rfl rfl rfl rfl rfl hS (by omega) ?_
  refine zb_callVi (As := [.int (xJ (scI xs (n + 1)))]) (a := 1) rfl rfl rfl rfl rfl rfl rfl rfl (by decide) (by decide) rfl (by decide) (yC_mono (op_L (by omega) (op_lonely (L := L) scI_r hI)) (fun r1 d1 e1 hh => ?_))
  obtain ⟨k2, k1⟩ := hh
  have hS1 := sS_t hS k1
  refine zb_aload (x := 146) rfl rfl ?_
  refine zb_arg (n := n) (j := 1) rfl rfl rfl rfl rfl rfl rfl hS1 (by omega) ?_
  refine zb_callVi (As := [.int (xJ (scI xs (n + 1)))]) (a := 146) rfl rfl rfl rfl rfl rfl rfl rfl (by decide) (by decide) rfl (Nat.le_of_ble_eq_true rfl) (yC_mono k2 (fun r2 d2 e2 hh => ?_))
  obtain ⟨q1, q2, q3⟩ := hh
  exact zb_icmp_eqv (j := 1049) rfl rfl q1 (nx d2 e2 _ (by simp [xe_le]) q2 (sS_t hS1 q3))
theorem cs_14 {n : Nat} (hL : n + 5 ≤ L ∧ L ≤ 2560) (hb : b < 1000000) (hI : Inv iR b d e) (hS : sS xs d) (nx : nxt L xs Q b kc ks n) : zB 200 xm_law Q L kc ks 369 [.ref 0, .ref 1, .ref 146, .ref 177, .int (xJ (n : Int)), .double 0, .double 0] [] d e := by
  refine zb_aload (x := 1) rfl rfl ?_
  refine zb_callVi (As := []) (a := 1) rfl rfl rfl rfl rfl rfl rfl rfl (by decide) (by decide) rfl (by decide) (yC_mono (op_L (by omega) (op_hardest (L := L) (by omega) hI)) (fun r1 d1 e1 hh => ?_))
  obtain ⟨k2, k1⟩ := hh
  have hS1 := sS_t hS k1
  refine zb_aload (x := 146) rfl rfl ?_
  refine zb_callVi (As := []) (a := 146) rfl rfl rfl rfl rfl rfl rfl rfl (by decide) (by decide) rfl (Nat.le_of_ble_eq_true rfl) (yC_mono k2 (fun r2 d2 e2 hh => ?_))
  obtain ⟨q1, q2, q3⟩ := hh
  exact zb_icmp_eqv (j := 1049) rfl rfl q1 (nx d2 e2 _ (by simp [xe_le]) q2 (sS_t hS1 q3))
theorem cs_15 {n : Nat} (hL : n + 5 ≤ L ∧ L ≤ 2560) (hb : b < 1000000) (hI : Inv iR b d e) (hS : sS xs d) (nx : nxt L xs Q b kc ks n) : zB 200 xm_law Q L kc ks 376 [.ref 0, .ref 1, .ref 146, .ref 177, .int (xJ (n : Int)), .double 0, .double 0] [] d e := by
  refine zb_aload (x := 1) rfl rfl ?_
  refine zb_callVi (As := []) (a := 1) rfl rfl rfl rfl rfl rfl rfl rfl (by decide) (by decide) rfl (by decide) (yC_mono (op_L (by omega) (op_day (L := L) (by omega) hI)) (fun r1 d1 e1 hh => ?_))
  obtain ⟨k2, k1⟩ := hh
  have hS1 := sS_t hS k1
  refine zb_aload (x := 146) rfl rfl ?_
  refine zb_callVi (As := []) (a := 146) rfl rfl rfl rfl rfl rfl rfl rfl (by decide) (by decide) rfl (Nat.le_of_ble_eq_true rfl) (yC_mono k2 (fun r2 d2 e2 hh => ?_))
  obtain ⟨q1, q2, q3⟩ := hh
  exact zb_icmp_eqv (j := 1049) rfl rfl q1 (nx d2 e2 _ (by simp [xe_le]) q2 (sS_t hS1 q3))
theorem cs_16 {n : Nat} (hL : n + 5 ≤ L ∧ L ≤ 2560) (hb : b < 1000000) (hI : Inv iR b d e) (hS : sS xs d) (nx : nxt L xs Q b kc ks n) : zB 200 xm_law Q L kc ks 383 [.ref 0, .ref 1, .ref 146, .ref 177, .int (xJ (n : Int)), .double 0, .double 0] [] d e := by
  refine zb_aload (x := 1) rfl rfl ?_
  refine zb_arg (n := n) (j := 1) rfl rfl rfl rfl rfl rfl rfl hS (by omega) ?_
  refine zb_callVi (As := [.int (xJ (scI xs (n + 1)))]) (a := 1) rfl rfl rfl rfl rfl rfl rfl rfl (by decide) (by decide) rfl (by decide) (yC_mono (op_L (by omega) (op_days (L := L) scI_r (by omega) hI)) (fun r1 d1 e1 hh => ?_))
  obtain ⟨k2, k1⟩ := hh
  have hS1 := sS_t hS k1
  refine zb_aload (x := 146) rfl rfl ?_
  refine zb_arg (n := n) (j := 1) rfl rfl rfl rfl rfl rfl rfl hS1 (by omega) ?_
  refine zb_callVi (As := [.int (xJ (scI xs (n + 1)))]) (a := 146) rfl rfl rfl rfl rfl rfl rfl rfl (by decide) (by decide) rfl (Nat.le_of_ble_eq_true rfl) (yC_mono k2 (fun r2 d2 e2 hh => ?_))
  obtain ⟨q1, q2, q3⟩ := hh
  exact zb_icmp_eqv (j := 1049) rfl rfl q1 (nx d2 e2 _ (by simp [xe_le]) q2 (sS_t hS1 q3))
theorem cs_17 {n : Nat} (hL : n + 5 ≤ L ∧ L ≤ 2560) (hb : b < 1000000) (hI : Inv iR b d e) (hS : sS xs d) (nx : nxt L xs Q b kc ks n) : zB 200 xm_law Q L kc ks 400 [.ref 0, .ref 1, .ref 146, .ref 177, .int (xJ (n : Int)), .double 0, .double 0] [] d e := by
  refine zb_aload (x := 1) rfl rfl ?_
  refine zb_callVi (As := []) (a := 1) rfl rfl rfl rfl rfl rfl rfl rfl (by decide) (by decide) rfl (by decide) (yC_mono (op_L (by omega) (op_season (L := L) (by omega) hI)) (fun r1 d1 e1 hh => ?_))
  obtain ⟨k2, k1⟩ := hh
  have hS1 := sS_t hS k1
  refine zb_aload (x := 146) rfl rfl ?_
  refine zb_callVi (As := []) (a := 146) rfl rfl rfl rfl rfl rfl rfl rfl (by decide) (by decide) rfl (Nat.le_of_ble_eq_true rfl) (yC_mono k2 (fun r2 d2 e2 hh => ?_))
  obtain ⟨q1, q2, q3⟩ := hh
  exact zb_icmp_eqv (j := 1049) rfl rfl q1 (nx d2 e2 _ (by simp [xe_le]) q2 (sS_t hS1 q3))
theorem cs_18 {n : Nat} (hL : n + 5 ≤ L ∧ L ≤ 2560) (hb : b < 1000000) (hI : Inv iR b d e) (hS : sS xs d) (nx : nxt L xs Q b kc ks n) : zB 200 xm_law Q L kc ks 407 [.ref 0, .ref 1, .ref 146, .ref 177, .int (xJ (n : Int)), .double 0, .double 0] [] d e := by
  refine zb_aload (x := 1) rfl rfl ?_
  refine zb_callVi (As := []) (a := 1) rfl rfl rfl rfl rfl rfl rfl rfl (by decide) (by decide) rfl (by decide) (yC_mono (op_L (by omega) (op_undo (L := L) hI)) (fun r1 d1 e1 hh => ?_))
  obtain ⟨k2, k1⟩ := hh
  have hS1 := sS_t hS k1
  refine zb_aload (x := 146) rfl rfl ?_
  refine zb_callVi (As := []) (a := 146) rfl rfl rfl rfl rfl rfl rfl rfl (by decide) (by decide) rfl (Nat.le_of_ble_eq_true rfl) (yC_mono k2 (fun r2 d2 e2 hh => ?_))
  obtain ⟨q1, q2, q3⟩ := hh
  exact zb_icmp_eqv (j := 1049) rfl rfl q1 (nx d2 e2 _ (by simp [xe_le]) q2 (sS_t hS1 q3))
theorem cs_19 {n : Nat} (hL : n + 5 ≤ L ∧ L ≤ 2560) (hb : b < 1000000) (hI : Inv iR b d e) (hS : sS xs d) (nx : nxt L xs Q b kc ks n) : zB 200 xm_law Q L kc ks 414 [.ref 0, .ref 1, .ref 146, .ref 177, .int (xJ (n : Int)), .double 0, .double 0] [] d e := by
  refine zb_aload (x := 1) rfl rfl ?_
  refine zb_arg (n := n) (j := 1) rfl rfl rfl rfl rfl rfl rfl hS (by omega) ?_
  refine zb_arg (n := n) (j := 2) rfl rfl rfl rfl rfl rfl rfl hS (by omega) ?_
  refine zb_callVi (As := [.int (xJ (scI xs (n + 1))), .int (xJ (scI xs (n + 2)))]) (a := 1) rfl rfl rfl rfl rfl rfl rfl rfl (by decide) (by decide) rfl (by decide) (yC_mono (op_L (by omega) (op_led (L := L) scI_r scI_r (by omega) hI)) (fun r1 d1 e1 hh => ?_))
  obtain ⟨k2, k1⟩ := hh
  have hS1 := sS_t hS k1
  refine zb_aload (x := 146) rfl rfl ?_
  refine zb_arg (n := n) (j := 1) rfl rfl rfl rfl rfl rfl rfl hS1 (by omega) ?_
  refine zb_arg (n := n) (j := 2) rfl rfl rfl rfl rfl rfl rfl hS1 (by omega) ?_
  refine zb_callVi (As := [.int (xJ (scI xs (n + 1))), .int (xJ (scI xs (n + 2)))]) (a := 146) rfl rfl rfl rfl rfl rfl rfl rfl (by decide) (by decide) rfl (Nat.le_of_ble_eq_true rfl) (yC_mono k2 (fun r2 d2 e2 hh => ?_))
  obtain ⟨q1, q2, q3⟩ := hh
  exact zb_icmp_eqv (j := 1049) rfl rfl q1 (nx d2 e2 _ (by simp [xe_le]) q2 (sS_t hS1 q3))
set_option maxRecDepth 100000 in
theorem cs_20 {n : Nat} (hL : n + 5 ≤ L ∧ L ≤ 2560) (hb : b < 1000000) (hI : Inv iR b d e) (hS : sS xs d) (nx : nxt L xs Q b kc ks n) : zB 200 xm_law Q L kc ks 441 [.ref 0, .ref 1, .ref 146, .ref 177, .int (xJ (n : Int)), .double 0, .double 0] [] d e := by
  refine zb_aload (x := 1) rfl rfl ?_
  refine zb_arg (n := n) (j := 1) rfl rfl rfl rfl rfl rfl rfl hS (by omega) ?_
  refine zb_callVi (As := [.int (xJ (scI xs (n + 1)))]) (a := 1) rfl rfl rfl rfl rfl rfl rfl rfl (by decide) (by decide) rfl (by decide) (yC_mono (op_L (by omega) (op_leads (L := L) scI_r (by omega) hI)) (fun r1 d1 e1 hh => ?_))
  obtain ⟨k2, k1⟩ := hh
  have hS1 := sS_t hS k1
  refine zb_aload (x := 146) rfl rfl ?_
  refine zb_arg (n := n) (j := 1) rfl rfl rfl rfl rfl rfl rfl hS1 (by omega) ?_
  refine zb_callVi (As := [.int (xJ (scI xs (n + 1)))]) (a := 146) rfl rfl rfl rfl rfl rfl rfl rfl (by decide) (by decide) rfl (Nat.le_of_ble_eq_true rfl) (yC_mono k2 (fun r2 d2 e2 hh => ?_))
  obtain ⟨q1, q2, q3⟩ := hh
  exact zb_icmp_eqv (j := 1049) rfl rfl q1 (nx d2 e2 _ (by simp [xe_le]) q2 (sS_t hS1 q3))
set_option maxRecDepth 100000 in
theorem cs_21 {n : Nat} (hL : n + 5 ≤ L ∧ L ≤ 2560) (hb : b < 1000000) (hI : Inv iR b d e) (hS : sS xs d) (nx : nxt L xs Q b kc ks n) : zB 200 xm_law Q L kc ks 458 [.ref 0, .ref 1, .ref 146, .ref 177, .int (xJ (n : Int)), .double 0, .double 0] [] d e := by
  refine zb_aload (x := 1) rfl rfl ?_
  refine zb_arg (n := n) (j := 1) rfl rfl rfl rfl rfl rfl rfl hS (by omega) ?_
  refine zb_callVi (As := [.int (xJ (scI xs (n + 1)))]) (a := 1) rfl rfl rfl rfl rfl rfl rfl rfl (by decide) (by decide) rfl (by decide) (yC_mono (op_L (by omega) (op_ahead (L := L) scI_r (by omega) hI)) (fun r1 d1 e1 hh => ?_))
  obtain ⟨k2, k1⟩ := hh
  have hS1 := sS_t hS k1
  refine zb_aload (x := 146) rfl rfl ?_
  refine zb_arg (n := n) (j := 1) rfl rfl rfl rfl rfl rfl rfl hS1 (by omega) ?_
  refine zb_callVi (As := [.int (xJ (scI xs (n + 1)))]) (a := 146) rfl rfl rfl rfl rfl rfl rfl rfl (by decide) (by decide) rfl (Nat.le_of_ble_eq_true rfl) (yC_mono k2 (fun r2 d2 e2 hh => ?_))
  obtain ⟨q1, q2, q3⟩ := hh
  exact zb_icmp_eqv (j := 1049) rfl rfl q1 (nx d2 e2 _ (by simp [xe_le]) q2 (sS_t hS1 q3))
set_option maxRecDepth 100000 in
theorem cs_22 {n : Nat} (hL : n + 5 ≤ L ∧ L ≤ 2560) (hb : b < 1000000) (hI : Inv iR b d e) (hS : sS xs d) (nx : nxt L xs Q b kc ks n) : zB 200 xm_law Q L kc ks 475 [.ref 0, .ref 1, .ref 146, .ref 177, .int (xJ (n : Int)), .double 0, .double 0] [] d e := by
  refine zb_aload (x := 1) rfl rfl ?_
  refine zb_arg (n := n) (j := 1) rfl rfl rfl rfl rfl rfl rfl hS (by omega) ?_
  refine zb_arg (n := n) (j := 2) rfl rfl rfl rfl rfl rfl rfl hS (by omega) ?_
  refine zb_callVi (As := [.int (xJ (scI xs (n + 1))), .int (xJ (scI xs (n + 2)))]) (a := 1) rfl rfl rfl rfl rfl rfl rfl rfl (by decide) (by decide) rfl (by decide) (yC_mono (op_L (by omega) (op_learns (L := L) scI_r scI_r (by omega) hI)) (fun r1 d1 e1 hh => ?_))
  obtain ⟨k2, k1⟩ := hh
  have hS1 := sS_t hS k1
  refine zb_aload (x := 146) rfl rfl ?_
  refine zb_arg (n := n) (j := 1) rfl rfl rfl rfl rfl rfl rfl hS1 (by omega) ?_
  refine zb_arg (n := n) (j := 2) rfl rfl rfl rfl rfl rfl rfl hS1 (by omega) ?_
  refine zb_callVi (As := [.int (xJ (scI xs (n + 1))), .int (xJ (scI xs (n + 2)))]) (a := 146) rfl rfl rfl rfl rfl rfl rfl rfl (by decide) (by decide) rfl (Nat.le_of_ble_eq_true rfl) (yC_mono k2 (fun r2 d2 e2 hh => ?_))
  obtain ⟨q1, q2, q3⟩ := hh
  exact zb_icmp_eqv (j := 1049) rfl rfl q1 (nx d2 e2 _ (by simp [xe_le]) q2 (sS_t hS1 q3))
set_option maxRecDepth 100000 in
theorem cs_23 {n : Nat} (hL : n + 5 ≤ L ∧ L ≤ 2560) (hb : b < 1000000) (hI : Inv iR b d e) (hS : sS xs d) (nx : nxt L xs Q b kc ks n) : zB 200 xm_law Q L kc ks 502 [.ref 0, .ref 1, .ref 146, .ref 177, .int (xJ (n : Int)), .double 0, .double 0] [] d e := by
  refine zb_aload (x := 1) rfl rfl ?_
  refine zb_arg (n := n) (j := 1) rfl rfl rfl rfl rfl rfl rfl hS (by omega) ?_
  refine zb_arg (n := n) (j := 2) rfl rfl rfl rfl rfl rfl rfl hS (by omega) ?_
  refine zb_callVi (As := [.int (xJ (scI xs (n + 1))), .int (xJ (scI xs (n + 2)))]) (a := 1) rfl rfl rfl rfl rfl rfl rfl rfl (by decide) (by decide) rfl (by decide) (yC_mono (op_L (by omega) (op_task (L := L) scI_r scI_r hI)) (fun r1 d1 e1 hh => ?_))
  obtain ⟨k2, k1⟩ := hh
  have hS1 := sS_t hS k1
  refine zb_aload (x := 146) rfl rfl ?_
  refine zb_arg (n := n) (j := 1) rfl rfl rfl rfl rfl rfl rfl hS1 (by omega) ?_
  refine zb_arg (n := n) (j := 2) rfl rfl rfl rfl rfl rfl rfl hS1 (by omega) ?_
  refine zb_callVi (As := [.int (xJ (scI xs (n + 1))), .int (xJ (scI xs (n + 2)))]) (a := 146) rfl rfl rfl rfl rfl rfl rfl rfl (by decide) (by decide) rfl (Nat.le_of_ble_eq_true rfl) (yC_mono k2 (fun r2 d2 e2 hh => ?_))
  obtain ⟨q1, q2, q3⟩ := hh
  exact zb_icmp_eqv (j := 1049) rfl rfl q1 (nx d2 e2 _ (by simp [xe_le]) q2 (sS_t hS1 q3))
set_option maxRecDepth 100000 in
theorem cs_24 {n : Nat} (hL : n + 5 ≤ L ∧ L ≤ 2560) (hb : b < 1000000) (hI : Inv iR b d e) (hS : sS xs d) (nx : nxt L xs Q b kc ks n) : zB 200 xm_law Q L kc ks 529 [.ref 0, .ref 1, .ref 146, .ref 177, .int (xJ (n : Int)), .double 0, .double 0] [] d e := by
  refine zb_aload (x := 1) rfl rfl ?_
  refine zb_callVi (As := []) (a := 1) rfl rfl rfl rfl rfl rfl rfl rfl (by decide) (by decide) rfl (by decide) (yC_mono (op_L (by omega) (op_done (L := L) hI)) (fun r1 d1 e1 hh => ?_))
  obtain ⟨k2, k1⟩ := hh
  have hS1 := sS_t hS k1
  refine zb_aload (x := 146) rfl rfl ?_
  refine zb_callVi (As := []) (a := 146) rfl rfl rfl rfl rfl rfl rfl rfl (by decide) (by decide) rfl (Nat.le_of_ble_eq_true rfl) (yC_mono k2 (fun r2 d2 e2 hh => ?_))
  obtain ⟨q1, q2, q3⟩ := hh
  exact zb_icmp_eqv (j := 1049) rfl rfl q1 (nx d2 e2 _ (by simp [xe_le]) q2 (sS_t hS1 q3))
set_option maxRecDepth 100000 in
theorem cs_25 {n : Nat} (hL : n + 5 ≤ L ∧ L ≤ 2560) (hb : b < 1000000) (hI : Inv iR b d e) (hS : sS xs d) (nx : nxt L xs Q b kc ks n) : zB 200 xm_law Q L kc ks 536 [.ref 0, .ref 1, .ref 146, .ref 177, .int (xJ (n : Int)), .double 0, .double 0] [] d e := by
  refine zb_aload (x := 1) rfl rfl ?_
  refine zb_arg (n := n) (j := 1) rfl rfl rfl rfl rfl rfl rfl hS (by omega) ?_
  refine zb_callVi (As := [.int (xJ (scI xs (n + 1)))]) (a := 1) rfl rfl rfl rfl rfl rfl rfl rfl (by decide) (by decide) rfl (by decide) (yC_mono (op_L (by omega) (op_manned (L := L) scI_r hI)) (fun r1 d1 e1 hh => ?_))
  obtain ⟨k2, k1⟩ := hh
  have hS1 := sS_t hS k1
  refine zb_aload (x := 146) rfl rfl ?_
  refine zb_arg (n := n) (j := 1) rfl rfl rfl rfl rfl rfl rfl hS1 (by omega) ?_
  refine zb_callVi (As := [.int (xJ (scI xs (n + 1)))]) (a := 146) rfl rfl rfl rfl rfl rfl rfl rfl (by decide) (by decide) rfl (Nat.le_of_ble_eq_true rfl) (yC_mono k2 (fun r2 d2 e2 hh => ?_))
  obtain ⟨q1, q2, q3⟩ := hh
  exact zb_icmp_eqv (j := 1049) rfl rfl q1 (nx d2 e2 _ (by simp [xe_le]) q2 (sS_t hS1 q3))
set_option maxRecDepth 100000 in
theorem cs_26 {n : Nat} (hL : n + 5 ≤ L ∧ L ≤ 2560) (hb : b < 1000000) (hI : Inv iR b d e) (hS : sS xs d) (nx : nxt L xs Q b kc ks n) : zB 200 xm_law Q L kc ks 553 [.ref 0, .ref 1, .ref 146, .ref 177, .int (xJ (n : Int)), .double 0, .double 0] [] d e := by
  refine zb_aload (x := 1) rfl rfl ?_
  refine zb_callVi (As := []) (a := 1) rfl rfl rfl rfl rfl rfl rfl rfl (by decide) (by decide) rfl (by decide) (yC_mono (op_L (by omega) (op_bare (L := L) hI)) (fun r1 d1 e1 hh => ?_))
  obtain ⟨k2, k1⟩ := hh
  have hS1 := sS_t hS k1
  refine zb_aload (x := 146) rfl rfl ?_
  refine zb_callVi (As := []) (a := 146) rfl rfl rfl rfl rfl rfl rfl rfl (by decide) (by decide) rfl (Nat.le_of_ble_eq_true rfl) (yC_mono k2 (fun r2 d2 e2 hh => ?_))
  obtain ⟨q1, q2, q3⟩ := hh
  exact zb_icmp_eqv (j := 1049) rfl rfl q1 (nx d2 e2 _ (by simp [xe_le]) q2 (sS_t hS1 q3))
set_option maxRecDepth 100000 in
theorem cs_27 {n : Nat} (hL : n + 5 ≤ L ∧ L ≤ 2560) (hb : b < 1000000) (hI : Inv iR b d e) (hS : sS xs d) (nx : nxt L xs Q b kc ks n) : zB 200 xm_law Q L kc ks 560 [.ref 0, .ref 1, .ref 146, .ref 177, .int (xJ (n : Int)), .double 0, .double 0] [] d e := by
  refine zb_aload (x := 1) rfl rfl ?_
  refine zb_callVi (As := []) (a := 1) rfl rfl rfl rfl rfl rfl rfl rfl (by decide) (by decide) rfl (by decide) (yC_mono (op_L (by omega) (op_blindest (L := L) hI)) (fun r1 d1 e1 hh => ?_))
  obtain ⟨k2, k1⟩ := hh
  have hS1 := sS_t hS k1
  refine zb_aload (x := 146) rfl rfl ?_
  refine zb_callVi (As := []) (a := 146) rfl rfl rfl rfl rfl rfl rfl rfl (by decide) (by decide) rfl (Nat.le_of_ble_eq_true rfl) (yC_mono k2 (fun r2 d2 e2 hh => ?_))
  obtain ⟨q1, q2, q3⟩ := hh
  exact zb_icmp_eqv (j := 1049) rfl rfl q1 (nx d2 e2 _ (by simp [xe_le]) q2 (sS_t hS1 q3))
set_option maxRecDepth 100000 in
theorem cs_28 {n : Nat} (hL : n + 5 ≤ L ∧ L ≤ 2560) (hb : b < 1000000) (hI : Inv iR b d e) (hS : sS xs d) (nx : nxt L xs Q b kc ks n) : zB 200 xm_law Q L kc ks 567 [.ref 0, .ref 1, .ref 146, .ref 177, .int (xJ (n : Int)), .double 0, .double 0] [] d e := by
  refine zb_aload (x := 1) rfl rfl ?_
  refine zb_callVi (As := []) (a := 1) rfl rfl rfl rfl rfl rfl rfl rfl (by decide) (by decide) rfl (by decide) (yC_mono (op_L (by omega) (op_mends (L := L) hI)) (fun r1 d1 e1 hh => ?_))
  obtain ⟨k2, k1⟩ := hh
  have hS1 := sS_t hS k1
  refine zb_aload (x := 146) rfl rfl ?_
  refine zb_callVi (As := []) (a := 146) rfl rfl rfl rfl rfl rfl rfl rfl (by decide) (by decide) rfl (Nat.le_of_ble_eq_true rfl) (yC_mono k2 (fun r2 d2 e2 hh => ?_))
  obtain ⟨q1, q2, q3⟩ := hh
  exact zb_icmp_eqv (j := 1049) rfl rfl q1 (nx d2 e2 _ (by simp [xe_le]) q2 (sS_t hS1 q3))
set_option maxRecDepth 100000 in
theorem cs_29 {n : Nat} (hL : n + 5 ≤ L ∧ L ≤ 2560) (hb : b < 1000000) (hI : Inv iR b d e) (hS : sS xs d) (nx : nxt L xs Q b kc ks n) : zB 200 xm_law Q L kc ks 574 [.ref 0, .ref 1, .ref 146, .ref 177, .int (xJ (n : Int)), .double 0, .double 0] [] d e := by
  refine zb_aload (x := 1) rfl rfl ?_
  refine zb_callVi (As := []) (a := 1) rfl rfl rfl rfl rfl rfl rfl rfl (by decide) (by decide) rfl (by decide) (yC_mono (op_L (by omega) (op_mend (L := L) hI)) (fun r1 d1 e1 hh => ?_))
  obtain ⟨k2, k1⟩ := hh
  have hS1 := sS_t hS k1
  refine zb_aload (x := 146) rfl rfl ?_
  refine zb_callVi (As := []) (a := 146) rfl rfl rfl rfl rfl rfl rfl rfl (by decide) (by decide) rfl (Nat.le_of_ble_eq_true rfl) (yC_mono k2 (fun r2 d2 e2 hh => ?_))
  obtain ⟨q1, q2, q3⟩ := hh
  exact zb_icmp_eqv (j := 1049) rfl rfl q1 (nx d2 e2 _ (by simp [xe_le]) q2 (sS_t hS1 q3))
set_option maxRecDepth 100000 in
theorem cs_30 {n : Nat} (hL : n + 5 ≤ L ∧ L ≤ 2560) (hb : b < 1000000) (hI : Inv iR b d e) (hS : sS xs d) (nx : nxt L xs Q b kc ks n) : zB 200 xm_law Q L kc ks 581 [.ref 0, .ref 1, .ref 146, .ref 177, .int (xJ (n : Int)), .double 0, .double 0] [] d e := by
  refine zb_aload (x := 1) rfl rfl ?_
  refine zb_arg (n := n) (j := 1) rfl rfl rfl rfl rfl rfl rfl hS (by omega) ?_
  refine zb_callVi (As := [.int (xJ (scI xs (n + 1)))]) (a := 1) rfl rfl rfl rfl rfl rfl rfl rfl (by decide) (by decide) rfl (by decide) (yC_mono (op_L (by omega) (op_newcomer (L := L) scI_r hI)) (fun r1 d1 e1 hh => ?_))
  obtain ⟨k2, k1⟩ := hh
  have hS1 := sS_t hS k1
  refine zb_aload (x := 146) rfl rfl ?_
  refine zb_arg (n := n) (j := 1) rfl rfl rfl rfl rfl rfl rfl hS1 (by omega) ?_
  refine zb_callVi (As := [.int (xJ (scI xs (n + 1)))]) (a := 146) rfl rfl rfl rfl rfl rfl rfl rfl (by decide) (by decide) rfl (Nat.le_of_ble_eq_true rfl) (yC_mono k2 (fun r2 d2 e2 hh => ?_))
  obtain ⟨q1, q2, q3⟩ := hh
  exact zb_icmp_eqv (j := 1049) rfl rfl q1 (nx d2 e2 _ (by simp [xe_le]) q2 (sS_t hS1 q3))
set_option maxRecDepth 100000 in
theorem cs_31 {n : Nat} (hL : n + 5 ≤ L ∧ L ≤ 2560) (hb : b < 1000000) (hI : Inv iR b d e) (hS : sS xs d) (nx : nxt L xs Q b kc ks n) : zB 200 xm_law Q L kc ks 598 [.ref 0, .ref 1, .ref 146, .ref 177, .int (xJ (n : Int)), .double 0, .double 0] [] d e := by
  refine zb_aload (x := 1) rfl rfl ?_
  refine zb_callVi (As := []) (a := 1) rfl rfl rfl rfl rfl rfl rfl rfl (by decide) (by decide) rfl (by decide) (yC_mono (op_L (by omega) (op_needed (L := L) hI)) (fun r1 d1 e1 hh => ?_))
  obtain ⟨k2, k1⟩ := hh
  have hS1 := sS_t hS k1
  refine zb_aload (x := 146) rfl rfl ?_
  refine zb_callVi (As := []) (a := 146) rfl rfl rfl rfl rfl rfl rfl rfl (by decide) (by decide) rfl (Nat.le_of_ble_eq_true rfl) (yC_mono k2 (fun r2 d2 e2 hh => ?_))
  obtain ⟨q1, q2, q3⟩ := hh
  exact zb_icmp_eqv (j := 1049) rfl rfl q1 (nx d2 e2 _ (by simp [xe_le]) q2 (sS_t hS1 q3))
set_option maxRecDepth 100000 in
theorem cs_32 {n : Nat} (hL : n + 5 ≤ L ∧ L ≤ 2560) (hb : b < 1000000) (hk : 1 ≤ kc ∧ 6 ≤ ks) (hI : Inv iR b d e) (hS : sS xs d) (nx : nxt L xs Q b (kc - 1) (ks - 6) n) : zB 200 xm_law Q L kc ks 605 [.ref 0, .ref 1, .ref 146, .ref 177, .int (xJ (n : Int)), .double 0, .double 0] [] d e := by
  refine zb_aload (x := 1) rfl rfl ?_
  refine zb_arg (n := n) (j := 1) rfl rfl rfl rfl rfl rfl rfl hS (by omega) ?_
  refine zb_arg (n := n) (j := 2) rfl rfl rfl rfl rfl rfl rfl hS (by omega) ?_
  refine zb_aload (x := 177) rfl rfl ?_
  refine zb_callW (As := [.ref 1, .int (xJ (scI xs (n + 1))), .int (xJ (scI xs (n + 2))), .ref 177]) rfl rfl rfl rfl rfl rfl rfl rfl (by decide) hk.1 hk.2 (yC_mono (op_W (by omega) (op_gain (L := L) scI_r scI_r hI)) (fun k0 d1 e1 hh => ?_))
  obtain ⟨k2, k1⟩ := hh
  have hS1 := sS_t hS k1
  refine zb_istore rfl rfl rfl ?_
  refine zb_aload (x := 146) rfl rfl ?_
  refine zb_arg (n := n) (j := 1) rfl rfl rfl rfl rfl rfl rfl hS1 (by omega) ?_
  refine zb_arg (n := n) (j := 2) rfl rfl rfl rfl rfl rfl rfl hS1 (by omega) ?_
  refine zb_callVi (As := [.int (xJ (scI xs (n + 1))), .int (xJ (scI xs (n + 2)))]) (a := 146) rfl rfl rfl rfl rfl rfl rfl rfl (by decide) (by decide) rfl (Nat.le_of_ble_eq_true rfl) (yC_mono k2 (fun r2 d2 e2 hh => ?_))
  obtain ⟨⟨q1, q2, q3, q4⟩, q5⟩ := hh
  refine zb_istore rfl rfl rfl ?_
  refine zb_aload (x := 146) rfl rfl ?_
  refine zb_callVi (As := []) (a := 146) rfl rfl rfl rfl rfl rfl rfl rfl (by decide) (by decide) rfl (Nat.le_of_ble_eq_true rfl) (thr_C q3 ?_)
  refine zb_iload (x := k0) rfl rfl (zb_icmp_eqv (j := 638) rfl rfl rfl ?_)
  have fin : zB 200 xm_law Q L (kc - 1) (ks - 6) 649 [.ref 0, .ref 1, .ref 146, .ref 177, .int (xJ (n : Int)), .int (xJ k0), .int (xJ r2)] [] d2 e2 := zb_goto (j := 1049) rfl rfl (nx d2 e2 _ (by simp [xe_le, xe_lg]) q1 (sS_t hS1 q5))
  refine zb_iload (x := k0) rfl rfl (zb_if_ne (j := 649) rfl rfl (by omega) (fun z => fin) (fun z => ?_))
  refine zb_aload (x := 177) rfl rfl (zb_push rfl (zb_lald (n := 1) rfl Al177 (by decide) (q4 z) (zb_iload (x := r2) rfl rfl (zb_i2l rfl (zb_lcmp rfl (zb_if_eq (x := 0) (j := 649) rfl rfl (by decide) (fun _ => fin) (fun w => absurd rfl w)))))))
set_option maxRecDepth 100000 in
theorem cs_33 {n : Nat} (hL : n + 5 ≤ L ∧ L ≤ 2560) (hb : b < 1000000) (hI : Inv iR b d e) (hS : sS xs d) (nx : nxt L xs Q b kc ks n) : zB 200 xm_law Q L kc ks 650 [.ref 0, .ref 1, .ref 146, .ref 177, .int (xJ (n : Int)), .double 0, .double 0] [] d e := by
  refine zb_aload (x := 1) rfl rfl ?_
  refine zb_arg (n := n) (j := 1) rfl rfl rfl rfl rfl rfl rfl hS (by omega) ?_
  refine zb_arg (n := n) (j := 2) rfl rfl rfl rfl rfl rfl rfl hS (by omega) ?_
  refine zb_arg (n := n) (j := 3) rfl rfl rfl rfl rfl rfl rfl hS (by omega) ?_
  refine zb_callVi (As := [.int (xJ (scI xs (n + 1))), .int (xJ (scI xs (n + 2))), .int (xJ (scI xs (n + 3)))]) (a := 1) rfl rfl rfl rfl rfl rfl rfl rfl (by decide) (by decide) rfl (by decide) (yC_mono (op_L (by omega) (op_ferry (L := L) scI_r scI_r scI_r hI)) (fun r1 d1 e1 hh => ?_))
  obtain ⟨k2, k1⟩ := hh
  have hS1 := sS_t hS k1
  refine zb_aload (x := 146) rfl rfl ?_
  refine zb_arg (n := n) (j := 1) rfl rfl rfl rfl rfl rfl rfl hS1 (by omega) ?_
  refine zb_arg (n := n) (j := 2) rfl rfl rfl rfl rfl rfl rfl hS1 (by omega) ?_
  refine zb_arg (n := n) (j := 3) rfl rfl rfl rfl rfl rfl rfl hS1 (by omega) ?_
  refine zb_callVi (As := [.int (xJ (scI xs (n + 1))), .int (xJ (scI xs (n + 2))), .int (xJ (scI xs (n + 3)))]) (a := 146) rfl rfl rfl rfl rfl rfl rfl rfl (by decide) (by decide) rfl (Nat.le_of_ble_eq_true rfl) (yC_mono k2 (fun r2 d2 e2 hh => ?_))
  obtain ⟨q1, q2, q3⟩ := hh
  exact zb_icmp_eqv (j := 1049) rfl rfl q1 (nx d2 e2 _ (by simp [xe_le]) q2 (sS_t hS1 q3))
set_option maxRecDepth 100000 in
theorem cs_34 {n : Nat} (hL : n + 5 ≤ L ∧ L ≤ 2560) (hb : b < 1000000) (hI : Inv iR b d e) (hS : sS xs d) (nx : nxt L xs Q b kc ks n) : zB 200 xm_law Q L kc ks 687 [.ref 0, .ref 1, .ref 146, .ref 177, .int (xJ (n : Int)), .double 0, .double 0] [] d e := by
  refine zb_aload (x := 1) rfl rfl ?_
  refine zb_arg (n := n) (j := 1) rfl rfl rfl rfl rfl rfl rfl hS (by omega) ?_
  refine zb_arg (n := n) (j := 2) rfl rfl rfl rfl rfl rfl rfl hS (by omega) ?_
  refine zb_arg (n := n) (j := 3) rfl rfl rfl rfl rfl rfl rfl hS (by omega) ?_
  refine zb_callVi (As := [.int (xJ (scI xs (n + 1))), .int (xJ (scI xs (n + 2))), .int (xJ (scI xs (n + 3)))]) (a := 1) rfl rfl rfl rfl rfl rfl rfl rfl (by decide) (by decide) rfl (by decide) (yC_mono (op_L (by omega) (op_wish (L := L) scI_r scI_r scI_r hI)) (fun r1 d1 e1 hh => ?_))
  obtain ⟨k2, k1⟩ := hh
  have hS1 := sS_t hS k1
  refine zb_aload (x := 146) rfl rfl ?_
  refine zb_arg (n := n) (j := 1) rfl rfl rfl rfl rfl rfl rfl hS1 (by omega) ?_
  refine zb_arg (n := n) (j := 2) rfl rfl rfl rfl rfl rfl rfl hS1 (by omega) ?_
  refine zb_arg (n := n) (j := 3) rfl rfl rfl rfl rfl rfl rfl hS1 (by omega) ?_
  refine zb_callVi (As := [.int (xJ (scI xs (n + 1))), .int (xJ (scI xs (n + 2))), .int (xJ (scI xs (n + 3)))]) (a := 146) rfl rfl rfl rfl rfl rfl rfl rfl (by decide) (by decide) rfl (Nat.le_of_ble_eq_true rfl) (yC_mono k2 (fun r2 d2 e2 hh => ?_))
  obtain ⟨q1, q2, q3⟩ := hh
  exact zb_icmp_eqv (j := 1049) rfl rfl q1 (nx d2 e2 _ (by simp [xe_le]) q2 (sS_t hS1 q3))
set_option maxRecDepth 100000 in
theorem cs_35 {n : Nat} (hL : n + 5 ≤ L ∧ L ≤ 2560) (hb : b < 1000000) (hI : Inv iR b d e) (hS : sS xs d) (nx : nxt L xs Q b kc ks n) : zB 200 xm_law Q L kc ks 724 [.ref 0, .ref 1, .ref 146, .ref 177, .int (xJ (n : Int)), .double 0, .double 0] [] d e := by
  refine zb_aload (x := 1) rfl rfl ?_
  refine zb_callVi (As := []) (a := 1) rfl rfl rfl rfl rfl rfl rfl rfl (by decide) (by decide) rfl (by decide) (yC_mono (op_L (by omega) (op_forget (L := L) hI)) (fun r1 d1 e1 hh => ?_))
  obtain ⟨k2, k1⟩ := hh
  have hS1 := sS_t hS k1
  refine zb_aload (x := 146) rfl rfl ?_
  refine zb_callVi (As := []) (a := 146) rfl rfl rfl rfl rfl rfl rfl rfl (by decide) (by decide) rfl (Nat.le_of_ble_eq_true rfl) (yC_mono k2 (fun r2 d2 e2 hh => ?_))
  obtain ⟨q1, q2, q3⟩ := hh
  exact zb_icmp_eqv (j := 1049) rfl rfl q1 (nx d2 e2 _ (by simp [xe_le]) q2 (sS_t hS1 q3))
set_option maxRecDepth 100000 in
theorem cs_36 {n : Nat} (hL : n + 5 ≤ L ∧ L ≤ 2560) (hb : b < 1000000) (hI : Inv iR b d e) (hS : sS xs d) (nx : nxt L xs Q b kc ks n) : zB 200 xm_law Q L kc ks 731 [.ref 0, .ref 1, .ref 146, .ref 177, .int (xJ (n : Int)), .double 0, .double 0] [] d e := by
  refine zb_aload (x := 1) rfl rfl ?_
  refine zb_callVi (As := []) (a := 1) rfl rfl rfl rfl rfl rfl rfl rfl (by decide) (by decide) rfl (by decide) (yC_mono (op_L (by omega) (op_met (L := L) hI)) (fun r1 d1 e1 hh => ?_))
  obtain ⟨k2, k1⟩ := hh
  have hS1 := sS_t hS k1
  refine zb_aload (x := 146) rfl rfl ?_
  refine zb_callVi (As := []) (a := 146) rfl rfl rfl rfl rfl rfl rfl rfl (by decide) (by decide) rfl (Nat.le_of_ble_eq_true rfl) (yC_mono k2 (fun r2 d2 e2 hh => ?_))
  obtain ⟨q1, q2, q3⟩ := hh
  exact zb_icmp_eqv (j := 1049) rfl rfl q1 (nx d2 e2 _ (by simp [xe_le]) q2 (sS_t hS1 q3))
set_option maxRecDepth 100000 in
theorem cs_37 {n : Nat} (hL : n + 5 ≤ L ∧ L ≤ 2560) (hb : b < 1000000) (hI : Inv iR b d e) (hS : sS xs d) (nx : nxt L xs Q b kc ks n) : zB 200 xm_law Q L kc ks 738 [.ref 0, .ref 1, .ref 146, .ref 177, .int (xJ (n : Int)), .double 0, .double 0] [] d e := by
  refine zb_aload (x := 1) rfl rfl ?_
  refine zb_callVi (As := []) (a := 1) rfl rfl rfl rfl rfl rfl rfl rfl (by decide) (by decide) rfl (by decide) (yC_mono (op_L (by omega) (op_please (L := L) hI)) (fun r1 d1 e1 hh => ?_))
  obtain ⟨k2, k1⟩ := hh
  have hS1 := sS_t hS k1
  refine zb_aload (x := 146) rfl rfl ?_
  refine zb_callVi (As := []) (a := 146) rfl rfl rfl rfl rfl rfl rfl rfl (by decide) (by decide) rfl (Nat.le_of_ble_eq_true rfl) (yC_mono k2 (fun r2 d2 e2 hh => ?_))
  obtain ⟨q1, q2, q3⟩ := hh
  exact zb_icmp_eqv (j := 1049) rfl rfl q1 (nx d2 e2 _ (by simp [xe_le]) q2 (sS_t hS1 q3))
set_option maxRecDepth 100000 in
theorem cs_38 {n : Nat} (hL : n + 5 ≤ L ∧ L ≤ 2560) (hb : b < 1000000) (hI : Inv iR b d e) (hS : sS xs d) (nx : nxt L xs Q b kc ks n) : zB 200 xm_law Q L kc ks 745 [.ref 0, .ref 1, .ref 146, .ref 177, .int (xJ (n : Int)), .double 0, .double 0] [] d e := by
  refine zb_aload (x := 1) rfl rfl ?_
  refine zb_callVi (As := []) (a := 1) rfl rfl rfl rfl rfl rfl rfl rfl (by decide) (by decide) rfl (by decide) (yC_mono (op_L (by omega) (op_colours (L := L) hI)) (fun r1 d1 e1 hh => ?_))
  obtain ⟨k2, k1⟩ := hh
  have hS1 := sS_t hS k1
  refine zb_aload (x := 146) rfl rfl ?_
  refine zb_callVi (As := []) (a := 146) rfl rfl rfl rfl rfl rfl rfl rfl (by decide) (by decide) rfl (Nat.le_of_ble_eq_true rfl) (yC_mono k2 (fun r2 d2 e2 hh => ?_))
  obtain ⟨q1, q2, q3⟩ := hh
  exact zb_icmp_eqv (j := 1049) rfl rfl q1 (nx d2 e2 _ (by simp [xe_le]) q2 (sS_t hS1 q3))
set_option maxRecDepth 100000 in
theorem cs_39 {n : Nat} (hL : n + 5 ≤ L ∧ L ≤ 2560) (hb : b < 1000000) (hI : Inv iR b d e) (hS : sS xs d) (nx : nxt L xs Q b kc ks n) : zB 200 xm_law Q L kc ks 752 [.ref 0, .ref 1, .ref 146, .ref 177, .int (xJ (n : Int)), .double 0, .double 0] [] d e := by
  refine zb_aload (x := 1) rfl rfl ?_
  refine zb_arg (n := n) (j := 1) rfl rfl rfl rfl rfl rfl rfl hS (by omega) ?_
  refine zb_callVi (As := [.int (xJ (scI xs (n + 1)))]) (a := 1) rfl rfl rfl rfl rfl rfl rfl rfl (by decide) (by decide) rfl (by decide) (yC_mono (op_L (by omega) (op_friend (L := L) scI_r (by omega) hI)) (fun r1 d1 e1 hh => ?_))
  obtain ⟨k2, k1⟩ := hh
  have hS1 := sS_t hS k1
  refine zb_aload (x := 146) rfl rfl ?_
  refine zb_arg (n := n) (j := 1) rfl rfl rfl rfl rfl rfl rfl hS1 (by omega) ?_
  refine zb_callVi (As := [.int (xJ (scI xs (n + 1)))]) (a := 146) rfl rfl rfl rfl rfl rfl rfl rfl (by decide) (by decide) rfl (Nat.le_of_ble_eq_true rfl) (yC_mono k2 (fun r2 d2 e2 hh => ?_))
  obtain ⟨q1, q2, q3⟩ := hh
  exact zb_icmp_eqv (j := 1049) rfl rfl q1 (nx d2 e2 _ (by simp [xe_le]) q2 (sS_t hS1 q3))
set_option maxRecDepth 100000 in
theorem cs_40 {n : Nat} (hL : n + 5 ≤ L ∧ L ≤ 2560) (hb : b < 1000000) (hI : Inv iR b d e) (hS : sS xs d) (nx : nxt L xs Q b kc ks n) : zB 200 xm_law Q L kc ks 769 [.ref 0, .ref 1, .ref 146, .ref 177, .int (xJ (n : Int)), .double 0, .double 0] [] d e := by
  refine zb_aload (x := 1) rfl rfl ?_
  refine zb_arg (n := n) (j := 1) rfl rfl rfl rfl rfl rfl rfl hS (by omega) ?_
  refine zb_arg (n := n) (j := 2) rfl rfl rfl rfl rfl rfl rfl hS (by omega) ?_
  refine zb_callVi (As := [.int (xJ (scI xs (n + 1))), .int (xJ (scI xs (n + 2)))]) (a := 1) rfl rfl rfl rfl rfl rfl rfl rfl (by decide) (by decide) rfl (by decide) (yC_mono (op_L (by omega) (Oz_Op (op_swap (L := L) scI_r scI_r hI))) (fun r1 d1 e1 hh => ?_))
  obtain ⟨k2, k1⟩ := hh
  have hS1 := sS_t hS k1
  refine zb_aload (x := 146) rfl rfl ?_
  refine zb_arg (n := n) (j := 1) rfl rfl rfl rfl rfl rfl rfl hS1 (by omega) ?_
  refine zb_arg (n := n) (j := 2) rfl rfl rfl rfl rfl rfl rfl hS1 (by omega) ?_
  refine zb_callVi (As := [.int (xJ (scI xs (n + 1))), .int (xJ (scI xs (n + 2)))]) (a := 146) rfl rfl rfl rfl rfl rfl rfl rfl (by decide) (by decide) rfl (Nat.le_of_ble_eq_true rfl) (yC_mono k2 (fun r2 d2 e2 hh => ?_))
  obtain ⟨q1, q2, q3⟩ := hh
  exact zb_icmp_eqv (j := 1049) rfl rfl q1 (nx d2 e2 _ (by simp [xe_le]) q2 (sS_t hS1 q3))
set_option maxRecDepth 100000 in
theorem cs_41 {n : Nat} (hL : n + 5 ≤ L ∧ L ≤ 2560) (hb : b < 1000000) (hI : Inv iR b d e) (hS : sS xs d) (nx : nxt L xs Q b kc ks n) : zB 200 xm_law Q L kc ks 796 [.ref 0, .ref 1, .ref 146, .ref 177, .int (xJ (n : Int)), .double 0, .double 0] [] d e := by
  refine zb_aload (x := 1) rfl rfl ?_
  refine zb_callVi (As := []) (a := 1) rfl rfl rfl rfl rfl rfl rfl rfl (by decide) (by decide) rfl (by decide) (yC_mono (op_L (by omega) (op_ring (L := L) hI)) (fun r1 d1 e1 hh => ?_))
  obtain ⟨k2, k1⟩ := hh
  have hS1 := sS_t hS k1
  refine zb_aload (x := 146) rfl rfl ?_
  refine zb_callVi (As := []) (a := 146) rfl rfl rfl rfl rfl rfl rfl rfl (by decide) (by decide) rfl (Nat.le_of_ble_eq_true rfl) (yC_mono k2 (fun r2 d2 e2 hh => ?_))
  obtain ⟨q1, q2, q3⟩ := hh
  exact zb_icmp_eqv (j := 1049) rfl rfl q1 (nx d2 e2 _ (by simp [xe_le]) q2 (sS_t hS1 q3))
set_option maxRecDepth 100000 in
theorem cs_42 {n : Nat} (hL : n + 5 ≤ L ∧ L ≤ 2560) (hb : b < 1000000) (hI : Inv iR b d e) (hS : sS xs d) (nx : nxt L xs Q b kc ks n) : zB 200 xm_law Q L kc ks 803 [.ref 0, .ref 1, .ref 146, .ref 177, .int (xJ (n : Int)), .double 0, .double 0] [] d e := by
  refine zb_aload (x := 1) rfl rfl ?_
  refine zb_callVi (As := []) (a := 1) rfl rfl rfl rfl rfl rfl rfl rfl (by decide) (by decide) rfl (by decide) (yC_mono (op_L (by omega) (op_turn (L := L) hI)) (fun r1 d1 e1 hh => ?_))
  obtain ⟨k2, k1⟩ := hh
  have hS1 := sS_t hS k1
  refine zb_aload (x := 146) rfl rfl ?_
  refine zb_callVi (As := []) (a := 146) rfl rfl rfl rfl rfl rfl rfl rfl (by decide) (by decide) rfl (Nat.le_of_ble_eq_true rfl) (yC_mono k2 (fun r2 d2 e2 hh => ?_))
  obtain ⟨q1, q2, q3⟩ := hh
  exact zb_icmp_eqv (j := 1049) rfl rfl q1 (nx d2 e2 _ (by simp [xe_le]) q2 (sS_t hS1 q3))
set_option maxRecDepth 100000 in
theorem cs_43 {n : Nat} (hL : n + 5 ≤ L ∧ L ≤ 2560) (hb : b < 1000000) (hI : Inv iR b d e) (hS : sS xs d) (nx : nxt L xs Q b kc ks n) : zB 200 xm_law Q L kc ks 810 [.ref 0, .ref 1, .ref 146, .ref 177, .int (xJ (n : Int)), .double 0, .double 0] [] d e := by
  refine zb_aload (x := 1) rfl rfl ?_
  refine zb_callVi (As := []) (a := 1) rfl rfl rfl rfl rfl rfl rfl rfl (by decide) (by decide) rfl (by decide) (yC_mono (op_L (by omega) (op_rests (L := L) hI)) (fun r1 d1 e1 hh => ?_))
  obtain ⟨k2, k1⟩ := hh
  have hS1 := sS_t hS k1
  refine zb_aload (x := 146) rfl rfl ?_
  refine zb_callVi (As := []) (a := 146) rfl rfl rfl rfl rfl rfl rfl rfl (by decide) (by decide) rfl (Nat.le_of_ble_eq_true rfl) (yC_mono k2 (fun r2 d2 e2 hh => ?_))
  obtain ⟨q1, q2, q3⟩ := hh
  exact zb_icmp_eqv (j := 1049) rfl rfl q1 (nx d2 e2 _ (by simp [xe_le]) q2 (sS_t hS1 q3))
set_option maxRecDepth 100000 in
theorem cs_44 {n : Nat} (hL : n + 5 ≤ L ∧ L ≤ 2560) (hb : b < 1000000) (hI : Inv iR b d e) (hS : sS xs d) (nx : nxt L xs Q b kc ks n) : zB 200 xm_law Q L kc ks 817 [.ref 0, .ref 1, .ref 146, .ref 177, .int (xJ (n : Int)), .double 0, .double 0] [] d e := by
  refine zb_aload (x := 1) rfl rfl ?_
  refine zb_callVi (As := []) (a := 1) rfl rfl rfl rfl rfl rfl rfl rfl (by decide) (by decide) rfl (by decide) (yC_mono (op_L (by omega) (op_liked (L := L) hI)) (fun r1 d1 e1 hh => ?_))
  obtain ⟨k2, k1⟩ := hh
  have hS1 := sS_t hS k1
  refine zb_aload (x := 146) rfl rfl ?_
  refine zb_callVi (As := []) (a := 146) rfl rfl rfl rfl rfl rfl rfl rfl (by decide) (by decide) rfl (Nat.le_of_ble_eq_true rfl) (yC_mono k2 (fun r2 d2 e2 hh => ?_))
  obtain ⟨q1, q2, q3⟩ := hh
  exact zb_icmp_eqv (j := 1049) rfl rfl q1 (nx d2 e2 _ (by simp [xe_le]) q2 (sS_t hS1 q3))
set_option maxRecDepth 100000 in
theorem cs_45 {n : Nat} (hL : n + 5 ≤ L ∧ L ≤ 2560) (hb : b < 1000000) (hI : Inv iR b d e) (hS : sS xs d) (nx : nxt L xs Q b kc ks n) : zB 200 xm_law Q L kc ks 824 [.ref 0, .ref 1, .ref 146, .ref 177, .int (xJ (n : Int)), .double 0, .double 0] [] d e := by
  refine zb_aload (x := 1) rfl rfl ?_
  refine zb_arg (n := n) (j := 1) rfl rfl rfl rfl rfl rfl rfl hS (by omega) ?_
  refine zb_arg (n := n) (j := 2) rfl rfl rfl rfl rfl rfl rfl hS (by omega) ?_
  refine zb_callVi (As := [.int (xJ (scI xs (n + 1))), .int (xJ (scI xs (n + 2)))]) (a := 1) rfl rfl rfl rfl rfl rfl rfl rfl (by decide) (by decide) rfl (by decide) (yC_mono (op_L (by omega) (op_theft (L := L) scI_r scI_r hI)) (fun r1 d1 e1 hh => ?_))
  obtain ⟨k2, k1⟩ := hh
  have hS1 := sS_t hS k1
  refine zb_aload (x := 146) rfl rfl ?_
  refine zb_arg (n := n) (j := 1) rfl rfl rfl rfl rfl rfl rfl hS1 (by omega) ?_
  refine zb_arg (n := n) (j := 2) rfl rfl rfl rfl rfl rfl rfl hS1 (by omega) ?_
  refine zb_callVi (As := [.int (xJ (scI xs (n + 1))), .int (xJ (scI xs (n + 2)))]) (a := 146) rfl rfl rfl rfl rfl rfl rfl rfl (by decide) (by decide) rfl (Nat.le_of_ble_eq_true rfl) (yC_mono k2 (fun r2 d2 e2 hh => ?_))
  obtain ⟨q1, q2, q3⟩ := hh
  exact zb_icmp_eqv (j := 1049) rfl rfl q1 (nx d2 e2 _ (by simp [xe_le]) q2 (sS_t hS1 q3))
set_option maxRecDepth 100000 in
theorem cs_46 {n : Nat} (hL : n + 5 ≤ L ∧ L ≤ 2560) (hb : b < 1000000) (hI : Inv iR b d e) (hS : sS xs d) (nx : nxt L xs Q b kc ks n) : zB 200 xm_law Q L kc ks 851 [.ref 0, .ref 1, .ref 146, .ref 177, .int (xJ (n : Int)), .double 0, .double 0] [] d e := by
  refine zb_aload (x := 1) rfl rfl ?_
  refine zb_callVi (As := []) (a := 1) rfl rfl rfl rfl rfl rfl rfl rfl (by decide) (by decide) rfl (by decide) (yC_mono (op_L (by omega) (op_pardon (L := L) hI)) (fun r1 d1 e1 hh => ?_))
  obtain ⟨k2, k1⟩ := hh
  have hS1 := sS_t hS k1
  refine zb_aload (x := 146) rfl rfl ?_
  refine zb_callVi (As := []) (a := 146) rfl rfl rfl rfl rfl rfl rfl rfl (by decide) (by decide) rfl (Nat.le_of_ble_eq_true rfl) (yC_mono k2 (fun r2 d2 e2 hh => ?_))
  obtain ⟨q1, q2, q3⟩ := hh
  exact zb_icmp_eqv (j := 1049) rfl rfl q1 (nx d2 e2 _ (by simp [xe_le]) q2 (sS_t hS1 q3))
set_option maxRecDepth 100000 in
theorem cs_47 {n : Nat} (hL : n + 5 ≤ L ∧ L ≤ 2560) (hb : b < 1000000) (hI : Inv iR b d e) (hS : sS xs d) (nx : nxt L xs Q b kc ks n) : zB 200 xm_law Q L kc ks 858 [.ref 0, .ref 1, .ref 146, .ref 177, .int (xJ (n : Int)), .double 0, .double 0] [] d e := by
  refine zb_aload (x := 1) rfl rfl ?_
  refine zb_arg (n := n) (j := 1) rfl rfl rfl rfl rfl rfl rfl hS (by omega) ?_
  refine zb_callVi (As := [.int (xJ (scI xs (n + 1)))]) (a := 1) rfl rfl rfl rfl rfl rfl rfl rfl (by decide) (by decide) rfl (by decide) (yC_mono (op_L (by omega) (op_suspects (L := L) scI_r hI)) (fun r1 d1 e1 hh => ?_))
  obtain ⟨k2, k1⟩ := hh
  have hS1 := sS_t hS k1
  refine zb_aload (x := 146) rfl rfl ?_
  refine zb_arg (n := n) (j := 1) rfl rfl rfl rfl rfl rfl rfl hS1 (by omega) ?_
  refine zb_callVi (As := [.int (xJ (scI xs (n + 1)))]) (a := 146) rfl rfl rfl rfl rfl rfl rfl rfl (by decide) (by decide) rfl (Nat.le_of_ble_eq_true rfl) (yC_mono k2 (fun r2 d2 e2 hh => ?_))
  obtain ⟨q1, q2, q3⟩ := hh
  exact zb_icmp_eqv (j := 1049) rfl rfl q1 (nx d2 e2 _ (by simp [xe_le]) q2 (sS_t hS1 q3))
set_option maxRecDepth 100000 in
theorem cs_48 {n : Nat} (hL : n + 5 ≤ L ∧ L ≤ 2560) (hb : b < 1000000) (hI : Inv iR b d e) (hS : sS xs d) (nx : nxt L xs Q b kc ks n) : zB 200 xm_law Q L kc ks 875 [.ref 0, .ref 1, .ref 146, .ref 177, .int (xJ (n : Int)), .double 0, .double 0] [] d e := by
  refine zb_aload (x := 1) rfl rfl ?_
  refine zb_callVi (As := []) (a := 1) rfl rfl rfl rfl rfl rfl rfl rfl (by decide) (by decide) rfl (by decide) (yC_mono (op_L (by omega) (op_thief (L := L) hI)) (fun r1 d1 e1 hh => ?_))
  obtain ⟨k2, k1⟩ := hh
  have hS1 := sS_t hS k1
  refine zb_aload (x := 146) rfl rfl ?_
  refine zb_callVi (As := []) (a := 146) rfl rfl rfl rfl rfl rfl rfl rfl (by decide) (by decide) rfl (Nat.le_of_ble_eq_true rfl) (yC_mono k2 (fun r2 d2 e2 hh => ?_))
  obtain ⟨q1, q2, q3⟩ := hh
  exact zb_icmp_eqv (j := 1049) rfl rfl q1 (nx d2 e2 _ (by simp [xe_le]) q2 (sS_t hS1 q3))
set_option maxRecDepth 100000 in
theorem cs_49 {n : Nat} (hL : n + 5 ≤ L ∧ L ≤ 2560) (hb : b < 1000000) (hI : Inv iR b d e) (hS : sS xs d) (nx : nxt L xs Q b kc ks n) : zB 200 xm_law Q L kc ks 882 [.ref 0, .ref 1, .ref 146, .ref 177, .int (xJ (n : Int)), .double 0, .double 0] [] d e := by
  refine zb_aload (x := 1) rfl rfl ?_
  refine zb_arg (n := n) (j := 1) rfl rfl rfl rfl rfl rfl rfl hS (by omega) ?_
  refine zb_arg (n := n) (j := 2) rfl rfl rfl rfl rfl rfl rfl hS (by omega) ?_
  refine zb_callVi (As := [.int (xJ (scI xs (n + 1))), .int (xJ (scI xs (n + 2)))]) (a := 1) rfl rfl rfl rfl rfl rfl rfl rfl (by decide) (by decide) rfl (by decide) (yC_mono (op_L (by omega) (op_witness (L := L) scI_r scI_r hI)) (fun r1 d1 e1 hh => ?_))
  obtain ⟨k2, k1⟩ := hh
  have hS1 := sS_t hS k1
  refine zb_aload (x := 146) rfl rfl ?_
  refine zb_arg (n := n) (j := 1) rfl rfl rfl rfl rfl rfl rfl hS1 (by omega) ?_
  refine zb_arg (n := n) (j := 2) rfl rfl rfl rfl rfl rfl rfl hS1 (by omega) ?_
  refine zb_callVi (As := [.int (xJ (scI xs (n + 1))), .int (xJ (scI xs (n + 2)))]) (a := 146) rfl rfl rfl rfl rfl rfl rfl rfl (by decide) (by decide) rfl (Nat.le_of_ble_eq_true rfl) (yC_mono k2 (fun r2 d2 e2 hh => ?_))
  obtain ⟨q1, q2, q3⟩ := hh
  exact zb_icmp_eqv (j := 1049) rfl rfl q1 (nx d2 e2 _ (by simp [xe_le]) q2 (sS_t hS1 q3))
set_option maxRecDepth 100000 in
theorem cs_50 {n : Nat} (hL : n + 5 ≤ L ∧ L ≤ 2560) (hb : b < 1000000) (hI : Inv iR b d e) (hS : sS xs d) (nx : nxt L xs Q b kc ks n) : zB 200 xm_law Q L kc ks 909 [.ref 0, .ref 1, .ref 146, .ref 177, .int (xJ (n : Int)), .double 0, .double 0] [] d e := by
  refine zb_aload (x := 1) rfl rfl ?_
  refine zb_arg (n := n) (j := 1) rfl rfl rfl rfl rfl rfl rfl hS (by omega) ?_
  refine zb_arg (n := n) (j := 2) rfl rfl rfl rfl rfl rfl rfl hS (by omega) ?_
  refine zb_arg (n := n) (j := 3) rfl rfl rfl rfl rfl rfl rfl hS (by omega) ?_
  refine zb_callVi (As := [.int (xJ (scI xs (n + 1))), .int (xJ (scI xs (n + 2))), .int (xJ (scI xs (n + 3)))]) (a := 1) rfl rfl rfl rfl rfl rfl rfl rfl (by decide) (by decide) rfl (by decide) (yC_mono (op_L (by omega) (op_dark (L := L) scI_r scI_r scI_r (by omega) hI)) (fun r1 d1 e1 hh => ?_))
  obtain ⟨k2, k1⟩ := hh
  have hS1 := sS_t hS k1
  refine zb_aload (x := 146) rfl rfl ?_
  refine zb_arg (n := n) (j := 1) rfl rfl rfl rfl rfl rfl rfl hS1 (by omega) ?_
  refine zb_arg (n := n) (j := 2) rfl rfl rfl rfl rfl rfl rfl hS1 (by omega) ?_
  refine zb_arg (n := n) (j := 3) rfl rfl rfl rfl rfl rfl rfl hS1 (by omega) ?_
  refine zb_callVi (As := [.int (xJ (scI xs (n + 1))), .int (xJ (scI xs (n + 2))), .int (xJ (scI xs (n + 3)))]) (a := 146) rfl rfl rfl rfl rfl rfl rfl rfl (by decide) (by decide) rfl (Nat.le_of_ble_eq_true rfl) (yC_mono k2 (fun r2 d2 e2 hh => ?_))
  obtain ⟨q1, q2, q3⟩ := hh
  exact zb_icmp_eqv (j := 1049) rfl rfl q1 (nx d2 e2 _ (by simp [xe_le]) q2 (sS_t hS1 q3))
set_option maxRecDepth 100000 in
theorem cs_51 {n : Nat} (hL : n + 5 ≤ L ∧ L ≤ 2560) (hb : b < 1000000) (hI : Inv iR b d e) (hS : sS xs d) (nx : nxt L xs Q b kc ks n) : zB 200 xm_law Q L kc ks 946 [.ref 0, .ref 1, .ref 146, .ref 177, .int (xJ (n : Int)), .double 0, .double 0] [] d e := by
  refine zb_aload (x := 1) rfl rfl ?_
  refine zb_arg (n := n) (j := 1) rfl rfl rfl rfl rfl rfl rfl hS (by omega) ?_
  refine zb_callVi (As := [.int (xJ (scI xs (n + 1)))]) (a := 1) rfl rfl rfl rfl rfl rfl rfl rfl (by decide) (by decide) rfl (by decide) (yC_mono (op_L (by omega) (op_comes (L := L) scI_r hI)) (fun r1 d1 e1 hh => ?_))
  obtain ⟨k2, k1⟩ := hh
  have hS1 := sS_t hS k1
  refine zb_aload (x := 146) rfl rfl ?_
  refine zb_arg (n := n) (j := 1) rfl rfl rfl rfl rfl rfl rfl hS1 (by omega) ?_
  refine zb_callVi (As := [.int (xJ (scI xs (n + 1)))]) (a := 146) rfl rfl rfl rfl rfl rfl rfl rfl (by decide) (by decide) rfl (Nat.le_of_ble_eq_true rfl) (yC_mono k2 (fun r2 d2 e2 hh => ?_))
  obtain ⟨q1, q2, q3⟩ := hh
  exact zb_icmp_eqv (j := 1049) rfl rfl q1 (nx d2 e2 _ (by simp [xe_le]) q2 (sS_t hS1 q3))
set_option maxRecDepth 100000 in
theorem cs_52 {n : Nat} (hL : n + 5 ≤ L ∧ L ≤ 2560) (hb : b < 1000000) (hI : Inv iR b d e) (hS : sS xs d) (nx : nxt L xs Q b kc ks n) : zB 200 xm_law Q L kc ks 963 [.ref 0, .ref 1, .ref 146, .ref 177, .int (xJ (n : Int)), .double 0, .double 0] [] d e := by
  refine zb_aload (x := 1) rfl rfl ?_
  refine zb_arg (n := n) (j := 1) rfl rfl rfl rfl rfl rfl rfl hS (by omega) ?_
  refine zb_callVi (As := [.int (xJ (scI xs (n + 1)))]) (a := 1) rfl rfl rfl rfl rfl rfl rfl rfl (by decide) (by decide) rfl (by decide) (yC_mono (op_L (by omega) (Oz_Op (op_keep (L := L) scI_r hI))) (fun r1 d1 e1 hh => ?_))
  obtain ⟨k2, k1⟩ := hh
  have hS1 := sS_t hS k1
  refine zb_aload (x := 146) rfl rfl ?_
  refine zb_arg (n := n) (j := 1) rfl rfl rfl rfl rfl rfl rfl hS1 (by omega) ?_
  refine zb_callVi (As := [.int (xJ (scI xs (n + 1)))]) (a := 146) rfl rfl rfl rfl rfl rfl rfl rfl (by decide) (by decide) rfl (Nat.le_of_ble_eq_true rfl) (yC_mono k2 (fun r2 d2 e2 hh => ?_))
  obtain ⟨q1, q2, q3⟩ := hh
  exact zb_icmp_eqv (j := 1049) rfl rfl q1 (nx d2 e2 _ (by simp [xe_le]) q2 (sS_t hS1 q3))
set_option maxRecDepth 100000 in
theorem cs_53 {n : Nat} (hL : n + 5 ≤ L ∧ L ≤ 2560) (hb : b < 1000000) (hI : Inv iR b d e) (hS : sS xs d) (nx : nxt L xs Q b kc ks n) : zB 200 xm_law Q L kc ks 980 [.ref 0, .ref 1, .ref 146, .ref 177, .int (xJ (n : Int)), .double 0, .double 0] [] d e := by
  refine zb_aload (x := 1) rfl rfl ?_
  refine zb_arg (n := n) (j := 1) rfl rfl rfl rfl rfl rfl rfl hS (by omega) ?_
  refine zb_callVi (As := [.int (xJ (scI xs (n + 1)))]) (a := 1) rfl rfl rfl rfl rfl rfl rfl rfl (by decide) (by decide) rfl (by decide) (yC_mono (op_L (by omega) (Oz_Op (op_again (L := L) scI_r hI))) (fun r1 d1 e1 hh => ?_))
  obtain ⟨k2, k1⟩ := hh
  have hS1 := sS_t hS k1
  refine zb_aload (x := 146) rfl rfl ?_
  refine zb_arg (n := n) (j := 1) rfl rfl rfl rfl rfl rfl rfl hS1 (by omega) ?_
  refine zb_callVi (As := [.int (xJ (scI xs (n + 1)))]) (a := 146) rfl rfl rfl rfl rfl rfl rfl rfl (by decide) (by decide) rfl (Nat.le_of_ble_eq_true rfl) (yC_mono k2 (fun r2 d2 e2 hh => ?_))
  obtain ⟨q1, q2, q3⟩ := hh
  exact zb_icmp_eqv (j := 1049) rfl rfl q1 (nx d2 e2 _ (by simp [xe_le]) q2 (sS_t hS1 q3))
set_option maxRecDepth 100000 in
theorem cs_54 {n : Nat} (hL : n + 5 ≤ L ∧ L ≤ 2560) (hb : b < 1000000) (hI : Inv iR b d e) (hS : sS xs d) (nx : nxt L xs Q b kc ks n) : zB 200 xm_law Q L kc ks 997 [.ref 0, .ref 1, .ref 146, .ref 177, .int (xJ (n : Int)), .double 0, .double 0] [] d e := by
  refine zb_aload (x := 1) rfl rfl ?_
  refine zb_arg (n := n) (j := 1) rfl rfl rfl rfl rfl rfl rfl hS (by omega) ?_
  refine zb_callVi (As := [.int (xJ (scI xs (n + 1)))]) (a := 1) rfl rfl rfl rfl rfl rfl rfl rfl (by decide) (by decide) rfl (by decide) (yC_mono (op_L (by omega) (op_count (L := L) scI_r (by omega) hI)) (fun r1 d1 e1 hh => ?_))
  obtain ⟨k2, k1⟩ := hh
  have hS1 := sS_t hS k1
  refine zb_aload (x := 146) rfl rfl ?_
  refine zb_arg (n := n) (j := 1) rfl rfl rfl rfl rfl rfl rfl hS1 (by omega) ?_
  refine zb_callVi (As := [.int (xJ (scI xs (n + 1)))]) (a := 146) rfl rfl rfl rfl rfl rfl rfl rfl (by decide) (by decide) rfl (Nat.le_of_ble_eq_true rfl) (yC_mono k2 (fun r2 d2 e2 hh => ?_))
  obtain ⟨q1, q2, q3⟩ := hh
  exact zb_icmp_eqv (j := 1049) rfl rfl q1 (nx d2 e2 _ (by simp [xe_le]) q2 (sS_t hS1 q3))
set_option maxRecDepth 100000 in
theorem cs_55 {n : Nat} (hL : n + 5 ≤ L ∧ L ≤ 2560) (hb : b < 1000000) (hk : 1 ≤ kc ∧ 6 ≤ ks) (hI : Inv iR b d e) (hS : sS xs d) (nx : nxt L xs Q b (kc - 1) (ks - 6) n) : zB 200 xm_law Q L kc ks 1014 [.ref 0, .ref 1, .ref 146, .ref 177, .int (xJ (n : Int)), .double 0, .double 0] [] d e := by
  refine zb_aload (x := 1) rfl rfl ?_
  refine zb_arg (n := n) (j := 1) rfl rfl rfl rfl rfl rfl rfl hS (by omega) ?_
  refine zb_aload (x := 177) rfl rfl ?_
  refine zb_callW (As := [.ref 1, .int (xJ (scI xs (n + 1))), .ref 177]) rfl rfl rfl rfl rfl rfl rfl rfl (by decide) hk.1 hk.2 (yC_mono (op_W (by omega) (op_row (L := L) scI_r hI)) (fun k0 d1 e1 hh => ?_))
  obtain ⟨k2, k1⟩ := hh
  have hS1 := sS_t hS k1
  refine zb_istore rfl rfl rfl ?_
  refine zb_aload (x := 146) rfl rfl ?_
  refine zb_arg (n := n) (j := 1) rfl rfl rfl rfl rfl rfl rfl hS1 (by omega) ?_
  refine zb_callVi (As := [.int (xJ (scI xs (n + 1)))]) (a := 146) rfl rfl rfl rfl rfl rfl rfl rfl (by decide) (by decide) rfl (Nat.le_of_ble_eq_true rfl) (yC_mono k2 (fun r2 d2 e2 hh => ?_))
  obtain ⟨⟨q1, q2, q3, q4⟩, q5⟩ := hh
  refine zb_istore rfl rfl rfl ?_
  refine zb_aload (x := 146) rfl rfl ?_
  refine zb_callVi (As := []) (a := 146) rfl rfl rfl rfl rfl rfl rfl rfl (by decide) (by decide) rfl (Nat.le_of_ble_eq_true rfl) (thr_C q3 ?_)
  refine zb_iload (x := k0) rfl rfl (zb_icmp_eqv (j := 1037) rfl rfl rfl ?_)
  have fin : zB 200 xm_law Q L (kc - 1) (ks - 6) 1048 [.ref 0, .ref 1, .ref 146, .ref 177, .int (xJ (n : Int)), .int (xJ k0), .int (xJ r2)] [] d2 e2 := zb_goto (j := 1049) rfl rfl (nx d2 e2 _ (by simp [xe_le, xe_lg]) q1 (sS_t hS1 q5))
  refine zb_iload (x := k0) rfl rfl (zb_if_ne (j := 1048) rfl rfl (by omega) (fun z => fin) (fun z => ?_))
  refine zb_aload (x := 177) rfl rfl (zb_push rfl (zb_lald (n := 1) rfl Al177 (by decide) (q4 z) (zb_iload (x := r2) rfl rfl (zb_i2l rfl (zb_lcmp rfl (zb_if_eq (x := 0) (j := 1048) rfl rfl (by decide) (fun _ => fin) (fun w => absurd rfl w)))))))
end LLP
