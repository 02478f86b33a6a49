/-! BUDGETS: a walk within one room is a walk within a larger one; what throws. -/
set_option maxHeartbeats 4000000 in
theorem xe_bud {T : List xe_I} {d : Nat} {code : List Instr} {Q : xe_Q} {i : Nat} {dl st : List Value} {kc ks z : Nat} {M : xe_M} (h : xe_Ev T (xe_Call T d) code Q i dl st kc ks z M) : ∀ a b, xe_Ev T (xe_Call T d) code Q i dl st (kc + a) (ks + b) z M := by
  refine h (fun i dl st kc ks z M => ∀ a b, xe_Ev T (xe_Call T d) code Q i dl st (kc + a) (ks + b) z M) ?_
  intro i dl st kc ks z M hs a b
  obtain ⟨ins, hc, hs⟩ := hs
  refine xe_Ev_step ⟨ins, hc, ?_⟩
  unfold xe_ins at hs ⊢
  split at hs
  all_goals first
    | exact hs _ _
    | exact hs.elim
    | exact hs
    | exact ⟨hs.1, hs.2 _ _⟩
    | exact ⟨hs.1, Nat.le_trans hs.2.1 (Nat.le_add_right _ _), Nat.le_trans hs.2.2.1 (Nat.le_add_right _ _), hs.2.2.2⟩
    | (obtain ⟨x, h1, h⟩ := hs; exact ⟨x, h1, h _ _⟩)
    | (obtain ⟨x, h1, h2, h⟩ := hs; exact ⟨x, h1, h2, h _ _⟩)
    | (obtain ⟨x, r, h1, h⟩ := hs; exact ⟨x, r, h1, h _ _⟩)
    | (obtain ⟨x, r, h1, h2, h⟩ := hs; exact ⟨x, r, h1, h2, h _ _⟩)
    | (obtain ⟨x, y, r, h1, h⟩ := hs; exact ⟨x, y, r, h1, h _ _⟩)
    | (obtain ⟨x, y, r, h1, h2, h⟩ := hs; exact ⟨x, y, r, h1, h2, h _ _⟩)
    | (obtain ⟨x, y, r, h1, h2, h3, h⟩ := hs; exact ⟨x, y, r, h1, h2, h3, h _ _⟩)
    | (obtain ⟨x, r, h1, h2, h⟩ := hs; exact ⟨x, r, h1, fun q => h2 q _ _, fun q => h q _ _⟩)
    | (obtain ⟨x, y, r, h1, h2, h⟩ := hs; exact ⟨x, y, r, h1, fun q => h2 q _ _, fun q => h q _ _⟩)
    | (rcases hs with ⟨a, r, h1, h⟩ | ⟨r, h1, h⟩
       · exact Or.inl ⟨a, r, h1, h _ _⟩
       · exact Or.inr ⟨r, h1, h _ _⟩)
    | (obtain ⟨x, r, h1, h2, h⟩ := hs; exact ⟨x, r, h1, fun q => h2 q _ _, fun q q' => (h q q').elim fun t ht => ⟨t, ht.1, ht.2 _ _⟩⟩)
    | (obtain ⟨a1, a2, a3, a4, h1, h2, h3, h4, h5, h⟩ := hs; exact ⟨a1, a2, a3, a4, h1, h2, h3, h4, h5, h _ _⟩)
    | (obtain ⟨a1, a2, a3, a4, h1, h2, h3, h4, h5, h6, h⟩ := hs; exact ⟨a1, a2, a3, a4, h1, h2, h3, h4, h5, h6, h _ _⟩)
    | (obtain ⟨a1, a2, a3, a4, a5, h1, h2, h3, h4, h⟩ := hs; exact ⟨a1, a2, a3, a4, a5, h1, h2, h3, h4, h _ _⟩)
    | (obtain ⟨a1, a2, a3, a4, a5, h1, h2, h3, h4, h5, h⟩ := hs; exact ⟨a1, a2, a3, a4, a5, h1, h2, h3, h4, h5, h _ _⟩)
    | (obtain ⟨a1, a2, a3, a4, a5, a6, h1, h2, h3, h4, h5, h⟩ := hs; exact ⟨a1, a2, a3, a4, a5, a6, h1, h2, h3, h4, h5, h _ _⟩)
    | (obtain ⟨a1, a2, a3, a4, a5, a6, h1, h2, h3, h4, h5, h6, h⟩ := hs; exact ⟨a1, a2, a3, a4, a5, a6, h1, h2, h3, h4, h5, h6, h _ _⟩)
    | (obtain ⟨a1, a2, a3, a4, a5, a6, a7, h1, h2, h3, h4, h5, h6, h⟩ := hs; exact ⟨a1, a2, a3, a4, a5, a6, a7, h1, h2, h3, h4, h5, h6, h _ _⟩)
    | (obtain ⟨a1, a2, a3, a4, a5, a6, a7, h1, h2, h3, h4, h5, h6, h7, h8, h⟩ := hs; exact ⟨a1, a2, a3, a4, a5, a6, a7, h1, h2, h3, h4, h5, h6, h7, h8, h _ _⟩)
    | (obtain ⟨a1, a2, a3, a4, a5, a6, a7, a8, a9, a10, h1, h2, h3, h4, h5, h6, h7, h8, h9, h10, h11, h12, h13, h14, h⟩ := hs; exact ⟨a1, a2, a3, a4, a5, a6, a7, a8, a9, a10, h1, h2, h3, h4, h5, h6, h7, h8, h9, h10, h11, h12, h13, h14, h _ _⟩)
    | (obtain ⟨a1, a2, a3, a4, a5, h1, h2, h3, h4, h5, h6, h7, h8, h9, h10, h11, h⟩ := hs
       refine ⟨a1, a2, a3, a4, a5, h1, h2, h3, h4, h5, h6, h7, h8, h9, by omega, by omega, xe_Call_Q d _ _ _ _ _ _ (fun v z M q => ?_) h⟩
       rw [show kc + a - xe_im a1 = kc - xe_im a1 + a by omega, show ks + b - xe_is a1 = ks - xe_is a1 + b by omega]
       first | exact q _ _ | exact ⟨fun w => q.1 w _ _, fun w => q.2 w _ _⟩)
    | (obtain ⟨a1, a2, a3, h1, h2, h3, h4, h5, h6, h7, h8, h⟩ := hs
       refine ⟨a1, a2, a3, h1, h2, h3, h4, h5, h6, by omega, by omega, xe_Call_Q d _ _ _ _ _ _ (fun v z M q => ?_) h⟩
       rw [show kc + a - xe_im a1 = kc - xe_im a1 + a by omega, show ks + b - xe_is a1 = ks - xe_is a1 + b by omega]
       exact q _ _)
    | (obtain ⟨a1, h1, h2, h3, h4, h⟩ := hs
       refine ⟨a1, h1, h2, by omega, by omega, ?_⟩
       rw [show kc + a - 1 = kc - 1 + a by omega, show ks + b - a1.2.2 = ks - a1.2.2 + b by omega]
       exact h _ _)
    | (obtain ⟨a1, a2, h1, h2, h3, h4, h5, h6, h⟩ := hs
       refine ⟨a1, a2, h1, h2, h3, h4, by omega, by omega, ?_⟩
       rw [show kc + a - 1 = kc - 1 + a by omega, show ks + b - a1.toNatClampNeg = ks - a1.toNatClampNeg + b by omega]
       exact h _ _)
/-- a walk within a room -/
def zB (D : Nat) (code : List Instr) (Q : xe_Q) (L kc ks i : Nat) (dl st : List Value) (d : xh_D) (e : xd_E) : Prop := xe_Ev xm_T (xe_Call xm_T D) code Q i dl st kc ks 178 (xd_mem L (xh_m d) e)
theorem zB_of {D : Nat} {code : List Instr} {Q : xe_Q} {L kc ks i : Nat} {dl st : List Value} {d : xh_D} {e : xd_E} (h : yB D code Q L i dl st d e) : zB D code Q L kc ks i dl st d e := by
  have := xe_bud h kc ks
  rw [Nat.zero_add, Nat.zero_add] at this
  exact this
theorem zB_mono {D : Nat} {code : List Instr} {Q : xe_Q} {L kc ks kc' ks' i : Nat} {dl st : List Value} {d : xh_D} {e : xd_E} (h : zB D code Q L kc ks i dl st d e) (h1 : kc ≤ kc') (h2 : ks ≤ ks') : zB D code Q L kc' ks' i dl st d e := by
  have := xe_bud h (kc' - kc) (ks' - ks)
  rw [show kc + (kc' - kc) = kc' by omega, show ks + (ks' - ks) = ks' by omega] at this
  exact this
theorem zC_of {D g L : Nat} {a : List Value} {d : xh_D} {e : xd_E} {P : Int → xh_D → xd_E → Prop} {inf : xe_I} (hT : xm_T[g]? = some inf) (hD : 1 ≤ D) (h : zB (D - 1) (xe_code inf) (yQi L P) L (xe_im inf) (xe_is inf) 0 (xe_entry (xe_iL inf) a) [] d e) : yC D g L a d e P := by
  obtain ⟨D, rfl⟩ : ∃ D', D = D' + 1 := ⟨D - 1, by omega⟩
  rw [Nat.add_sub_cancel] at h
  exact ⟨inf, hT, h⟩
/-- a call that throws -/
def tThr (D g L : Nat) (a : List Value) (d : xh_D) (e : xd_E) : Prop := xe_Call xm_T D g a 178 (xd_mem L (xh_m d) e) (fun v z M => v = some (.double 0) ∧ z = 178 ∧ M = xd_mem L (xh_m d) e)
section ZBR
variable {D : Nat} {code : List Instr} {Q : xe_Q} {L kc ks i : Nat} {dl st : List Value} {d : xh_D} {e : xd_E}
theorem tThr_of {g : Nat} {a : List Value} {inf : xe_I} (hT : xm_T[g]? = some inf) (hD : 1 ≤ D) (h : zB (D - 1) (xe_code inf) (fun v z M => v = some (.double 0) ∧ z = 178 ∧ M = xd_mem L (xh_m d) e) L (xe_im inf) (xe_is inf) 0 (xe_entry (xe_iL inf) a) [] d e) : tThr D g L a d e := by
  obtain ⟨D, rfl⟩ : ∃ D', D = D' + 1 := ⟨D - 1, by omega⟩
  rw [Nat.add_sub_cancel] at h
  exact ⟨inf, hT, h⟩
theorem zb_push {v : Int} (hc : code[i]? = some (.sipush v)) (h : zB D code Q L kc ks (i + 1) dl (.int (xJ v) :: st) d e) : zB D code Q L kc ks i dl st d e := xe_Ev_step ⟨_, hc, h⟩
theorem zb_iload {k : Nat} {x : Int} (hc : code[i]? = some (.iload k)) (hv : dl[k]? = some (.int (xJ x))) (h : zB D code Q L kc ks (i + 1) dl (.int (xJ x) :: st) d e) : zB D code Q L kc ks i dl st d e := xe_Ev_step ⟨_, hc, ⟨_, hv, h⟩⟩
theorem zb_aload {k x : Nat} (hc : code[i]? = some (.aload k)) (hv : dl[k]? = some (.ref x)) (h : zB D code Q L kc ks (i + 1) dl (.ref x :: st) d e) : zB D code Q L kc ks i dl st d e := xe_Ev_step ⟨_, hc, ⟨_, hv, h⟩⟩
theorem zb_istore {k : Nat} {x : Int} {dl' : List Value} (hc : code[i]? = some (.istore k)) (hs : xe_s1 dl k = true) (hd : dl.set k (.int (xJ x)) = dl') (h : zB D code Q L kc ks (i + 1) dl' st d e) : zB D code Q L kc ks i dl (.int (xJ x) :: st) d e := xe_Ev_step ⟨_, hc, ⟨_, st, rfl, hs, by rw [hd]; exact h⟩⟩
theorem zb_iinc {k : Nat} {n x : Int} {dl' : List Value} (hc : code[i]? = some (.iinc k n)) (hv : dl[k]? = some (.int (xJ x))) (hs : xe_s1 dl k = true) (hd : dl.set k (.int (xJ (x + n))) = dl') (h : zB D code Q L kc ks (i + 1) dl' st d e) : zB D code Q L kc ks i dl st d e := xe_Ev_step ⟨_, hc, ⟨_, hv, hs, by rw [show xJ x + Int32.ofInt n = xJ (x + n) from xJ_add x n, hd]; exact h⟩⟩
theorem zb_iadd {x y : Int} (hc : code[i]? = some .iadd) (h : zB D code Q L kc ks (i + 1) dl (.int (xJ (x + y)) :: st) d e) : zB D code Q L kc ks i dl (.int (xJ y) :: .int (xJ x) :: st) d e := xe_Ev_step ⟨_, hc, ⟨_, _, st, rfl, by rw [xJ_add]; exact h⟩⟩
theorem zb_isub {x y : Int} (hc : code[i]? = some .isub) (h : zB D code Q L kc ks (i + 1) dl (.int (xJ (x - y)) :: st) d e) : zB D code Q L kc ks i dl (.int (xJ y) :: .int (xJ x) :: st) d e := xe_Ev_step ⟨_, hc, ⟨_, _, st, rfl, by rw [xJ_sub]; exact h⟩⟩
theorem zb_iand {x y : Int} (hc : code[i]? = some .iand) (h : zB D code Q L kc ks (i + 1) dl (.int (xJ (xi_and x y)) :: st) d e) : zB D code Q L kc ks i dl (.int (xJ y) :: .int (xJ x) :: st) d e := xe_Ev_step ⟨_, hc, ⟨_, _, st, rfl, by unfold xi_and at h; rw [xJ_toInt] at h; exact h⟩⟩
theorem zb_i2l {x : Int} (hc : code[i]? = some .i2l) (h : zB D code Q L kc ks (i + 1) dl (.long (xJ x).toInt64 :: st) d e) : zB D code Q L kc ks i dl (.int (xJ x) :: st) d e := xe_Ev_step ⟨_, hc, ⟨_, st, rfl, h⟩⟩
theorem zb_goto {t : Int} {j : Nat} (hc : code[i]? = some (.goto t)) (ht : t.toNat = j) (h : zB D code Q L kc ks j dl st d e) : zB D code Q L kc ks i dl st d e := xe_Ev_step ⟨_, hc, by subst ht; exact h⟩
theorem zb_icmp_eq {x y : Int} {t : Int} {j : Nat} (hc : code[i]? = some (.if_icmp .eq t)) (ht : t.toNat = j) (hx : yR x) (hy : yR y) (h1 : x = y → zB D code Q L kc ks j dl st d e) (h2 : ¬ x = y → zB D code Q L kc ks (i + 1) dl st d e) : zB D code Q L kc ks i dl (.int (xJ y) :: .int (xJ x) :: st) d e := xe_Ev_step ⟨_, hc, ⟨_, _, st, rfl, fun q => by subst ht; exact h1 ((xJ_inj hx hy).mp q), fun q => h2 (fun w => q ((xJ_inj hx hy).mpr w))⟩⟩
theorem zb_icmp_eqv {x y : Int} {t : Int} {j : Nat} (hc : code[i]? = some (.if_icmp .eq t)) (ht : t.toNat = j) (hxy : x = y) (h1 : zB D code Q L kc ks j dl st d e) : zB D code Q L kc ks i dl (.int (xJ y) :: .int (xJ x) :: st) d e := xe_Ev_step ⟨_, hc, ⟨_, _, st, rfl, fun _ => by subst ht; exact h1, fun q => absurd (show xJ x = xJ y by rw [hxy]) q⟩⟩
theorem zb_icmp_gt {x y : Int} {t : Int} {j : Nat} (hc : code[i]? = some (.if_icmp .gt t)) (ht : t.toNat = j) (hx : yR x) (hy : yR y) (h1 : y < x → zB D code Q L kc ks j dl st d e) (h2 : ¬ y < x → zB D code Q L kc ks (i + 1) dl st d e) : zB D code Q L kc ks i dl (.int (xJ y) :: .int (xJ x) :: st) d e := xe_Ev_step ⟨_, hc, ⟨_, _, st, rfl, fun q => by subst ht; exact h1 ((xJ_lt hy hx).mp q), fun q => h2 (fun w => q ((xJ_lt hy hx).mpr w))⟩⟩
theorem zb_icmp_le {x y : Int} {t : Int} {j : Nat} (hc : code[i]? = some (.if_icmp .le t)) (ht : t.toNat = j) (hx : yR x) (hy : yR y) (h1 : x ≤ y → zB D code Q L kc ks j dl st d e) (h2 : ¬ x ≤ y → zB D code Q L kc ks (i + 1) dl st d e) : zB D code Q L kc ks i dl (.int (xJ y) :: .int (xJ x) :: st) d e := xe_Ev_step ⟨_, hc, ⟨_, _, st, rfl, fun q => by subst ht; exact h1 ((xJ_le hx hy).mp q), fun q => h2 (fun w => q ((xJ_le hx hy).mpr w))⟩⟩
theorem zb_icmp_lt {x y : Int} {t : Int} {j : Nat} (hc : code[i]? = some (.if_icmp .lt t)) (ht : t.toNat = j) (hx : yR x) (hy : yR y) (h1 : x < y → zB D code Q L kc ks j dl st d e) (h2 : ¬ x < y → zB D code Q L kc ks (i + 1) dl st d e) : zB D code Q L kc ks i dl (.int (xJ y) :: .int (xJ x) :: st) d e := xe_Ev_step ⟨_, hc, ⟨_, _, st, rfl, fun q => by subst ht; exact h1 ((xJ_lt hx hy).mp q), fun q => h2 (fun w => q ((xJ_lt hx hy).mpr w))⟩⟩
theorem zb_if_eq {x : Int} {t : Int} {j : Nat} (hc : code[i]? = some (.ifCond .eq t)) (ht : t.toNat = j) (hx : yR x) (h1 : x = 0 → zB D code Q L kc ks j dl st d e) (h2 : ¬ x = 0 → zB D code Q L kc ks (i + 1) dl st d e) : zB D code Q L kc ks i dl (.int (xJ x) :: st) d e := xe_Ev_step ⟨_, hc, ⟨_, st, rfl, fun q => by subst ht; exact h1 ((xJ_inj hx (by omega)).mp q), fun q => h2 (fun w => q (show xJ x = xJ 0 by rw [w]))⟩⟩
theorem zb_if_ne {x : Int} {t : Int} {j : Nat} (hc : code[i]? = some (.ifCond .ne t)) (ht : t.toNat = j) (hx : yR x) (h1 : ¬ x = 0 → zB D code Q L kc ks j dl st d e) (h2 : x = 0 → zB D code Q L kc ks (i + 1) dl st d e) : zB D code Q L kc ks i dl (.int (xJ x) :: st) d e := xe_Ev_step ⟨_, hc, ⟨_, st, rfl, fun q => by subst ht; exact h1 (fun w => q (show xJ x = xJ 0 by rw [w])), fun q => h2 ((xJ_inj hx (by omega)).mp (Classical.not_not.mp q))⟩⟩
theorem zb_if_lt {x : Int} {t : Int} {j : Nat} (hc : code[i]? = some (.ifCond .lt t)) (ht : t.toNat = j) (hx : yR x) (h1 : x < 0 → zB D code Q L kc ks j dl st d e) (h2 : ¬ x < 0 → zB D code Q L kc ks (i + 1) dl st d e) : zB D code Q L kc ks i dl (.int (xJ x) :: st) d e := xe_Ev_step ⟨_, hc, ⟨_, st, rfl, fun q => by subst ht; exact h1 ((xJ_lt hx (by omega)).mp q), fun q => h2 (fun w => q ((xJ_lt hx (by omega)).mpr w))⟩⟩
theorem zb_get {a n : Nat} {fs : List Value} {v : Value} (hc : code[i]? = some (.getfield n)) (ha : 0 < a) (hz : a < 178) (hM : xd_mem L (xh_m d) e a = .inr (n / 64, fs)) (hv : fs[n % 64]? = some v) (h : zB D code Q L kc ks (i + 1) dl (v :: st) d e) : zB D code Q L kc ks i dl (.ref a :: st) d e := xe_Ev_step ⟨_, hc, ⟨a, fs, v, st, rfl, ha, hz, hM, hv, h⟩⟩
theorem zb_callVi {g : Nat} {inf : xe_I} {As st' : List Value} {a : Nat} {fs : List Value} (hc : code[i]? = some (.invokevirtual g)) (hT : xm_T[g]? = some inf) (hk : xe_ik inf = 1) (hm : xe_im inf = 0) (hs : xe_is inf = 0) (hst : st' = As.reverse ++ .ref a :: st) (hn : As.length = xe_in inf) (hA1 : As.all xe_c1 = true) (ha : 0 < a) (hz : a < 178) (hM : xd_mem L (xh_m d) e a = .inr (xe_ic inf, fs)) (hcat : xe_cat st ≤ 8) (h : yC D g L (Value.ref a :: As) d e (fun x d e => zB D code Q L kc ks (i + 1) dl (.int (xJ x) :: st) d e)) : zB D code Q L kc ks i dl st' d e := by
  refine xe_Ev_step ⟨_, hc, inf, As, a, fs, st, hT, hk, hst, hn, hA1, ha, hz, hM, hcat, by rw [hm]; exact Nat.zero_le _, by rw [hs]; exact Nat.zero_le _, ?_⟩
  refine xe_Call_Q D g _ 178 _ _ _ ?_ h
  rintro v z M ⟨x, d', e', rfl, rfl, rfl, z, d1, rfl, rfl, h⟩
  rw [hm, hs, Nat.sub_zero, Nat.sub_zero]
  exact h
theorem zb_callVz {g : Nat} {inf : xe_I} {As st' : List Value} {a : Nat} {fs : List Value} (hc : code[i]? = some (.invokevirtual g)) (hT : xm_T[g]? = some inf) (hk : xe_ik inf = 1) (hm : xe_im inf = 0) (hs : xe_is inf = 0) (hst : st' = As.reverse ++ .ref a :: st) (hn : As.length = xe_in inf) (hA1 : As.all xe_c1 = true) (ha : 0 < a) (hz : a < 178) (hM : xd_mem L (xh_m d) e a = .inr (xe_ic inf, fs)) (hcat : xe_cat st ≤ 8) (h : yZ D g L (Value.ref a :: As) d e (fun d e => zB D code Q L kc ks (i + 1) dl (.int (xJ 1) :: st) d e) (fun d e => zB D code Q L kc ks (i + 1) dl (.int (xJ 0) :: st) d e)) : zB D code Q L kc ks i dl st' d e := zb_callVi hc hT hk hm hs hst hn hA1 ha hz hM hcat (yC_mono h (fun _ _ _ q => q.elim (fun q => by rw [q.1]; exact q.2) (fun q => by rw [q.1]; exact q.2)))
theorem zb_callW {g : Nat} {inf : xe_I} {As st' : List Value} (hc : code[i]? = some (.invokestatic g)) (hT : xm_T[g]? = some inf) (hk : xe_ik inf = 4) (hm : xe_im inf = 1) (hs : xe_is inf = 6) (hst : st' = As.reverse ++ st) (hn : As.length = xe_in inf) (hA1 : As.all xe_c1 = true) (hcat : xe_cat st ≤ 8) (h1 : 1 ≤ kc) (h2 : 6 ≤ ks) (h : yC D g L As d e (fun x d e => zB D code Q L (kc - 1) (ks - 6) (i + 1) dl (.int (xJ x) :: st) d e)) : zB D code Q L kc ks i dl st' d e := by
  refine xe_Ev_step ⟨_, hc, inf, As, st, hT, Or.inr hk, hst, hn, hA1, hcat, by rw [hm]; exact h1, by rw [hs]; exact h2, ?_⟩
  refine xe_Call_Q D g _ 178 _ _ _ ?_ h
  rintro v z M ⟨x, d', e', rfl, rfl, rfl, z, d1, rfl, rfl, h⟩
  rw [hm, hs]
  exact h
theorem zb_dyn {g : Nat} {inf : xe_I} {As st' : List Value} {a : Nat} {fs : List Value} (hc : code[i]? = some (.invokedynamic g)) (hT : xm_T[g]? = some inf) (hk : xe_ik inf = 3) (hm : xe_im inf = 1) (hs : xe_is inf = 6) (hst : st' = As.reverse ++ .ref a :: st) (hn : As.length = xe_in inf) (hA1 : As.all xe_c1 = true) (ha : 0 < a) (hz : a < 178) (hM : xd_mem L (xh_m d) e a = .inr (xe_ic inf, fs)) (hcat : xe_cat st ≤ 8) (h1 : 1 ≤ kc) (h2 : 6 ≤ ks) (h : yC D g L (Value.ref a :: As) d e (fun x d e => zB D code Q L (kc - 1) (ks - 6) (i + 1) dl (.int (xJ x) :: st) d e)) : zB D code Q L kc ks i dl st' d e := by
  refine xe_Ev_step ⟨_, hc, inf, As, a, fs, st, hT, hk, hst, hn, hA1, ha, hz, hM, hcat, by rw [hm]; exact h1, by rw [hs]; exact h2, ?_⟩
  refine xe_Call_Q D g _ 178 _ _ _ ?_ h
  rintro v z M ⟨x, d', e', rfl, rfl, rfl, z, d1, rfl, rfl, h⟩
  rw [hm, hs]
  exact ⟨(fun q => by cases q), fun _ => h⟩
theorem zb_dynt {g : Nat} {inf : xe_I} {As st' : List Value} {a : Nat} {fs : List Value} (hc : code[i]? = some (.invokedynamic g)) (hT : xm_T[g]? = some inf) (hk : xe_ik inf = 3) (hm : xe_im inf = 1) (hs : xe_is inf = 6) (hst : st' = As.reverse ++ .ref a :: st) (hn : As.length = xe_in inf) (hA1 : As.all xe_c1 = true) (ha : 0 < a) (hz : a < 178) (hM : xd_mem L (xh_m d) e a = .inr (xe_ic inf, fs)) (hcat : xe_cat st ≤ 8) (h1 : 1 ≤ kc) (h2 : 6 ≤ ks) (h : tThr D g L (Value.ref a :: As) d e) (h' : zB D code Q L (kc - 1) (ks - 6) (i + 5) (List.replicate dl.length (.double 0)) [] d e) : zB D code Q L kc ks i dl st' d e := by
  refine xe_Ev_step ⟨_, hc, inf, As, a, fs, st, hT, hk, hst, hn, hA1, ha, hz, hM, hcat, by rw [hm]; exact h1, by rw [hs]; exact h2, ?_⟩
  refine xe_Call_Q D g _ 178 _ _ _ ?_ h
  rintro v z M ⟨rfl, rfl, rfl⟩
  rw [hm, hs]
  exact ⟨fun _ => h', fun q => absurd rfl q⟩
theorem zb_throw (hc : code[i]? = some .athrow) (hcat : xe_cat st ≤ 8) (h1 : 1 ≤ kc) (h2 : 6 ≤ ks) (h : Q (some (.double 0)) 178 (xd_mem L (xh_m d) e)) : zB D code Q L kc ks i dl st d e := xe_Ev_step ⟨_, hc, hcat, h1, h2, Nat.le_refl _, h⟩
theorem zb_ret {P : Int → xh_D → xd_E → Prop} {x : Int} (hc : code[i]? = some .ireturn) (h : P x d e) : zB D code (yQi L P) L kc ks i dl [.int (xJ x)] d e := xe_Ev_step ⟨_, hc, _, rfl, _, _, _, rfl, rfl, rfl, x, d, rfl, rfl, h⟩
theorem zb_last {a n : Nat} {j : Int} {x : Int64} (hc : code[i]? = some .lastore) (hA : xd_Al a n) (hin : 0 ≤ j ∧ j < (n : Int)) (h : zB D code Q L kc ks (i + 1) dl st d (va_up e a (vp_updL (e a) j.toNat x))) : zB D code Q L kc ks i dl (.long x :: .int (xJ j) :: .ref a :: st) d e := xe_Ev_step ⟨_, hc, a, xJ j, x, n, e a, st, rfl, hA.1, hA.2.1, hA.2.2.2 L _ _, xJ_in (by have := hA.2.2.1; omega) hin, by rw [xd_putL L (xh_m d) e a _ _ (hA.2.2.2 L _ _), xJ_nat (by have := hA.2.2.1; omega)]; exact h⟩
end ZBR
