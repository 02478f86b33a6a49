/-! SOUNDNESS of the program logic over the machine. -/
def xe_T (ty : Nat → ClassId) : List (ClassId × FieldType) := [(ty 0, .byte), (ty 1, .int), (ty 2, .long), (ty 3, .boolean), (ty 4, .object RX5)]
abbrev xe_NS : String := "java/util/NoSuchElementException"
/-- words of a throw that the tables alone decide -/
def xe_exw : List Cond := [.castable xe_NS xe_NS, .declares ⟨"java/lang/RuntimeException", "<init>", "()V"⟩, .declares ⟨"java/lang/Exception", "<init>", "()V"⟩, .declares ⟨"java/lang/Throwable", "<init>", "()V"⟩]
theorem xe_exw_warm {s U : State} (hW : s.WarmedH U.vm) (h : ∀ w ∈ xe_exw, va_Nw w s) : ∀ w ∈ xe_exw, va_Nw w U := by
  simp only [xe_exw, List.forall_mem_cons] at h ⊢
  exact ⟨va_Nw.warmC hW h.1, va_Nw.warmD hW h.2.1, va_Nw.warmD hW h.2.2.1, va_Nw.warmD hW h.2.2.2.1, fun _ h => by cases h⟩
theorem xe_exw_same {s U : State} (hv : s.vm = U.vm) (h : ∀ w ∈ xe_exw, va_Nw w s) : ∀ w ∈ xe_exw, va_Nw w U := by
  simp only [xe_exw, List.forall_mem_cons] at h ⊢
  exact ⟨va_Nw.same rfl hv h.1, va_Nw.same rfl hv h.2.1, va_Nw.same rfl hv h.2.2.1, va_Nw.same rfl hv h.2.2.2.1, fun _ h => by cases h⟩
def xe_E (D : va_G) (ty : Nat → ClassId) (U : State) : Prop := va_K D xe_cl (xe_T ty) U ∧ (∀ w ∈ xe_nest, va_Nw w U) ∧ va_AO RX5 U ∧ ∀ w ∈ xe_exw, va_Nw w U
theorem xe_E.warm {D : va_G} {ty : Nat → ClassId} {s U : State} (hW : s.WarmedH U.vm) (h : xe_E D ty s) : xe_E D ty U := by
  refine ⟨va_K.moved hW.alike h.1, fun w hw => ?_, h.2.2.1.moved hW.alike, xe_exw_warm hW h.2.2.2⟩
  have h1 := h.2.1 w hw
  have h2 := (List.mem_filter.mp hw).2
  cases w <;> first | exact va_Nw.warmF hW h1 | exact va_Nw.warmM hW h1 | cases h2
theorem xe_E.same {D : va_G} {ty : Nat → ClassId} {s U : State} (hv : s.vm = U.vm) (h : xe_E D ty s) : xe_E D ty U := by
  have hA : s.vm.Alike U.vm := by rw [hv]; exact Vm.Alike.refl _
  refine ⟨va_K.moved hA h.1, fun w hw => ?_, h.2.2.1.moved hA, xe_exw_same hv h.2.2.2⟩
  have h1 := h.2.1 w hw
  have h2 := (List.mem_filter.mp hw).2
  cases w <;> first | exact va_Nw.same rfl hv h1 | cases h2
def xe_A (base : Nat) : Nat → Prop := fun q => base ≤ q
def xe_H (D : va_G) (ty : Nat → ClassId) (b base L : Nat) (xs : Nat → Int32) (z : Nat) (M : xe_M) (H : Heap) : Prop := va_P D xe_cl (xe_W ty b base z M) H ∧ M 0 = .inl (1, L, .inl xs) ∧ 1 ≤ z ∧ (z < xe_Z → H.size + 1 = base + z)
/-- Throwable's two statics, which no cell of the world is -/
def xe_Ux (base : Nat) (U : State) (H : Heap) : Prop := vx_Zq Bundle.tN "UNASSIGNED_STACK" Bundle.steD (xe_A base) U H ∧ vx_Zq Bundle.tN "SUPPRESSED_SENTINEL" Bundle.listD (xe_A base) U H
def xe_Pc (D : va_G) (ty : Nat → ClassId) (b base L : Nat) (xs : Nat → Int32) (a : List Value) (z : Nat) (M : xe_M) : Array Value → State → Prop := va_Pc (a.map (xe_v b base)) (fun U => xe_E D ty U ∧ va_X b L xs U U.heap ∧ b < base ∧ base ≤ U.heap.size ∧ xe_H D ty b base L xs z M U.heap ∧ xe_Ux base U U.heap)
def xe_Qc (D : va_G) (ty : Nat → ClassId) (b base L : Nat) (xs : Nat → Int32) (Q : xe_Q) : Array Value → State → Outcome → State → Prop := fun _ st oc t => (∃ v z M, oc = .returned (v.map (xe_v b base)) ∧ Q v z M ∧ xe_H D ty b base L xs z M t.heap) ∧ va_F (xe_A base) st t
/-- the locals -/
def xe_l1 (b base k : Nat) (w : Option Value) : Option (Nat × Value) := match w with
  | some (.double _) => none
  | some v => some (k, xe_v b base v)
  | none => none
def xe_l (b base : Nat) (dl : List Value) : List (Nat × Value) := (List.range dl.length).filterMap (fun k => xe_l1 b base k dl[k]?)
theorem xe_l_mem {b base : Nat} {dl : List Value} {k : Nat} {v : Value} (h : dl[k]? = some v) (hd : ∀ x, v ≠ .double x) : (k, xe_v b base v) ∈ xe_l b base dl := by
  refine List.mem_filterMap.mpr ⟨k, List.mem_range.mpr (List.getElem?_eq_some_iff.mp h).1, ?_⟩
  rw [h]
  cases v <;> first | rfl | exact absurd rfl (hd _)
theorem xe_l_of {b base : Nat} {dl : List Value} {q : Nat × Value} (h : q ∈ xe_l b base dl) : ∃ v, dl[q.1]? = some v ∧ (∀ x, v ≠ .double x) ∧ q.2 = xe_v b base v := by
  obtain ⟨k, -, g⟩ := List.mem_filterMap.mp h
  clear h
  cases hv : dl[k]? with
  | none => rw [hv] at g; cases g
  | some v =>
    rw [hv] at g
    cases v <;> first | (cases g; done) | (cases g; exact ⟨_, hv, fun _ h => (by cases h), rfl⟩)
theorem xe_v_cat (b base : Nat) (v : Value) : (xe_v b base v).category = v.category := by cases v <;> rfl
theorem xe_cat_map (b base : Nat) (r : List Value) : ((r.map (xe_v b base)).map fun v => v.category).sum = xe_cat r := by
  unfold xe_cat
  rw [List.map_map]
  exact congrArg List.sum (List.map_congr_left fun v _ => xe_v_cat b base v)
theorem xe_lv_read {ls : Array Slot} {nL b base : Nat} {dl : List Value} (h : lv_has ls nL (xe_l b base dl)) {k : Nat} {v : Value} (hk : dl[k]? = some v) (hd : ∀ x, v ≠ .double x) : ls[k]? = some (.val (xe_v b base v)) := h.2.2 _ (xe_l_mem hk hd)
theorem xe_s1_lt {dl : List Value} {k : Nat} (h : xe_s1 dl k = true) : k < dl.length := by
  simp only [xe_s1, Bool.and_eq_true, decide_eq_true_eq] at h
  exact h.1
theorem xe_s2_lt {dl : List Value} {k : Nat} (h : xe_s2 dl k = true) : k + 1 < dl.length := by
  simp only [xe_s2, Bool.and_eq_true, decide_eq_true_eq] at h
  exact h.1
theorem xe_nolg {dl : List Value} {k j : Nat} {w : Value} (h : (k == 0 || !(xe_lg (dl.getD (k - 1) .null))) = true) (hj : j + 1 = k) (hw : dl[j]? = some w) (hd : ∀ x, w ≠ .double x) : ¬ w.category = 2 := by
  subst hj
  simp only [Nat.add_sub_cancel, List.getD_eq_getElem?_getD, hw, Option.getD_some] at h
  have h0 : ((j + 1 == 0) = false) := rfl
  rw [h0, Bool.false_or] at h
  cases w <;> first | (intro q; cases q; done) | (exact absurd rfl (hd _)) | (simp [xe_lg] at h)
theorem xe_lv_set1 {ls : Array Slot} {nL b base : Nat} {dl : List Value} {k : Nat} {v : Value} (hk : xe_s1 dl k = true) (h : lv_has ls nL ((k, xe_v b base v) :: (xe_l b base dl).filter (fun q => !(q.1 == k) && !(q.1 + 1 == k && q.2.category == 2)))) : lv_has ls nL (xe_l b base (dl.set k v)) := by
  refine ⟨h.1, h.2.1, fun q hq => ?_⟩
  obtain ⟨w, h1, h2, h3⟩ := xe_l_of hq
  have hlt := xe_s1_lt hk
  by_cases he : q.1 = k
  · rw [he, List.getElem?_set_self hlt] at h1
    cases h1
    have := h.2.2 (k, xe_v b base v) List.mem_cons_self
    rw [he, h3]
    exact this
  · rw [List.getElem?_set_ne (Ne.symm he)] at h1
    refine h.2.2 q (List.mem_cons_of_mem _ (List.mem_filter.mpr ⟨by rw [← Prod.eta q, h3]; exact xe_l_mem h1 h2, ?_⟩))
    simp only [xe_s1, Bool.and_eq_true] at hk
    simp only [Bool.and_eq_true, Bool.not_eq_true', beq_eq_false_iff_ne, Bool.and_eq_false_iff]
    refine ⟨he, ?_⟩
    by_cases hj : q.1 + 1 = k
    · right
      rw [h3]
      have := xe_nolg hk.2 hj h1 h2
      rw [xe_v_cat]
      exact this
    · left
      exact hj
theorem xe_lv_set2 {ls : Array Slot} {nL b base : Nat} {dl : List Value} {k : Nat} {v : Value} (hk : xe_s2 dl k = true) (h : lv_has ls nL ((k, xe_v b base v) :: (xe_l b base dl).filter (fun q => !(q.1 == k) && (!(q.1 == k + 1) && !(q.1 + 1 == k && q.2.category == 2))))) : lv_has ls nL (xe_l b base ((dl.set k v).set (k + 1) (.double 0))) := by
  refine ⟨h.1, h.2.1, fun q hq => ?_⟩
  obtain ⟨w, h1, h2, h3⟩ := xe_l_of hq
  have hlt := xe_s2_lt hk
  by_cases he2 : q.1 = k + 1
  · rw [he2, List.getElem?_set_self (by rw [List.length_set]; exact hlt)] at h1
    cases h1
    exact absurd rfl (h2 _)
  · rw [List.getElem?_set_ne (Ne.symm he2)] at h1
    by_cases he : q.1 = k
    · rw [he, List.getElem?_set_self (by omega)] at h1
      cases h1
      have := h.2.2 (k, xe_v b base v) List.mem_cons_self
      rw [he, h3]
      exact this
    · rw [List.getElem?_set_ne (Ne.symm he)] at h1
      refine h.2.2 q (List.mem_cons_of_mem _ (List.mem_filter.mpr ⟨by rw [← Prod.eta q, h3]; exact xe_l_mem h1 h2, ?_⟩))
      simp only [xe_s2, Bool.and_eq_true] at hk
      simp only [Bool.and_eq_true, Bool.not_eq_true', beq_eq_false_iff_ne, Bool.and_eq_false_iff]
      refine ⟨he, he2, ?_⟩
      by_cases hj : q.1 + 1 = k
      · right
        rw [h3]
        have := xe_nolg hk.2 hj h1 h2
        rw [xe_v_cat]
        exact this
      · left
        exact hj
theorem xe_D_d {bs : ByteArray} {pc : Nat} {r : Instr} {n : Nat} (h : xe_D bs pc r n = true) : decode bs pc = .ok (r, n) := of_decide_eq_true h
theorem xe_nx_d {bs : ByteArray} {pcs : List Nat} {i : Nat} {r : Instr} {n : Nat} (h : xe_nx bs pcs i r n = true) : decode bs (pcs.getD i 0) = .ok (r, n) := by
  simp only [xe_nx, Bool.and_eq_true] at h
  exact xe_D_d h.1
theorem xe_nx_e {bs : ByteArray} {pcs : List Nat} {i : Nat} {r : Instr} {n : Nat} (h : xe_nx bs pcs i r n = true) : pcs.getD (i + 1) 0 = pcs.getD i 0 + n := by
  simp only [xe_nx, Bool.and_eq_true, decide_eq_true_eq] at h
  exact h.2
theorem xe_Dv_d {bs : ByteArray} {pc : Nat} {r : Instr} (h : xe_Dv bs pc r = true) : ∃ n, decode bs pc = .ok (r, n) := by
  unfold xe_Dv at h
  split at h
  · rename_i q n hq
    exact ⟨n, by rw [hq, of_decide_eq_true h]⟩
  · cases h
theorem xe_jm_e (pcs : List Nat) (i : Nat) (t : Int) : ((pcs.getD i 0 : Nat) : Int) + xe_jm pcs i t = ((pcs.getD t.toNat 0 : Nat) : Int) := by unfold xe_jm; omega
theorem xe_offs (f : Int → Int) (d x : Int) : ∀ ps : List (Int × Int), Op.lookupswitch.offset (ps.map (fun q => (q.1, f q.2))) (f d) x = f (Op.lookupswitch.offset ps d x) := by
  intro ps
  induction ps with
  | nil => rfl
  | cons a l ih =>
    simp only [List.map_cons, Op.lookupswitch.offset] at ih ⊢
    split <;> simp_all
section XES
variable {p : Program} {l : Launch} {e : Env} {R : Room} {s : State} {m : MethodId} {args : Array Value} {below : List Frame} {meth : Method} {c : Code} {WQ : State → Prop}
variable {D : va_G} {ty : Nat → ClassId} {b base L : Nat} {xs : Nat → Int32}
/-- what a place of the body owes -/
def xe_X (p : Program) (l : Launch) (e : Env) (R : Room) (s : State) (m : MethodId) (args : Array Value) (below : List Frame) (meth : Method) (c : Code) (WQ : State → Prop) (D : va_G) (ty : Nat → ClassId) (b base L : Nat) (xs : Nat → Int32) (nL : Nat) (pcs : List Nat) : xe_K := fun i dl st kc ks z M =>
  ∀ (H : Heap) (locs : List Loc) (ls : Array Slot) (cells slots : Nat), va_S (xe_A base) s.heap H locs → xe_H D ty b base L xs z M H → lv_has ls nL (xe_l b base dl) → dl.length = nL → cells + kc ≤ R.cells → slots + ks ≤ R.slots →
    W p l e R s m args below meth c H locs cells slots WQ (F0 m (pcs.getD i 0) ls (st.map (xe_v b base)))
/-- behind a call -/
theorem xe_call {H H0 : Heap} {locs : List Loc} {cells slots mc ms pc : Nat} {ls : Array Slot} {rest st0 : List Value} {a : Array Value} {P : xe_Q} (hr : va_Run p l e R s m args below meth c H locs cells slots mc ms (F0 m pc ls st0) rest (xe_Qc D ty b base L xs P a) (xe_A base)) (hS : va_S (xe_A base) H0 H locs)
    (kk : ∀ (v : Option Value) (z : Nat) (M : xe_M) (H1 : Heap) (locs1 : List Loc), P v z M → xe_H D ty b base L xs z M H1 → va_S (xe_A base) H0 H1 locs1 → W p l e R s m args below meth c H1 locs1 (cells + mc) (slots + ms) WQ (F0 m (pc + 3) ls ((v.map (xe_v b base)).toList ++ rest))) : W p l e R s m args below meth c H locs cells slots WQ (F0 m pc ls st0) := by
  intro T hT X
  obtain ⟨v, st₀, t, T', Lo, h0, X', hL, e1, e2, ⟨⟨w, z, M, hv, hp, hb⟩, hz, hk⟩, st⟩ := hr T hT X
  cases hv
  rw [h0] at hz hk
  obtain ⟨t2, a1, b1⟩ := kk w z M T'.heap (locs ++ Lo) hp (by rw [e1]; exact hb)
    ⟨Nat.le_trans hS.1 (by rw [e1]; exact hz), fun q h1 h2 => by rw [e1, hk q (Nat.lt_of_lt_of_le h1 hS.1) h2]; exact hS.2.1 q h1 h2, fun q hq => by
      rcases List.mem_append.mp hq with h | h
      · exact hS.2.2 q h
      · exact hL q h⟩ T' rfl X'
  exact ⟨t2, st t2 a1, b1⟩
theorem xe_to {H : Heap} {locs : List Loc} {cells slots pc pc' : Nat} {ls : Array Slot} {st : List Value} (e1 : pc = pc') (h : W p l e R s m args below meth c H locs cells slots WQ (F0 m pc ls st)) : W p l e R s m args below meth c H locs cells slots WQ (F0 m pc' ls st) := e1 ▸ h
theorem xe_T_at (ty : Nat → ClassId) : (xe_T ty)[0]? = some (ty 0, .byte) ∧ (xe_T ty)[1]? = some (ty 1, .int) ∧ (xe_T ty)[2]? = some (ty 2, .long) ∧ (xe_T ty)[3]? = some (ty 3, .boolean) ∧ (xe_T ty)[4]? = some (ty 4, .object RX5) := ⟨rfl, rfl, rfl, rfl, rfl⟩
theorem xe_at {z : Nat} {M : xe_M} {a : Nat} {x : va_E} (h : 0 < a) (hz : a < z) (hM : M a = x) : (xe_W ty b base z M)[a - 1]? = some (xe_ad b base a, xe_c ty b base x) := by
  obtain ⟨j, rfl⟩ : ∃ j, a = j + 1 := ⟨a - 1, by omega⟩
  rw [Nat.add_sub_cancel, xe_W_get hz, hM]
  rfl
theorem xe_put {z : Nat} {M : xe_M} {a : Nat} (x : va_E) (h : 0 < a) : (xe_W ty b base z M).set (a - 1) (xe_ad b base a, xe_c ty b base x) = xe_W ty b base z (va_up M a x) := by
  obtain ⟨j, rfl⟩ : ∃ j, a = j + 1 := ⟨a - 1, by omega⟩
  rw [Nat.add_sub_cancel]
  exact xe_W_set x
theorem xe_H.wr {z : Nat} {M : xe_M} {a : Nat} {H H1 : Heap} {x y : va_E} (h : xe_H D ty b base L xs z M H) (ha : 0 < a) (hz : a < z) (hM : M a = y) (hat : va_at D xe_cl (xe_ad b base a, xe_c ty b base x) H1) (hs : H1.size = H.size) (oq : ∀ q : Nat, q ≠ xe_ad b base a → H1[q]? = H[q]?) : xe_H D ty b base L xs z (va_up M a x) H1 := by
  refine ⟨?_, by rw [va_up_ne _ _ (by omega)]; exact h.2.1, h.2.2.1, fun q => by rw [hs]; exact h.2.2.2 q⟩
  rw [← xe_put x ha]
  exact h.1.set xe_W_D (xe_at ha hz hM) hat oq
theorem xe_Aad {a : Nat} (ha : 0 < a) : xe_A base (xe_ad b base a) := by
  obtain ⟨j, rfl⟩ : ∃ j, a = j + 1 := ⟨a - 1, by omega⟩
  exact Nat.le_add_right _ _
theorem xe_st_i (cA : ClassId) (n k : Nat) (f : Nat → Int32) (x : Int32) : (vp_cell cA (n, .inl f)).setSlot k (.int x) = vp_cell cA (n, .inl (upd f k x)) := by
  rw [vp_cell_i, vp_cell_i, arrV_store]
  congr 1
  funext q
  by_cases hq : q = k
  · subst hq; simp [updV, upd]
  · simp [updV, upd, hq]
theorem xe_st_l (cA : ClassId) (n k : Nat) (f : Nat → Int64) (x : Int64) : (vp_cell cA (n, .inr (.inl f))).setSlot k (.long x) = vp_cell cA (n, .inr (.inl (vp_updL f k x))) := by
  rw [vp_cell_l, vp_cell_l, arrV_store]
  congr 1
  funext q
  by_cases hq : q = k
  · subst hq; simp [updV, vp_updL]
  · simp [updV, vp_updL, hq]
theorem xe_st_q (cA : ClassId) (n k : Nat) (f : Nat → Option Nat) (x : Nat) : (vp_cell cA (n, .inr (.inr (.inr (.inr f))))).setSlot k (.ref x) = vp_cell cA (n, .inr (.inr (.inr (.inr (va_up f k (some x)))))) := by
  rw [vp_cell_q, vp_cell_q, arrV_store]
  congr 1
  funext q
  by_cases hq : q = k
  · subst hq; simp [updV, va_up, va_rf]
  · simp [updV, va_up, hq]
/-- a new place -/
theorem xe_H.mk {z : Nat} {M : xe_M} {H H1 : Heap} {x : va_E} (h : xe_H D ty b base L xs z M H) (hz : z < xe_Z) (hat : va_at D xe_cl (H.size, xe_c ty b base x) H1) (hs : H1.size = H.size + 1) (oq : ∀ q : Nat, q < H.size → H1[q]? = H[q]?) : xe_H D ty b base L xs (z + 1) (va_up M z x) H1 ∧ H.size = xe_ad b base z := by
  obtain ⟨hP, h0, h1, h2⟩ := h
  have h3 := h2 hz
  have h4 : H.size = base + (z - 1) := by omega
  refine ⟨⟨?_, by rw [va_up_ne _ _ (by omega)]; exact h0, by omega, fun _ => by omega⟩, ?_⟩
  · rw [← xe_W_push h1]
    refine (hP.kept fun k q hk => oq q.1 ((hP k q hk).lt)).app fun k q hk => ?_
    have hl : k < 1 := (List.getElem?_eq_some_iff.mp hk).1
    rw [show k = 0 by omega] at hk
    cases hk
    rw [← h4]
    exact hat
  · obtain ⟨j, rfl⟩ : ∃ j, z = j + 1 := ⟨z - 1, by omega⟩
    exact h4
theorem xe_S.mk {H0 H H1 : Heap} {locs : List Loc} (hS : va_S (xe_A base) H0 H locs) (hs : H1.size = H.size + 1) (oq : ∀ q : Nat, q < H.size → H1[q]? = H[q]?) : va_S (xe_A base) H0 H1 locs := ⟨by have := hS.1; omega, fun q h1 h2 => (oq q (Nat.lt_of_lt_of_le h1 hS.1)).trans (hS.2.1 q h1 h2), hS.2.2⟩
end XES
