theorem xe_df_map (b base ci j : Nat) : vp_V (xe_dflt ci) j = vp_V ((xe_dflt ci).map (xe_v b base)) j := by
  have h : (xe_dflt ci).map (xe_v b base) = xe_dflt ci := by
    unfold xe_dflt
    split <;> rfl
  rw [h]
section XEC
variable {p : Program} {l : Launch} {e : Env} {R : Room} {s : State} {m : MethodId} {args : Array Value} {below : List Frame} {meth : Method} {c : Code} {WQ : State → Prop}
variable {D : va_G} {ty : Nat → ClassId} {b base L : Nat} {xs : Nat → Int32}
/-- a call as the machine does it -/
def xe_Ru (p : Program) (l : Launch) (e : Env) (R : Room) (s : State) (m : MethodId) (args : Array Value) (below : List Frame) (meth : Method) (c : Code) (D : va_G) (ty : Nat → ClassId) (b base L : Nat) (xs : Nat → Int32) (nL : Nat) (cc : ByteArray) (i : Instr) (mc ms : Nat) (As : List Value) (z : Nat) (M : xe_M) (P : xe_Q) : Prop :=
  ∀ (H : Heap) (locs : List Loc) (ls : Array Slot) (cells slots pc : Nat) (rest : List Value), va_S (xe_A base) s.heap H locs → xe_H D ty b base L xs z M H → ls.size = nL → cells + mc ≤ R.cells → slots + ms ≤ R.slots → (rest.map fun v => v.category).sum ≤ 8 → decode cc pc = .ok (i, 3) →
    ∃ a, va_Run p l e R s m args below meth c H locs cells slots mc ms (F0 m pc ls ((As.map (xe_v b base)).reverse ++ rest)) rest (xe_Qc D ty b base L xs P a) (xe_A base)
set_option maxHeartbeats 16000000 in
theorem xe_sound {own : String} {T : List xe_I} {C : xe_C} {code : List Instr} {Q : xe_Q} {bs : ByteArray} {nL kind : Nat} {ret : Option FieldType} {pcs : List Nat} {cp : xe_cp}
    (hx : p.tables.exec = Jvm.exec) (hb : c.code = bs) (hml : c.maxLocals = nL) (hown : s.vm.findClass own = some m.cls) (hts : ∀ w ∈ xe_good, w.before args s = true) (hE : xe_E D ty s) (hX : va_X b L xs s s.heap) (hbb : b < base) (hbs : base ≤ s.heap.size)
    (hnm : kind = 2 → meth.name = "<init>") (hcp : xe_cpok own T cp) (hRf : 1 ≤ R.frames) (hRl : 400 ≤ R.locals) (hnat : Cond.native arraycopyName ∈ xe_good ∧ Cond.static arraycopyName ∈ xe_good ∧ Cond.initialized "java/lang/System" ∈ xe_good) (hobj : Cond.instanceMethod objectInit ∈ xe_good ∧ Cond.code objectInit ⟨#[0xb1]⟩ 1 none ∈ xe_good) (harr : ∀ t : ArrayType, (t = .byte ∨ t = .int ∨ t = .long ∨ t = .boolean) → Cond.arrayClass (newarray.typeOf t) ∈ xe_good)
    (hV : ∀ g inf a As z M P idx, T[g]? = some inf → xe_ik inf = 1 → As.length = xe_in inf → As.all xe_c1 = true → (∃ fs, M a = .inr (xe_ic inf, fs)) → 0 < a → a < z → xe_okM own idx (xe_iy inf) → C g (.ref a :: As) z M P → xe_Ru p l e R s m args below meth c D ty b base L xs nL bs (.invokevirtual idx) (xe_im inf) (xe_is inf) (.ref a :: As) z M P)
    (hN : ∀ g inf a As z M P idx, T[g]? = some inf → xe_ik inf = 2 → As.length = xe_in inf → As.all xe_c1 = true → (∃ fs, M a = .inr (xe_ic inf, fs)) → 0 < a → a < z → xe_okM own idx (xe_iy inf) → C g (.ref a :: As) z M P → xe_Ru p l e R s m args below meth c D ty b base L xs nL bs (.invokespecial idx) (xe_im inf) (xe_is inf) (.ref a :: As) z M P)
    (hSt : ∀ (i g : Nat) inf As z M P idx, code[i]? = some (.invokestatic g) → T[g]? = some inf → (xe_ik inf = 0 ∨ xe_ik inf = 4) → As.length = xe_in inf → As.all xe_c1 = true → xe_okM own idx (xe_iy inf) → C g As z M P → xe_Ru p l e R s m args below meth c D ty b base L xs nL bs (.invokestatic idx) (xe_im inf) (xe_is inf) As z M P)
    (hI : ∀ x z M H locs ls cells slots pc, ret = some .int → decode bs pc = .ok (.ireturn, 1) → Q (some (.int x)) z M → va_S (xe_A base) s.heap H locs → xe_H D ty b base L xs z M H → cells ≤ R.cells → slots ≤ R.slots → W p l e R s m args below meth c H locs cells slots WQ (F0 m pc ls [.int x]))
    (hZ : ∀ x z M H locs ls cells slots pc, ret = some .boolean → (x = 0 ∨ x = 1) → decode bs pc = .ok (.ireturn, 1) → Q (some (.int x)) z M → va_S (xe_A base) s.heap H locs → xe_H D ty b base L xs z M H → cells ≤ R.cells → slots ≤ R.slots → W p l e R s m args below meth c H locs cells slots WQ (F0 m pc ls [.int x]))
    (hR : ∀ z M H locs ls cells slots pc, ret = none → decode bs pc = .ok (.return_, 1) → Q none z M → va_S (xe_A base) s.heap H locs → xe_H D ty b base L xs z M H → cells ≤ R.cells → slots ≤ R.slots → W p l e R s m args below meth c H locs cells slots WQ (F0 m pc ls []))
    (hThr : ∀ i st z M H locs ls cells slots, kind = 3 → code[i]? = some Instr.athrow → xe_cat st ≤ 8 → xe_Z ≤ z → Q (some (.double 0)) z M → va_S (xe_A base) s.heap H locs → xe_H D ty b base L xs z M H → ls.size = nL → cells + 1 ≤ R.cells → slots + 6 ≤ R.slots → W p l e R s m args below meth c H locs cells slots WQ (F0 m (pcs.getD i 0) ls (st.map (xe_v b base))))
    (hDyn : ∀ (i g : Nat) dl st kc ks z M, kind = 4 → code[i]? = some (.invokedynamic g) → xe_ins T C Q (xe_X p l e R s m args below meth c WQ D ty b base L xs nL pcs) i dl st kc ks z M (.invokedynamic g) → xe_X p l e R s m args below meth c WQ D ty b base L xs nL pcs i dl st kc ks z M)
    (hchk : ∀ i ins, code[i]? = some ins → xe_chk cp bs kind own ret pcs i ins = true) :
    ∀ i dl st kc ks z M, xe_step T C code Q (xe_X p l e R s m args below meth c WQ D ty b base L xs nL pcs) i dl st kc ks z M → xe_X p l e R s m args below meth c WQ D ty b base L xs nL pcs i dl st kc ks z M := by
  intro i dl st kc ks z M h
  obtain ⟨ins, hc, h⟩ := h
  have hk := hchk i ins hc
  intro H locs ls cells slots hS hH hl hd hcl hsl
  have hTy := xe_T_at ty
  have hK := hE.1
  have hbA : ¬ xe_A base b := Nat.not_le.mpr hbb
  have hA : ∀ q, s.heap.size ≤ q → xe_A base q := fun q h => Nat.le_trans hbs h
  cases ins with
  | iadd =>
    obtain ⟨x, y, r, rfl, h⟩ := h
    have hk : xe_nx bs pcs i .iadd 1 = true := hk
    exact lv_iadd hx hb (xe_nx_d hk) (xe_to (xe_nx_e hk) (h H locs ls cells slots hS hH hl hd hcl hsl))
  | isub =>
    obtain ⟨x, y, r, rfl, h⟩ := h
    have hk : xe_nx bs pcs i .isub 1 = true := hk
    exact lv_isub hx hb (xe_nx_d hk) (xe_to (xe_nx_e hk) (h H locs ls cells slots hS hH hl hd hcl hsl))
  | imul =>
    obtain ⟨x, y, r, rfl, h⟩ := h
    have hk : xe_nx bs pcs i .imul 1 = true := hk
    exact lv_imul hx hb (xe_nx_d hk) (xe_to (xe_nx_e hk) (h H locs ls cells slots hS hH hl hd hcl hsl))
  | iand =>
    obtain ⟨x, y, r, rfl, h⟩ := h
    have hk : xe_nx bs pcs i .iand 1 = true := hk
    exact lv_iand hx hb (xe_nx_d hk) (xe_to (xe_nx_e hk) (h H locs ls cells slots hS hH hl hd hcl hsl))
  | ior =>
    obtain ⟨x, y, r, rfl, h⟩ := h
    have hk : xe_nx bs pcs i .ior 1 = true := hk
    exact lv_ior hx hb (xe_nx_d hk) (xe_to (xe_nx_e hk) (h H locs ls cells slots hS hH hl hd hcl hsl))
  | ixor =>
    obtain ⟨x, y, r, rfl, h⟩ := h
    have hk : xe_nx bs pcs i .ixor 1 = true := hk
    exact lv_ixor hx hb (xe_nx_d hk) (xe_to (xe_nx_e hk) (h H locs ls cells slots hS hH hl hd hcl hsl))
  | ishl =>
    obtain ⟨x, y, r, rfl, h⟩ := h
    have hk : xe_nx bs pcs i .ishl 1 = true := hk
    exact lv_ishl hx hb (xe_nx_d hk) (xe_to (xe_nx_e hk) (h H locs ls cells slots hS hH hl hd hcl hsl))
  | ishr =>
    obtain ⟨x, y, r, rfl, h⟩ := h
    have hk : xe_nx bs pcs i .ishr 1 = true := hk
    exact lv_ishr hx hb (xe_nx_d hk) (xe_to (xe_nx_e hk) (h H locs ls cells slots hS hH hl hd hcl hsl))
  | lor =>
    obtain ⟨x, y, r, rfl, h⟩ := h
    have hk : xe_nx bs pcs i .lor 1 = true := hk
    exact lv_lor hx hb (xe_nx_d hk) (xe_to (xe_nx_e hk) (h H locs ls cells slots hS hH hl hd hcl hsl))
  | lxor =>
    obtain ⟨x, y, r, rfl, h⟩ := h
    have hk : xe_nx bs pcs i .lxor 1 = true := hk
    exact lv_lxor hx hb (xe_nx_d hk) (xe_to (xe_nx_e hk) (h H locs ls cells slots hS hH hl hd hcl hsl))
  | lcmp =>
    obtain ⟨x, y, r, rfl, h⟩ := h
    have hk : xe_nx bs pcs i .lcmp 1 = true := hk
    exact W.lcmp hx hb (xe_nx_d hk) (xe_to (xe_nx_e hk) (h H locs ls cells slots hS hH hl hd hcl hsl))
  | idiv =>
    obtain ⟨x, y, r, rfl, h0, h⟩ := h
    have hk : xe_nx bs pcs i .idiv 1 = true := hk
    exact lv_idiv hx hb (xe_nx_d hk) h0 (xe_to (xe_nx_e hk) (h H locs ls cells slots hS hH hl hd hcl hsl))
  | irem =>
    obtain ⟨x, y, r, rfl, h0, h⟩ := h
    have hk : xe_nx bs pcs i .irem 1 = true := hk
    exact lv_irem hx hb (xe_nx_d hk) h0 (xe_to (xe_nx_e hk) (h H locs ls cells slots hS hH hl hd hcl hsl))
  | iushr =>
    obtain ⟨x, y, r, rfl, h⟩ := h
    have hk : xe_nx bs pcs i .iushr 1 = true := hk
    exact lv_iushr hx hb (xe_nx_d hk) rfl (xe_to (xe_nx_e hk) (h H locs ls cells slots hS hH hl hd hcl hsl))
  | lushr =>
    obtain ⟨x, y, r, rfl, h⟩ := h
    have hk : xe_nx bs pcs i .lushr 1 = true := hk
    exact lv_lushr hx hb (xe_nx_d hk) rfl (xe_to (xe_nx_e hk) (h H locs ls cells slots hS hH hl hd hcl hsl))
  | lshl =>
    obtain ⟨x, y, r, rfl, h⟩ := h
    have hk : xe_nx bs pcs i .lshl 1 = true := hk
    exact lv_lshl hx hb (xe_nx_d hk) rfl (xe_to (xe_nx_e hk) (h H locs ls cells slots hS hH hl hd hcl hsl))
  | ineg =>
    obtain ⟨x, r, rfl, h⟩ := h
    have hk : xe_nx bs pcs i .ineg 1 = true := hk
    exact lv_ineg hx hb (xe_nx_d hk) (xe_to (xe_nx_e hk) (h H locs ls cells slots hS hH hl hd hcl hsl))
  | i2b =>
    obtain ⟨x, r, rfl, h⟩ := h
    have hk : xe_nx bs pcs i .i2b 1 = true := hk
    exact lv_i2b hx hb (xe_nx_d hk) rfl (xe_to (xe_nx_e hk) (h H locs ls cells slots hS hH hl hd hcl hsl))
  | i2s =>
    obtain ⟨x, r, rfl, h⟩ := h
    have hk : xe_nx bs pcs i .i2s 1 = true := hk
    exact lv_i2s hx hb (xe_nx_d hk) rfl (xe_to (xe_nx_e hk) (h H locs ls cells slots hS hH hl hd hcl hsl))
  | i2l =>
    obtain ⟨x, r, rfl, h⟩ := h
    have hk : xe_nx bs pcs i .i2l 1 = true := hk
    exact lv_i2l hx hb (xe_nx_d hk) rfl (xe_to (xe_nx_e hk) (h H locs ls cells slots hS hH hl hd hcl hsl))
  | l2i =>
    obtain ⟨x, r, rfl, h⟩ := h
    have hk : xe_nx bs pcs i .l2i 1 = true := hk
    exact lv_l2i hx hb (xe_nx_d hk) rfl (xe_to (xe_nx_e hk) (h H locs ls cells slots hS hH hl hd hcl hsl))
  | sipush v =>
    have h : xe_X p l e R s m args below meth c WQ D ty b base L xs nL pcs (i + 1) dl (.int (Int32.ofInt v) :: st) kc ks z M := h
    simp only [xe_chk, Bool.or_eq_true, Bool.and_eq_true, decide_eq_true_eq, List.any_eq_true] at hk
    rcases hk with ((hk | ⟨hk, hv⟩) | ⟨hk, hv⟩) | ⟨q, hq, hv, hk⟩
    · exact lv_iconst hx hb (xe_nx_d hk) rfl (xe_to (xe_nx_e hk) (h H locs ls cells slots hS hH hl hd hcl hsl))
    · exact lv_bipush hx hb (xe_nx_d hk) hv (xe_to (xe_nx_e hk) (h H locs ls cells slots hS hH hl hd hcl hsl))
    · exact lv_sipush hx hb (xe_nx_d hk) hv (xe_to (xe_nx_e hk) (h H locs ls cells slots hS hH hl hd hcl hsl))
    · have hw := hts _ (hcp.2.2.1 q hq)
      rw [hv] at hw
      rcases hk with hk | hk
      · exact W.ldc hx hb hown hw rfl (xe_nx_d hk) (xe_to (xe_nx_e hk) (h H locs ls cells slots hS hH hl hd hcl hsl))
      · exact lv_ldcw hx hb hown hw (xe_nx_d hk) (xe_to (xe_nx_e hk) (h H locs ls cells slots hS hH hl hd hcl hsl))
  | lconst n =>
    obtain ⟨rfl, h⟩ := h
    have hk : xe_nx bs pcs i (.lconst 0) 1 = true := hk
    exact lv_lconst hx hb (xe_nx_d hk) rfl (xe_to (xe_nx_e hk) (h H locs ls cells slots hS hH hl hd hcl hsl))
  | aconst_null =>
    have h : xe_X p l e R s m args below meth c WQ D ty b base L xs nL pcs (i + 1) dl (.null :: st) kc ks z M := h
    have hk : xe_nx bs pcs i .aconst_null 1 = true := hk
    exact lv_null hx hb (xe_nx_d hk) (xe_to (xe_nx_e hk) (h H locs ls cells slots hS hH hl hd hcl hsl))
  | iload k =>
    obtain ⟨x, hv, h⟩ := h
    simp only [xe_chk, Bool.or_eq_true, Bool.and_eq_true, decide_eq_true_eq] at hk
    have hr := xe_lv_read hl hv (fun _ q => by cases q)
    rcases hk with ⟨h4, hk⟩ | hk
    · exact lv_iload_n hx hb (xe_nx_d hk) (Nat.mod_eq_of_lt h4) hr (xe_to (xe_nx_e hk) (h H locs ls cells slots hS hH hl hd hcl hsl))
    · exact lv_iload hx hb (xe_nx_d hk) hr (xe_to (xe_nx_e hk) (h H locs ls cells slots hS hH hl hd hcl hsl))
  | lload k =>
    obtain ⟨x, hv, h⟩ := h
    simp only [xe_chk, Bool.or_eq_true, Bool.and_eq_true, decide_eq_true_eq] at hk
    have hr := xe_lv_read hl hv (fun _ q => by cases q)
    rcases hk with ⟨h4, hk⟩ | hk
    · exact lv_lload_n hx hb (xe_nx_d hk) (Nat.mod_eq_of_lt h4) hr (xe_to (xe_nx_e hk) (h H locs ls cells slots hS hH hl hd hcl hsl))
    · exact lv_lload hx hb (xe_nx_d hk) hr (xe_to (xe_nx_e hk) (h H locs ls cells slots hS hH hl hd hcl hsl))
  | aload k =>
    obtain ⟨x, hv, h⟩ := h
    simp only [xe_chk, Bool.or_eq_true, Bool.and_eq_true, decide_eq_true_eq] at hk
    have hr := xe_lv_read hl hv (fun _ q => by cases q)
    rcases hk with ⟨h4, hk⟩ | hk
    · exact lv_aload_n hx hb (xe_nx_d hk) (Nat.mod_eq_of_lt h4) hr (xe_to (xe_nx_e hk) (h H locs ls cells slots hS hH hl hd hcl hsl))
    · exact lv_aload hx hb (xe_nx_d hk) hr (xe_to (xe_nx_e hk) (h H locs ls cells slots hS hH hl hd hcl hsl))
  | istore k =>
    obtain ⟨x, r, rfl, h1, h⟩ := h
    simp only [xe_chk, Bool.or_eq_true, Bool.and_eq_true, decide_eq_true_eq] at hk
    have hlt := xe_s1_lt h1
    rcases hk with ⟨h4, hk⟩ | hk
    · exact lv_istore_n hx hb (xe_nx_d hk) (Nat.mod_eq_of_lt h4) hl (by omega) rfl (fun ls' hl' => xe_to (xe_nx_e hk) (h H locs ls' cells slots hS hH (xe_lv_set1 (v := .int x) h1 hl') (xe_len1 hd) hcl hsl))
    · exact lv_istore hx hb (xe_nx_d hk) hl (by omega) rfl (fun ls' hl' => xe_to (xe_nx_e hk) (h H locs ls' cells slots hS hH (xe_lv_set1 (v := .int x) h1 hl') (xe_len1 hd) hcl hsl))
  | astore k =>
    obtain ⟨x, r, rfl, h1, h⟩ := h
    simp only [xe_chk, Bool.or_eq_true, Bool.and_eq_true, decide_eq_true_eq] at hk
    have hlt := xe_s1_lt h1
    rcases hk with ⟨h4, hk⟩ | hk
    · exact lv_astore_n hx hb (xe_nx_d hk) (Nat.mod_eq_of_lt h4) hl (by omega) rfl (fun ls' hl' => xe_to (xe_nx_e hk) (h H locs ls' cells slots hS hH (xe_lv_set1 (v := .ref x) h1 hl') (xe_len1 hd) hcl hsl))
    · exact lv_astore hx hb (xe_nx_d hk) hl (by omega) rfl (fun ls' hl' => xe_to (xe_nx_e hk) (h H locs ls' cells slots hS hH (xe_lv_set1 (v := .ref x) h1 hl') (xe_len1 hd) hcl hsl))
  | lstore k =>
    obtain ⟨x, r, rfl, h1, h⟩ := h
    simp only [xe_chk, Bool.or_eq_true, Bool.and_eq_true, decide_eq_true_eq] at hk
    have hlt := xe_s2_lt h1
    rcases hk with ⟨h4, hk⟩ | hk
    · exact lv_lstore_n hx hb (xe_nx_d hk) (Nat.mod_eq_of_lt h4) hl (by omega) rfl (fun ls' hl' => xe_to (xe_nx_e hk) (h H locs ls' cells slots hS hH (xe_lv_set2 (v := .long x) h1 hl') (xe_len1 (xe_len1 hd)) hcl hsl))
    · exact lv_lstore hx hb (xe_nx_d hk) hl (by omega) rfl (fun ls' hl' => xe_to (xe_nx_e hk) (h H locs ls' cells slots hS hH (xe_lv_set2 (v := .long x) h1 hl') (xe_len1 (xe_len1 hd)) hcl hsl))
  | iinc k n =>
    obtain ⟨x, hv, h1, h⟩ := h
    have hk : xe_nx bs pcs i (.iinc k n) 3 = true := hk
    have hlt := xe_s1_lt h1
    obtain ⟨j, hj⟩ := List.getElem?_of_mem (xe_l_mem (b := b) (base := base) hv (fun _ q => by cases q))
    exact lv_iinc hx hb (xe_nx_d hk) hl hj rfl (by omega) rfl (fun ls' hl' => xe_to (xe_nx_e hk) (h H locs ls' cells slots hS hH (xe_lv_set1 (v := .int (x + Int32.ofInt n)) h1 hl') (xe_len1 hd) hcl hsl))
  | dup =>
    obtain ⟨v, r, rfl, h1, h⟩ := h
    have hk : xe_nx bs pcs i .dup 1 = true := hk
    exact lv_dup hx hb (xe_nx_d hk) (by rw [xe_v_cat]; exact h1) (xe_to (xe_nx_e hk) (h H locs ls cells slots hS hH hl hd hcl hsl))
  | pop =>
    obtain ⟨v, r, rfl, h1, h⟩ := h
    have hk : xe_nx bs pcs i .pop 1 = true := hk
    exact lv_pop hx hb (xe_nx_d hk) (by rw [xe_v_cat]; exact h1) (xe_to (xe_nx_e hk) (h H locs ls cells slots hS hH hl hd hcl hsl))
  | dup_x1 =>
    obtain ⟨v, u, r, rfl, h1, h2, h⟩ := h
    have hk : xe_nx bs pcs i .dup_x1 1 = true := hk
    exact lv_dup_x1 hx hb (xe_nx_d hk) (by rw [xe_v_cat]; exact h1) (by rw [xe_v_cat]; exact h2) (xe_to (xe_nx_e hk) (h H locs ls cells slots hS hH hl hd hcl hsl))
  | dup2 =>
    obtain ⟨v, u, r, rfl, h1, h2, h⟩ := h
    have hk : xe_nx bs pcs i .dup2 1 = true := hk
    exact lv_dup2_11 hx hb (xe_nx_d hk) (by rw [xe_v_cat]; exact h1) (by rw [xe_v_cat]; exact h2) (xe_to (xe_nx_e hk) (h H locs ls cells slots hS hH hl hd hcl hsl))
  | goto t =>
    have h : xe_X p l e R s m args below meth c WQ D ty b base L xs nL pcs t.toNat dl st kc ks z M := h
    have hk : xe_D bs (pcs.getD i 0) (.goto (xe_jm pcs i t)) 3 = true := hk
    exact lv_goto hx hb (xe_D_d hk) (xe_jm_e pcs i t) (h H locs ls cells slots hS hH hl hd hcl hsl)
  | ifCond q t =>
    obtain ⟨x, r, rfl, h1, h2⟩ := h
    have hk : xe_nx bs pcs i (.ifCond q (xe_jm pcs i t)) 3 = true := hk
    cases q
    · exact lv_if_eq hx hb (xe_nx_d hk) (xe_jm_e pcs i t) (fun q => h1 q H locs ls cells slots hS hH hl hd hcl hsl) (fun q => xe_to (xe_nx_e hk) (h2 (by first | exact q | exact fun z => z q | exact Int32.not_le.mpr q | exact Int32.not_lt.mpr q) H locs ls cells slots hS hH hl hd hcl hsl))
    · exact lv_if_ne hx hb (xe_nx_d hk) (xe_jm_e pcs i t) (fun q => h1 q H locs ls cells slots hS hH hl hd hcl hsl) (fun q => xe_to (xe_nx_e hk) (h2 (by first | exact q | exact fun z => z q | exact Int32.not_le.mpr q | exact Int32.not_lt.mpr q) H locs ls cells slots hS hH hl hd hcl hsl))
    · exact lv_if_lt hx hb (xe_nx_d hk) (xe_jm_e pcs i t) (fun q => h1 q H locs ls cells slots hS hH hl hd hcl hsl) (fun q => xe_to (xe_nx_e hk) (h2 (by first | exact q | exact fun z => z q | exact Int32.not_le.mpr q | exact Int32.not_lt.mpr q) H locs ls cells slots hS hH hl hd hcl hsl))
    · exact lv_if_ge hx hb (xe_nx_d hk) (xe_jm_e pcs i t) (fun q => h1 q H locs ls cells slots hS hH hl hd hcl hsl) (fun q => xe_to (xe_nx_e hk) (h2 (by first | exact q | exact fun z => z q | exact Int32.not_le.mpr q | exact Int32.not_lt.mpr q) H locs ls cells slots hS hH hl hd hcl hsl))
    · exact lv_if_gt hx hb (xe_nx_d hk) (xe_jm_e pcs i t) (fun q => h1 q H locs ls cells slots hS hH hl hd hcl hsl) (fun q => xe_to (xe_nx_e hk) (h2 (by first | exact q | exact fun z => z q | exact Int32.not_le.mpr q | exact Int32.not_lt.mpr q) H locs ls cells slots hS hH hl hd hcl hsl))
    · exact lv_if_le hx hb (xe_nx_d hk) (xe_jm_e pcs i t) (fun q => h1 q H locs ls cells slots hS hH hl hd hcl hsl) (fun q => xe_to (xe_nx_e hk) (h2 (by first | exact q | exact fun z => z q | exact Int32.not_le.mpr q | exact Int32.not_lt.mpr q) H locs ls cells slots hS hH hl hd hcl hsl))
  | if_icmp q t =>
    obtain ⟨x, y, r, rfl, h1, h2⟩ := h
    have hk : xe_nx bs pcs i (.if_icmp q (xe_jm pcs i t)) 3 = true := hk
    cases q
    · exact lv_icmp_eq hx hb (xe_nx_d hk) (xe_jm_e pcs i t) (fun q => h1 q H locs ls cells slots hS hH hl hd hcl hsl) (fun q => xe_to (xe_nx_e hk) (h2 (by first | exact q | exact fun z => z q | exact Int32.not_le.mpr q | exact Int32.not_lt.mpr q) H locs ls cells slots hS hH hl hd hcl hsl))
    · exact lv_icmp_ne hx hb (xe_nx_d hk) (xe_jm_e pcs i t) (fun q => h1 q H locs ls cells slots hS hH hl hd hcl hsl) (fun q => xe_to (xe_nx_e hk) (h2 (by first | exact q | exact fun z => z q | exact Int32.not_le.mpr q | exact Int32.not_lt.mpr q) H locs ls cells slots hS hH hl hd hcl hsl))
    · exact lv_icmp_lt hx hb (xe_nx_d hk) (xe_jm_e pcs i t) (fun q => h1 q H locs ls cells slots hS hH hl hd hcl hsl) (fun q => xe_to (xe_nx_e hk) (h2 (by first | exact q | exact fun z => z q | exact Int32.not_le.mpr q | exact Int32.not_lt.mpr q) H locs ls cells slots hS hH hl hd hcl hsl))
    · exact lv_icmp_ge hx hb (xe_nx_d hk) (xe_jm_e pcs i t) (fun q => h1 q H locs ls cells slots hS hH hl hd hcl hsl) (fun q => xe_to (xe_nx_e hk) (h2 (by first | exact q | exact fun z => z q | exact Int32.not_le.mpr q | exact Int32.not_lt.mpr q) H locs ls cells slots hS hH hl hd hcl hsl))
    · exact lv_icmp_gt hx hb (xe_nx_d hk) (xe_jm_e pcs i t) (fun q => h1 q H locs ls cells slots hS hH hl hd hcl hsl) (fun q => xe_to (xe_nx_e hk) (h2 (by first | exact q | exact fun z => z q | exact Int32.not_le.mpr q | exact Int32.not_lt.mpr q) H locs ls cells slots hS hH hl hd hcl hsl))
    · exact lv_icmp_le hx hb (xe_nx_d hk) (xe_jm_e pcs i t) (fun q => h1 q H locs ls cells slots hS hH hl hd hcl hsl) (fun q => xe_to (xe_nx_e hk) (h2 (by first | exact q | exact fun z => z q | exact Int32.not_le.mpr q | exact Int32.not_lt.mpr q) H locs ls cells slots hS hH hl hd hcl hsl))
  | ifnonnull t =>
    have hk : xe_nx bs pcs i (.ifnonnull (xe_jm pcs i t)) 3 = true := hk
    rcases h with ⟨a, r, rfl, h⟩ | ⟨r, rfl, h⟩
    · exact lv_ifnonnull hx hb (xe_nx_d hk) (xe_jm_e pcs i t) (h H locs ls cells slots hS hH hl hd hcl hsl)
    · exact lv_ifnonnullN hx hb (xe_nx_d hk) (xe_to (xe_nx_e hk) (h H locs ls cells slots hS hH hl hd hcl hsl))
  | tableswitch d lo hi os =>
    obtain ⟨x, r, rfl, h1, h2⟩ := h
    obtain ⟨len, hk⟩ := xe_Dv_d hk
    by_cases q : x.toInt < lo ∨ hi < x.toInt
    · exact lv_tableOut hx hb hk q (xe_jm_e pcs i d) (h1 q H locs ls cells slots hS hH hl hd hcl hsl)
    · obtain ⟨t, ht, h⟩ := h2 (fun z => q (Or.inl z)) (fun z => q (Or.inr z))
      exact lv_tableIn hx hb hk (fun z => q (Or.inl z)) (fun z => q (Or.inr z)) (by rw [Array.getElem?_map, ht]; rfl) (xe_jm_e pcs i t) (h H locs ls cells slots hS hH hl hd hcl hsl)
  | lookupswitch d ps =>
    obtain ⟨x, r, rfl, h⟩ := h
    simp only [xe_chk, Bool.and_eq_true] at hk
    obtain ⟨len, hk1⟩ := xe_Dv_d hk.1
    refine lv_lookup hx hb hk1 ?_ rfl ?_ (h H locs ls cells slots hS hH hl hd hcl hsl)
    · have := hk.2
      simp only [Array.toList_map, List.drop_one, ← List.map_tail, List.zip_map, List.all_map] at this ⊢
      exact this
    · rw [Array.toList_map, xe_offs (xe_jm pcs i)]
      exact xe_jm_e pcs i _
  | getfield n =>
    obtain ⟨a, fs, v, r, rfl, ha, hz, hM, hv, h⟩ := h
    simp only [xe_chk, List.any_eq_true, Bool.and_eq_true, decide_eq_true_eq] at hk
    obtain ⟨q, hq, ⟨e1, e2⟩, hk⟩ := hk
    obtain ⟨r0, hc0, hk0, hdecl, hin, hlink⟩ := hcp.1 q hq
    rw [e1] at hc0
    rw [e2] at hk0 hdecl hlink
    have he := xe_at (ty := ty) (b := b) (base := base) ha hz hM
    have hv2 : (fs.map (xe_v b base))[n % 64]? = some (xe_v b base v) := by rw [List.getElem?_map, hv]; rfl
    rcases hlink with hlink | ⟨host, hlink⟩
    · exact va_get hx hb hts hin hown hK hH.1 (a - 1) he hc0 (n % 64) hk0 (hts _ hlink) (fun x hx => by rw [← hdecl]; exact hx) hv2 (xe_nx_d hk) (xe_to (xe_nx_e hk) (h H locs ls cells slots hS hH hl hd hcl hsl))
    · exact va_getN hx hb hts hin hown hK hH.1 (a - 1) he hc0 (n % 64) hk0 (va_Nw.use rfl (hE.2.1 _ hlink)) (fun x hx => by rw [← hdecl]; exact hx) hv2 (xe_nx_d hk) (xe_to (xe_nx_e hk) (h H locs ls cells slots hS hH hl hd hcl hsl))
  | putfield n =>
    obtain ⟨a, fs, v, r, rfl, ha, hz, hM, hlf, hfit, h⟩ := h
    simp only [xe_chk, List.any_eq_true, Bool.and_eq_true, decide_eq_true_eq] at hk
    obtain ⟨q, hq, ⟨⟨e1, e2⟩, hk⟩, hfin⟩ := hk
    have hF := hcp.1 q hq
    rw [e1, e2] at hF
    refine xe_putf hx hb hown hts hE hS hH ha hz hM hlf hfit hF (fun r0 hr0 => ?_) (xe_nx_d hk) (fun H1 locs1 hS1 hH1 => xe_to (xe_nx_e hk) (h H1 locs1 ls cells slots hS1 hH1 hl hd hcl hsl))
    rw [hr0] at hfin
    simp only [Bool.or_eq_true, Bool.not_eq_true', Bool.and_eq_true, decide_eq_true_eq] at hfin
    rcases hfin with q | ⟨q1, q2⟩
    · exact Or.inl q
    · exact Or.inr ⟨hnm q1, q2⟩
  | iaload =>
    obtain ⟨a, j, n, f, r, rfl, hz, hM, hin, h⟩ := h
    have hk : xe_nx bs pcs i .iaload 1 = true := hk
    by_cases ha : 0 < a
    · exact va_iald hx hb hK hH.1 (a - 1) 1 (xe_at (ty := ty) (b := b) (base := base) ha hz hM) hTy.2.1 hin (xe_nx_d hk) (xe_to (xe_nx_e hk) (h H locs ls cells slots hS hH hl hd hcl hsl))
    · obtain rfl : a = 0 := Nat.eq_zero_of_not_pos ha
      have hM2 := hM.symm.trans hH.2.1
      cases hM2
      exact va_sld hx hb hX (Nat.lt_of_lt_of_le hbb hbs) hbA hS hin (xe_nx_d hk) (xe_to (xe_nx_e hk) (h H locs ls cells slots hS hH hl hd hcl hsl))
  | baload =>
    obtain ⟨a, j, t, n, f, r, rfl, ha, hz, ht, hM, hin, h⟩ := h
    have hk : xe_nx bs pcs i .baload 1 = true := hk
    rcases ht with rfl | rfl
    · exact va_bald hx hb hK hH.1 (a - 1) 0 (xe_at (ty := ty) (b := b) (base := base) ha hz hM) hTy.1 hin (xe_nx_d hk) (xe_to (xe_nx_e hk) (h H locs ls cells slots hS hH hl hd hcl hsl))
    · exact va_zald hx hb hK hH.1 (a - 1) 3 (xe_at (ty := ty) (b := b) (base := base) ha hz hM) hTy.2.2.2.1 hin (xe_nx_d hk) (xe_to (xe_nx_e hk) (h H locs ls cells slots hS hH hl hd hcl hsl))
  | laload =>
    obtain ⟨a, j, n, f, r, rfl, ha, hz, hM, hin, h⟩ := h
    have hk : xe_nx bs pcs i .laload 1 = true := hk
    exact va_lald hx hb hK hH.1 (a - 1) 2 (xe_at (ty := ty) (b := b) (base := base) ha hz hM) hTy.2.2.1 hin (xe_nx_d hk) (xe_to (xe_nx_e hk) (h H locs ls cells slots hS hH hl hd hcl hsl))
  | aaload =>
    obtain ⟨a, j, n, f, r, rfl, ha, hz, hM, hin, h⟩ := h
    have hk : xe_nx bs pcs i .aaload 1 = true := hk
    refine va_aldq hx hb hK hH.1 (a - 1) 4 (xe_at (ty := ty) (b := b) (base := base) ha hz hM) hTy.2.2.2.2 hin (xe_nx_d hk) (xe_to (xe_nx_e hk) ?_)
    have h9 := h H locs ls cells slots hS hH hl hd hcl hsl
    have e9 : va_rf ((f j.toNatClampNeg).map (xe_ad b base)) = xe_v b base (va_rf (f j.toNatClampNeg)) := by cases f j.toNatClampNeg <;> rfl
    rw [e9]
    exact h9
  | iastore =>
    obtain ⟨a, j, x, n, f, r, rfl, ha, hz, hM, hin, h⟩ := h
    have hk : xe_nx bs pcs i .iastore 1 = true := hk
    have he := hH.1 _ _ (xe_at (ty := ty) (b := b) (base := base) ha hz hM)
    refine W.iast hx hb he ((hK.2 1 _ hTy.2.1).1 n (fun j => .int (f j))) (fun q => by cases q) (by show ¬ (j < 0 ∨ (arrV _ _ _).slots.size ≤ _); rw [arrV_size]; exact hin) rfl rfl (xe_nx_d hk) (fun H1 e1 e2 e3 => ?_)
    refine xe_to (xe_nx_e hk) (h H1 _ ls cells slots (hS.put e2 e3 (xe_Aad ha)) (hH.wr ha hz hM ?_ e2 e3) hl hd hcl hsl)
    exact e1.trans (congrArg some (xe_st_i (ty 1) n _ f x))
  | bastore =>
    obtain ⟨a, j, x, t, n, f, r, rfl, ha, hz, ht, hM, hin, h⟩ := h
    have hk : xe_nx bs pcs i .bastore 1 = true := hk
    have he := hH.1 _ _ (xe_at (ty := ty) (b := b) (base := base) ha hz hM)
    rcases ht with ⟨rfl, hx8⟩ | ⟨rfl, hx1⟩
    · refine W.bast hx hb he ((hK.2 0 _ hTy.1).1 n (fun j => .int (f j))) (fun q => by cases q) (by show ¬ (j < 0 ∨ (arrV _ _ _).slots.size ≤ _); rw [arrV_size]; exact hin) rfl rfl (xe_nx_d hk) (fun H1 e1 e2 e3 => ?_)
      refine xe_to (xe_nx_e hk) (h H1 _ ls cells slots (hS.put e2 e3 (xe_Aad ha)) (hH.wr ha hz hM ?_ e2 e3) hl hd hcl hsl)
      have e8 : narrow .byte (.int x) = .int x := by
        have := pk_nb x
        rw [hx8] at this
        exact this
      rw [e8] at e1
      exact e1.trans (congrArg some (xe_st_i (ty 0) n _ f x))
    · refine W.zast hx hb he ((hK.2 3 _ hTy.2.2.2.1).1 n (fun j => .int (f j))) (fun q => by cases q) (by show ¬ (j < 0 ∨ (arrV _ _ _).slots.size ≤ _); rw [arrV_size]; exact hin) rfl rfl (xe_nx_d hk) (fun H1 e1 e2 e3 => ?_)
      refine xe_to (xe_nx_e hk) (h H1 _ ls cells slots (hS.put e2 e3 (xe_Aad ha)) (hH.wr ha hz hM ?_ e2 e3) hl hd hcl hsl)
      have e8 : narrow .boolean (.int x) = .int x := by rcases hx1 with rfl | rfl <;> decide
      rw [e8] at e1
      exact e1.trans (congrArg some (xe_st_i (ty 3) n _ f x))
  | lastore =>
    obtain ⟨a, j, x, n, f, r, rfl, ha, hz, hM, hin, h⟩ := h
    have hk : xe_nx bs pcs i .lastore 1 = true := hk
    have he := hH.1 _ _ (xe_at (ty := ty) (b := b) (base := base) ha hz hM)
    refine W.last hx hb he ((hK.2 2 _ hTy.2.2.1).1 n (fun j => .long (f j))) (fun q => by cases q) (by show ¬ (j < 0 ∨ (arrV _ _ _).slots.size ≤ _); rw [arrV_size]; exact hin) rfl rfl (xe_nx_d hk) (fun H1 e1 e2 e3 => ?_)
    refine xe_to (xe_nx_e hk) (h H1 _ ls cells slots (hS.put e2 e3 (xe_Aad ha)) (hH.wr ha hz hM ?_ e2 e3) hl hd hcl hsl)
    exact e1.trans (congrArg some (xe_st_l (ty 2) n _ f x))
  | aastore =>
    obtain ⟨a, j, q, n, f, fs, r, rfl, ha, hz, hq, hqz, hMq, hM, hin, h⟩ := h
    have hk : xe_nx bs pcs i .aastore 1 = true := hk
    have he := hH.1 _ _ (xe_at (ty := ty) (b := b) (base := base) ha hz hM)
    obtain ⟨r5, hr5, cellV, g1, g2, g3, -⟩ := hH.1 _ _ (xe_at (ty := ty) (b := b) (base := base) hq hqz hMq)
    have hcls := (hK.1 5 r5 hr5).2
    obtain rfl : r5 = (RX5, TX5, 6) := (Option.some.inj hr5).symm
    obtain ⟨kA, comp, k1, k2, k3, -⟩ := (hK.2 4 _ hTy.2.2.2.2).2
    have hcomp : comp = D.1 5 := Option.some.inj (k3.symm.trans hcls.1)
    subst hcomp
    obtain ⟨kC, hkC, -⟩ := hcls.2
    have hlt : j.toNatClampNeg < n := Nat.not_le.mp fun q => hin (Or.inr q)
    refine W.aast hx hb he (fun q h => by cases h) (fun h => by cases h) k1 k2 rfl hkC ⟨fun q => hin (Or.inl q), by show _ < (arrV _ _ _).slots.size; rw [arrV_size]; exact hlt⟩ g1 (fun q h => by rw [g3] at h; cases h) (by rw [g2]; exact hkC) (by rw [g2]; exact va_assign hcls) rfl rfl (xe_nx_d hk) (fun H1 e1 e2 e3 => ?_)
    refine xe_to (xe_nx_e hk) (h H1 _ ls cells slots (hS.put e2 e3 (xe_Aad ha)) (hH.wr ha hz hM ?_ e2 e3) hl hd hcl hsl)
    refine e1.trans (congrArg some ((xe_st_q (ty 4) n _ _ (xe_ad b base q)).trans ?_))
    show vp_cell (ty 4) (n, _) = vp_cell (ty 4) (n, _)
    congr 6
    funext y
    by_cases hy : y = j.toNatClampNeg
    · subst hy; simp [va_up]
    · simp [va_up, hy]
  | arraylength =>
    obtain ⟨a, t, n, x, r, rfl, hz, ht, hM, h0, h⟩ := h
    have hk : xe_nx bs pcs i .arraylength 1 = true := hk
    by_cases ha : 0 < a
    · have he := xe_at (ty := ty) (b := b) (base := base) ha hz hM
      have htt : ∃ q, (xe_T ty)[t]? = some (ty t, q) := by
        match t, ht with
        | 0, _ => exact ⟨_, rfl⟩
        | 1, _ => exact ⟨_, rfl⟩
        | 2, _ => exact ⟨_, rfl⟩
        | 3, _ => exact ⟨_, rfl⟩
        | 4, _ => exact ⟨_, rfl⟩
      obtain ⟨q, hq⟩ := htt
      exact va_alen hx hb hK hH.1 (a - 1) t he hq rfl (xe_nx_d hk) (xe_to (xe_nx_e hk) (h H locs ls cells slots hS hH hl hd hcl hsl))
    · obtain rfl : a = 0 := Nat.eq_zero_of_not_pos ha
      obtain rfl := h0 rfl
      have hM2 := hM.symm.trans hH.2.1
      cases hM2
      exact va_slen hx hb hX (Nat.lt_of_lt_of_le hbb hbs) hbA hS (xe_nx_d hk) (xe_to (xe_nx_e hk) (h H locs ls cells slots hS hH hl hd hcl hsl))
  | monitorenter =>
    obtain ⟨a0, a, sp, dp, n, n0, n1, f, g, r, rfl, ha0, hz0, ha, hz, hcat, hM0, hM, h1, h2, h3, h4, h5, hzz, h⟩ := h
    simp only [xe_chk, List.any_eq_true] at hk
    obtain ⟨q, hq, hk⟩ := hk
    have hw := hts _ (hcp.2.2.2.2.1 q hq)
    refine va_copyi hx hb (by rw [hml, hl.1]) hown hw (hts _ hnat.1) (hts _ hnat.2.1) (hts _ hnat.2.2) hK hH.1 xe_W_D hS (a0 - 1) (a - 1) 1 1 (xe_at (ty := ty) (b := b) (base := base) ha0 hz0 hM0) (xe_at (ty := ty) (b := b) (base := base) ha hz hM) hTy.2.1 hTy.2.1 rfl h1 h2 h3 h4 h5 (fun _ _ => rfl) hRf (by rw [xe_cat_map]; exact Nat.le_trans (Nat.add_le_add_right hcat _) (Nat.le_trans (by decide +kernel) hRl)) (xe_nx_d hk) (fun H1 locs1 hP1 hD1 hS1 => ?_)
    refine xe_to (xe_nx_e hk) (h H1 locs1 ls cells slots hS1 ⟨?_, by rw [va_up_ne _ _ (Nat.ne_of_lt ha)]; exact hH.2.1, hH.2.2.1, fun q => absurd q (Nat.not_lt.mpr hzz)⟩ hl hd hcl hsl)
    rw [← xe_put _ ha]
    exact hP1
  | monitorexit =>
    obtain ⟨a0, a, sp, dp, n, n0, n1, f, g, r, rfl, ha0, hz0, ha, hz, hcat, hM0, hM, h1, h2, h3, h4, h5, hzz, h⟩ := h
    simp only [xe_chk, List.any_eq_true] at hk
    obtain ⟨q, hq, hk⟩ := hk
    have hw := hts _ (hcp.2.2.2.2.1 q hq)
    refine va_copyl hx hb (by rw [hml, hl.1]) hown hw (hts _ hnat.1) (hts _ hnat.2.1) (hts _ hnat.2.2) hK hH.1 xe_W_D hS (a0 - 1) (a - 1) 2 2 (xe_at (ty := ty) (b := b) (base := base) ha0 hz0 hM0) (xe_at (ty := ty) (b := b) (base := base) ha hz hM) hTy.2.2.1 hTy.2.2.1 rfl h1 h2 h3 h4 h5 (fun _ _ => rfl) hRf (by rw [xe_cat_map]; exact Nat.le_trans (Nat.add_le_add_right hcat _) (Nat.le_trans (by decide +kernel) hRl)) (xe_nx_d hk) (fun H1 locs1 hP1 hD1 hS1 => ?_)
    refine xe_to (xe_nx_e hk) (h H1 locs1 ls cells slots hS1 ⟨?_, by rw [va_up_ne _ _ (Nat.ne_of_lt ha)]; exact hH.2.1, hH.2.2.1, fun q => absurd q (Nat.not_lt.mpr hzz)⟩ hl hd hcl hsl)
    rw [← xe_put _ ha]
    exact hP1
  | nop =>
    obtain ⟨a, r, rfl, hcat, h⟩ := h
    simp only [xe_chk, List.any_eq_true] at hk
    obtain ⟨q, hq, hk⟩ := hk
    have hw := hts _ (hcp.2.2.2.2.2 q hq)
    exact W.objInit hx hb hown hw (hts _ hobj.1) (hts _ hobj.2) rfl (hl.1.trans hml.symm) rfl (xe_nx_d hk) hRf (by show 2 * 0 + _ + 12 ≤ _; rw [xe_cat_map]; omega) (xe_to (xe_nx_e hk) (h H locs ls cells slots hS hH hl hd hcl hsl))
  | invokevirtual g =>
    obtain ⟨inf, As, a, fs, r, hT, hkd, rfl, hAs, hA1, ha, hz, hM, hcat, hmc, hms, h⟩ := h
    simp only [xe_chk, List.any_eq_true, Bool.and_eq_true, decide_eq_true_eq] at hk
    obtain ⟨q, hq, e1, hk⟩ := hk
    have hw := hcp.2.1 q hq inf (by rw [e1]; exact hT)
    obtain ⟨aa, hr⟩ := hV g inf a As z M _ q.1 hT hkd hAs hA1 ⟨fs, hM⟩ ha hz hw h H locs ls cells slots (pcs.getD i 0) (r.map (xe_v b base)) hS hH hl.1 (by omega) (by omega) (by rw [xe_cat_map]; exact hcat) (xe_nx_d hk)
    have est : ((As.reverse ++ .ref a :: r).map (xe_v b base)) = ((Value.ref a :: As).map (xe_v b base)).reverse ++ r.map (xe_v b base) := by simp
    rw [est]
    refine xe_call hr hS (fun v z' M' H1 locs1 h hH1 hS1 => xe_to (xe_nx_e hk) ?_)
    have h9 := h H1 locs1 ls (cells + xe_im inf) (slots + xe_is inf) hS1 hH1 hl hd (by omega) (by omega)
    rw [List.map_append] at h9
    cases v <;> exact h9
  | invokespecial g =>
    obtain ⟨inf, As, a, fs, r, hT, hkd, rfl, hAs, hA1, ha, hz, hM, hcat, hmc, hms, h⟩ := h
    simp only [xe_chk, List.any_eq_true, Bool.and_eq_true, decide_eq_true_eq] at hk
    obtain ⟨q, hq, e1, hk⟩ := hk
    have hw := hcp.2.1 q hq inf (by rw [e1]; exact hT)
    obtain ⟨aa, hr⟩ := hN g inf a As z M _ q.1 hT hkd hAs hA1 ⟨fs, hM⟩ ha hz hw h H locs ls cells slots (pcs.getD i 0) (r.map (xe_v b base)) hS hH hl.1 (by omega) (by omega) (by rw [xe_cat_map]; exact hcat) (xe_nx_d hk)
    have est : ((As.reverse ++ .ref a :: r).map (xe_v b base)) = ((Value.ref a :: As).map (xe_v b base)).reverse ++ r.map (xe_v b base) := by simp
    rw [est]
    refine xe_call hr hS (fun v z' M' H1 locs1 h hH1 hS1 => xe_to (xe_nx_e hk) ?_)
    have h9 := h H1 locs1 ls (cells + xe_im inf) (slots + xe_is inf) hS1 hH1 hl hd (by omega) (by omega)
    rw [List.map_append] at h9
    cases v <;> exact h9
  | invokestatic g =>
    obtain ⟨inf, As, r, hT, hkd, rfl, hAs, hA1, hcat, hmc, hms, h⟩ := h
    simp only [xe_chk, List.any_eq_true, Bool.and_eq_true, decide_eq_true_eq] at hk
    obtain ⟨q, hq, e1, hk⟩ := hk
    have hw := hcp.2.1 q hq inf (by rw [e1]; exact hT)
    obtain ⟨aa, hr⟩ := hSt i g inf As z M _ q.1 hc hT hkd hAs hA1 hw h H locs ls cells slots (pcs.getD i 0) (r.map (xe_v b base)) hS hH hl.1 (by omega) (by omega) (by rw [xe_cat_map]; exact hcat) (xe_nx_d hk)
    have est : ((As.reverse ++ r).map (xe_v b base)) = (As.map (xe_v b base)).reverse ++ r.map (xe_v b base) := by simp
    rw [est]
    refine xe_call hr hS (fun v z' M' H1 locs1 h hH1 hS1 => xe_to (xe_nx_e hk) ?_)
    have h9 := h H1 locs1 ls (cells + xe_im inf) (slots + xe_is inf) hS1 hH1 hl hd (by omega) (by omega)
    rw [List.map_append] at h9
    cases v <;> exact h9
  | athrow =>
    simp only [xe_chk, Bool.and_eq_true, decide_eq_true_eq] at hk
    exact hThr i st z M H locs ls cells slots hk.1.1.1.1 hc h.1 h.2.2.2.1 h.2.2.2.2 hS hH hl.1 (by have := h.2.1; omega) (by have := h.2.2.1; omega)
  | invokedynamic g =>
    have hk : decide (kind = 4) = true := hk
    exact hDyn i g dl st kc ks z M (of_decide_eq_true hk) hc h H locs ls cells slots hS hH hl hd hcl hsl
  | new q =>
    obtain ⟨r, hr, hzz, hmc, hms, h⟩ := h
    simp only [xe_chk, List.any_eq_true, Bool.and_eq_true, decide_eq_true_eq] at hk
    obtain ⟨q0, hq, e1, hk⟩ := hk
    have hw := hcp.2.2.2.1 q0 hq
    rw [e1] at hw
    obtain ⟨r2, hr2, hin, hl1, hl2, hl3⟩ := hw
    obtain rfl : r2 = r := Option.some.inj (hr2.symm.trans hr)
    have hKn := hK.1 q _ hr
    obtain ⟨hty, -, hdf⟩ := xe_clok q r2 hr
    refine W.newcK hx hb hown (hts _ hl1) (hts _ hl2) (hts _ hl3) rfl (xe_nx_d hk) (by omega) (by omega) hKn.2.1 rfl (fun H1 kC hkC e1 e2 e3 => ?_)
    have hat : va_at D xe_cl (H.size, xe_c ty b base (.inr (q, xe_dflt q))) H1 := by
      refine ⟨_, hr, (u_born (xe_ty q) hts hin hKn hkC e1 hty).to (fun j hj => ?_)⟩
      rw [hdf j hj]
      exact xe_df_map b base q j
    obtain ⟨hH1, ez⟩ := hH.mk hzz hat e2 e3
    have h9 := h H1 locs ls (cells + 1) (slots + r2.2.2) (xe_S.mk hS e2 e3) hH1 hl hd (by omega) (by omega)
    refine xe_to (xe_nx_e hk) ?_
    rw [ez]
    exact h9
  | newarray t =>
    obtain ⟨n, r, rfl, hn, hn2, hzz, hmc, hms, h⟩ := h
    simp only [xe_chk, Bool.and_eq_true, Bool.or_eq_true, decide_eq_true_eq] at hk
    obtain ⟨hk, ht⟩ := hk
    have ht : t = .byte ∨ t = .int ∨ t = .long ∨ t = .boolean := by rcases ht with ((h | h) | h) | h <;> simp [h]
    have hw := hts _ (harr t ht)
    have hbyt : n.toNatClampNeg * componentBytes (newarray.typeOf t) ≤ 536870912 := Nat.le_trans (Nat.mul_le_mul hn2 (show componentBytes (newarray.typeOf t) ≤ 8 by rcases ht with rfl | rfl | rfl | rfl <;> decide)) (by decide)
    refine va_newaK hx hb hw rfl (xe_nx_d hk) rfl hn rfl hbyt (by omega) (by omega) rfl (fun H1 cA e1 e2 e3 hAr hNm => ?_)
    refine xe_to (xe_nx_e hk) ?_
    rcases ht with rfl | rfl | rfl | rfl
    · have hcA : cA = ty 0 := Option.some.inj (hNm.symm.trans (hK.2 0 _ hTy.1).2)
      subst hcA
      obtain ⟨hH1, ez⟩ := hH.mk (x := .inl (0, n.toNatClampNeg, .inl (fun _ => 0))) hzz e1 e2 e3
      have h9 := h H1 locs ls (cells + 1) (slots + n.toNatClampNeg) (xe_S.mk hS e2 e3) hH1 hl hd (by omega) (by omega)
      rw [ez]
      exact h9
    · have hcA : cA = ty 1 := Option.some.inj (hNm.symm.trans (hK.2 1 _ hTy.2.1).2)
      subst hcA
      obtain ⟨hH1, ez⟩ := hH.mk (x := .inl (1, n.toNatClampNeg, .inl (fun _ => 0))) hzz e1 e2 e3
      have h9 := h H1 locs ls (cells + 1) (slots + n.toNatClampNeg) (xe_S.mk hS e2 e3) hH1 hl hd (by omega) (by omega)
      rw [ez]
      exact h9
    · have hcA : cA = ty 2 := Option.some.inj (hNm.symm.trans (hK.2 2 _ hTy.2.2.1).2)
      subst hcA
      obtain ⟨hH1, ez⟩ := hH.mk (x := .inl (2, n.toNatClampNeg, .inr (.inl (fun _ => 0)))) hzz e1 e2 e3
      have h9 := h H1 locs ls (cells + 1) (slots + n.toNatClampNeg) (xe_S.mk hS e2 e3) hH1 hl hd (by omega) (by omega)
      rw [ez]
      exact h9
    · have hcA : cA = ty 3 := Option.some.inj (hNm.symm.trans (hK.2 3 _ hTy.2.2.2.1).2)
      subst hcA
      obtain ⟨hH1, ez⟩ := hH.mk (x := .inl (3, n.toNatClampNeg, .inl (fun _ => 0))) hzz e1 e2 e3
      have h9 := h H1 locs ls (cells + 1) (slots + n.toNatClampNeg) (xe_S.mk hS e2 e3) hH1 hl hd (by omega) (by omega)
      rw [ez]
      exact h9
  | anewarray q =>
    obtain ⟨n, r, rfl, hn, hn2, hzz, hmc, hms, h⟩ := h
    simp only [xe_chk, List.any_eq_true, Bool.and_eq_true, decide_eq_true_eq] at hk
    obtain ⟨q0, hq, e1, hk⟩ := hk
    have hw := hcp.2.2.2.1 q0 hq
    rw [e1] at hw
    obtain ⟨r2, hr2, hin, hl1, hl2, hl3⟩ := hw
    obtain rfl : r2 = (RX5, TX5, 6) := (Option.some.inj hr2).symm
    refine W.anew hx hb hown (hts _ hl1) (va_AO.use hE.2.2.1) rfl (xe_nx_d hk) rfl hn (by omega) (by omega) (by omega) (fun cA kA comp f1 f2 f3 f4 => ?_)
    obtain ⟨kA2, comp2, k1, k2, k3, k4⟩ := (hK.2 4 _ hTy.2.2.2.2).2
    have hcA : cA = ty 4 := Option.some.inj (f1.symm.trans k4)
    subst hcA
    generalize hH1 : H.push ({ cls := ty 4, slots := Array.replicate n.toNatClampNeg .null, vm := .none } : Cell) = H1
    have z1 : H1.size = H.size + 1 := by rw [← hH1, Array.size_push]
    have e1 : H1[H.size]? = some (arrV (ty 4) n.toNatClampNeg (fun _ => .null)) := by rw [← hH1, Array.getElem?_push_size, ← arrV_new]
    have o1 : ∀ q : Nat, q < H.size → H1[q]? = H[q]? := fun q hq => by rw [← hH1, Array.getElem?_push, if_neg (Nat.ne_of_lt hq)]
    obtain ⟨hH2, ez⟩ := hH.mk (x := .inl (4, n.toNatClampNeg, .inr (.inr (.inr (.inr (fun _ => none)))))) hzz e1 z1 o1
    have h9 := h H1 locs ls (cells + 1) (slots + n.toNatClampNeg) (xe_S.mk hS z1 o1) hH2 hl hd (by omega) (by omega)
    refine xe_to (xe_nx_e hk) ?_
    rw [ez]
    exact h9
  | ireturn =>
    obtain ⟨x, rfl, h⟩ := h
    simp only [xe_chk, Bool.and_eq_true, decide_eq_true_eq] at hk
    exact hI x z M H locs ls cells slots _ hk.2 (xe_D_d hk.1) h hS hH (by omega) (by omega)
  | freturn =>
    obtain ⟨x, rfl, h1, h⟩ := h
    simp only [xe_chk, Bool.and_eq_true, decide_eq_true_eq] at hk
    exact hZ x z M H locs ls cells slots _ hk.2 h1 (xe_D_d hk.1) h hS hH (by omega) (by omega)
  | return_ =>
    obtain ⟨rfl, h⟩ := h
    simp only [xe_chk, Bool.and_eq_true, decide_eq_true_eq] at hk
    exact hR z M H locs ls cells slots _ hk.2 (xe_D_d hk.1) h hS hH (by omega) (by omega)
  | _ => exact (show False from h).elim
end XEC
