/-! CALLS: a call of the logic is a contract of the machine. -/
def xe_rm (d : Nat) (inf : xe_I) : Room := { frames := d + 8, cells := xe_im inf, slots := xe_is inf, locals := 64 * d + 400 }
def xe_ws (inf : xe_I) : List Cond := Cond.code (xe_iy inf) (xe_ib inf) (xe_iL inf) (xe_ir inf) :: xe_good
/-- a contract out of a walk, for a method in whose place nothing native stands -/
theorem xe_ofW {l : Launch} {y : MethodName} {ws ws' : List Cond} {rm : Room} {Pc : Array Value → State → Prop} {Qc : Array Value → State → Outcome → State → Prop} {mc ms : Nat} {free : Addr → Prop} {cc : ByteArray} {maxL : Nat} {ret : Option FieldType}
    (hy : plainFor y = true) (hw : ws = Cond.code y cc maxL ret :: ws')
    (body : ∀ p e s m args below meth c s₁, BodyLoose p l y (headSpec ws rm) cc maxL ret e s m args below meth c s₁ → c.maxLocals = maxL → Pc args s →
      W p l e (headSpec ws rm).room s m args below meth c s.heap [] 0 0 (MQ below Qc args s mc ms free) (entryFrame m args maxL)) : Met l y ws rm Pc Qc mc ms free := by
  refine MetFree.of_bodySF (code := cc) (maxLocals := maxL) (ret := ret) hy ?_ ?_
  · intro args s m h hn
    obtain ⟨meth, c, h1, h2, h3, h4, h5, h6, -, -⟩ := Cond.code_spec hn (atoms_spec (ws := ws) h _ (by rw [hw]; exact List.mem_cons_self))
    exact ⟨meth, c, h1, h2, h3, h4, h5, h6⟩
  · intro p e s m args below meth c s₁ B hml hP _
    have hh0 : s₁.heap = s.heap := by rw [B.state]; rfl
    obtain ⟨t, a1, o, b1, b2, b3⟩ := body p e s m args below meth c s₁ B hml hP s₁ hh0 (Stand.of_body B)
    exact ⟨t, o, a1, b1, b2, ⟨b3.1, b3.2⟩⟩
theorem xe_ws_in {T : List xe_I} {inf : xe_I} (h : xe_ok T inf) : GoodIn xe_good (xe_ws inf) := fun w hw => by
  rcases List.mem_cons.mp hw with rfl | hw
  · exact ⟨h.1, xe_good_w h.1⟩
  · exact xe_good_in w hw
def xe_sys : Prop := (Cond.native arraycopyName ∈ xe_good ∧ Cond.static arraycopyName ∈ xe_good ∧ Cond.initialized "java/lang/System" ∈ xe_good) ∧ (Cond.instanceMethod objectInit ∈ xe_good ∧ Cond.code objectInit ⟨#[0xb1]⟩ 1 none ∈ xe_good) ∧ ∀ t : ArrayType, (t = .byte ∨ t = .int ∨ t = .long ∨ t = .boolean) → Cond.arrayClass (newarray.typeOf t) ∈ xe_good
theorem xe_c1_cat {v : Value} (h : xe_c1 v = true) : v.category = 1 := by cases v <;> first | rfl | cases h
theorem xe_args_mem : ∀ (vs : List Value) (i k : Nat) (v : Value), (∀ v ∈ vs, v.category = 1) → vs[k]? = some v → (i + k, v) ∈ lv_args i vs
  | [], _, _, _, _, h => by simp at h
  | a :: vs, i, 0, v, _, h => by
    simp only [List.getElem?_cons_zero, Option.some.injEq] at h
    subst h
    exact List.mem_cons_self
  | a :: vs, i, k + 1, v, hc, h => by
    rw [List.getElem?_cons_succ] at h
    have h1 : ¬ a.category = 2 := by rw [hc a List.mem_cons_self]; decide
    have h2 := xe_args_mem vs (i + 1) k v (fun v hv => hc v (List.mem_cons_of_mem _ hv)) h
    unfold lv_args
    rw [if_neg h1]
    refine List.mem_cons_of_mem _ ?_
    rw [show i + (k + 1) = i + 1 + k by omega]
    exact h2
theorem xe_sl_len : ∀ (vs : List Value), (∀ v ∈ vs, v.category = 1) → (lg_sl vs).length = vs.length
  | [], _ => rfl
  | a :: vs, h => by
    have h1 : ¬ a.category = 2 := by rw [h a List.mem_cons_self]; decide
    have ih := xe_sl_len vs (fun v hv => h v (List.mem_cons_of_mem _ hv))
    unfold lg_sl at ih ⊢
    rw [List.flatMap_cons, if_neg h1, List.length_append, ih]
    simp
    omega
theorem xe_entry_l {ls : Array Slot} {b base n : Nat} {a : List Value} (hc : ∀ v ∈ a, v.category = 1) (h : lv_has ls n (lv_args 0 (a.map (xe_v b base)))) : lv_has ls n (xe_l b base (xe_entry n a)) := by
  refine ⟨h.1, h.2.1, fun q hq => ?_⟩
  obtain ⟨v, h1, h2, h3⟩ := xe_l_of hq
  have hv : a[q.1]? = some v := by
    unfold xe_entry at h1
    by_cases hk : q.1 < a.length
    · rw [List.getElem?_append_left hk] at h1
      exact h1
    · rw [List.getElem?_append_right (by omega)] at h1
      have := List.mem_of_getElem? h1
      rw [List.mem_replicate] at this
      exact absurd this.2 (h2 _)
  refine h.2.2 q ?_
  have h4 := xe_args_mem (a.map (xe_v b base)) 0 q.1 (xe_v b base v) (fun w hw => by
    obtain ⟨u, hu, rfl⟩ := List.mem_map.mp hw
    rw [xe_v_cat]
    exact hc u hu) (by rw [List.getElem?_map, hv]; rfl)
  rw [Nat.zero_add] at h4
  rw [← Prod.eta q, h3]
  exact h4
section XED
variable {l : Launch} {D : va_G} {ty : Nat → ClassId} {b base L : Nat} {xs : Nat → Int32}
theorem xe_blind {a : List Value} {z : Nat} {M : xe_M} : FrameBlind (xe_Pc D ty b base L xs a z M) := by
  intro v U g mk h
  obtain ⟨h1, h2, h3, h4, h5, h6, h7, h8⟩ := h
  exact ⟨h1, xe_E.same (s := U) rfl h2, va_X.moved (u := U) (Vm.Alike.refl U.vm) h3, h4, h5, h6, vx_Zq.moved (u := U) (Vm.Alike.refl U.vm) h7, vx_Zq.moved (u := U) (Vm.Alike.refl U.vm) h8⟩
variable {p : Program} {e : Env} {R : Room} {s : State} {m : MethodId} {args : Array Value} {below : List Frame} {meth : Method} {c : Code}
/-- the contracts that a caller at depth d may use -/
def xe_Mets (l : Launch) (D : va_G) (ty : Nat → ClassId) (b base L : Nat) (xs : Nat → Int32) (T : List xe_I) (d : Nat) : Prop := ∀ g inf a z M P, T[g]? = some inf → xe_ik inf ≤ 2 → a.length = xe_in inf + (if xe_ik inf = 0 then 0 else 1) → a.all xe_c1 = true → xe_Call T d g a z M P → Met l (xe_iy inf) (xe_ws inf) (xe_rm d inf) (xe_Pc D ty b base L xs a z M) (xe_Qc D ty b base L xs P) (xe_im inf) (xe_is inf) (xe_A base)
theorem xe_pcU {H : Heap} {locs : List Loc} {a : List Value} {z : Nat} {M : xe_M} (hE : xe_E D ty s) (hUx : xe_Ux base s s.heap) (hX : va_X b L xs s s.heap) (hbb : b < base) (hbs : base ≤ s.heap.size) (hS : va_S (xe_A base) s.heap H locs) (hH : xe_H D ty b base L xs z M H) : ∀ U : State, U.heap = H → s.WarmedH U.vm → xe_Pc D ty b base L xs a z M (a.map (xe_v b base)).toArray U := by
  intro U hU hW
  have hk : ∀ a : Nat, a < s.heap.size → ¬ xe_A base a → U.heap[a]? = s.heap[a]? := fun a h1 h2 => by rw [hU]; exact hS.2.1 a h1 h2
  refine ⟨rfl, hE.warm hW, ?_, hbb, by rw [hU]; exact Nat.le_trans hbs hS.1, by rw [hU]; exact hH, vx_Zq.moved hW.alike (hUx.1.kept hk), vx_Zq.moved hW.alike (hUx.2.kept hk)⟩
  refine va_X.moved hW.alike (va_X.kept hX ?_)
  rw [hU]
  exact hS.2.1 b (Nat.lt_of_lt_of_le hbb hbs) (Nat.not_le.mpr hbb)
set_option maxHeartbeats 4000000 in
theorem xe_callV {own : String} {T : List xe_I} {bs : ByteArray} {nL d : Nat} (hx : p.tables.exec = Jvm.exec) (hb : c.code = bs) (hml : c.maxLocals = nL) (hown : s.vm.findClass own = some m.cls) (hts : ∀ w ∈ xe_good, w.before args s = true) (hE : xe_E D ty s) (hUx : xe_Ux base s s.heap) (hX : va_X b L xs s s.heap) (hbb : b < base) (hbs : base ≤ s.heap.size) (hok : ∀ (g : Nat) (inf : xe_I), T[g]? = some inf → xe_ik inf ≤ 2 → xe_ok T inf) (hRf : d + 9 ≤ R.frames) (hRl : 64 * d + 464 ≤ R.locals) (hM : xe_Mets l D ty b base L xs T d) :
    ∀ g inf a As z M P idx, T[g]? = some inf → xe_ik inf = 1 → As.length = xe_in inf → As.all xe_c1 = true → (∃ fs, M a = .inr (xe_ic inf, fs)) → 0 < a → a < z → xe_okM own idx (xe_iy inf) → xe_Call T d g (.ref a :: As) z M P → xe_Ru p l e R s m args below meth c D ty b base L xs nL bs (.invokevirtual idx) (xe_im inf) (xe_is inf) (.ref a :: As) z M P := by
  intro g inf a As z M P idx hT hk hn hc1 ⟨fs, hMa⟩ ha hz hlk hcall H locs ls cells slots pc rest hS hH hls hcl hsl hcat hdg
  have ok := hok g inf hT (by omega)
  obtain ⟨o1, o2, o3, o4, o5, o6, o7, o8, o9, o10, o11⟩ := id ok
  obtain ⟨q1, q2, r0, q3, q4⟩ := o7 (Or.inl hk)
  have hMet := hM g inf (.ref a :: As) z M P hT (by omega) (by rw [if_neg (by omega), List.length_cons, hn]) (by rw [List.all_cons, hc1]; rfl) hcall
  have he := xe_at (ty := ty) (b := b) (base := base) ha hz hMa
  have hrec := va_recv hE.1 hH.1 q3 he
  have hws : ∀ w ∈ xe_ws inf, ∀ (a' : Array Value) (U : State), s.WarmedH U.vm → w.before a' U = true := pay_in hts (xe_ws_in ok)
  have hsig : ∀ sig, parseMethodDescriptor (xe_iy inf).desc = some sig → xe_in inf = sig.parameters.length := fun sig h => by
    have h2 := o4.2.2
    rw [h] at h2
    exact (Option.some.inj h2).symm
  have hrd : (xe_rm d inf).frames + 1 ≤ R.frames ∧ 8 + (xe_iL inf + 11) + (xe_rm d inf).locals ≤ R.locals := by
    show d + 8 + 1 ≤ R.frames ∧ 8 + (xe_iL inf + 11) + (64 * d + 400) ≤ R.locals
    omega
  have hp : PreV s H r0.1 (xe_ad b base a) (xe_Pc D ty b base L xs (.ref a :: As) z M) (As.map (xe_v b base)) := ⟨xe_blind, hrec, fun U hU hW => xe_pcU hE hUx hX hbb hbs hS hH U hU hW⟩
  have est : ((Value.ref a :: As).map (xe_v b base)).reverse ++ rest = (As.map (xe_v b base)).reverse ++ .ref (xe_ad b base a) :: rest := by simp [xe_v]
  refine ⟨(Value.ref (xe_ad b base a) :: As.map (xe_v b base)).toArray, ?_⟩
  rw [est]
  have hW8 : 2 * (F0 m pc ls ((As.map (xe_v b base)).reverse ++ .ref (xe_ad b base a) :: rest)).monitorRoom + (rest.map fun v => v.category).sum ≤ 8 := by
    show 2 * 0 + _ ≤ 8
    omega
  rcases hlk with hlk | ⟨host, hlk⟩
  · exact va_runV (C := r0.1) (n := xe_in inf) ⟨hx, hb, hml, hown, hts⟩ hMet ⟨⟨rfl, rfl, hrd.1, hrd.2, hws, List.mem_cons_self, hts _ o1, hts _ o2, ⟨o4.1, o4.2.1⟩, hsig, hts _ hlk⟩, hts _ q1, by rw [q4]; exact hts _ q2⟩ hp rfl (by rw [List.length_map]; exact hn) hls rfl hW8 hdg ⟨hcl, hsl⟩
  · exact va_runVN (C := r0.1) (n := xe_in inf) ⟨hx, hb, hml, hown, hts⟩ hMet ⟨⟨⟨rfl, rfl, hrd.1, hrd.2, hws, List.mem_cons_self⟩, hts _ o1, hts _ o2, ⟨o4.1, o4.2.1⟩, hsig, va_Nw.use rfl (hE.2.1 _ hlk)⟩, hts _ q1, by rw [q4]; exact hts _ q2⟩ hp rfl (by rw [List.length_map]; exact hn) hls rfl hW8 hdg ⟨hcl, hsl⟩
set_option maxHeartbeats 4000000 in
theorem xe_callN {own : String} {T : List xe_I} {bs : ByteArray} {nL d : Nat} (hx : p.tables.exec = Jvm.exec) (hb : c.code = bs) (hml : c.maxLocals = nL) (hown : s.vm.findClass own = some m.cls) (hts : ∀ w ∈ xe_good, w.before args s = true) (hE : xe_E D ty s) (hUx : xe_Ux base s s.heap) (hX : va_X b L xs s s.heap) (hbb : b < base) (hbs : base ≤ s.heap.size) (hok : ∀ (g : Nat) (inf : xe_I), T[g]? = some inf → xe_ik inf ≤ 2 → xe_ok T inf) (hRf : d + 9 ≤ R.frames) (hRl : 64 * d + 464 ≤ R.locals) (hM : xe_Mets l D ty b base L xs T d) :
    ∀ g inf a As z M P idx, T[g]? = some inf → xe_ik inf = 2 → As.length = xe_in inf → As.all xe_c1 = true → (∃ fs, M a = .inr (xe_ic inf, fs)) → 0 < a → a < z → xe_okM own idx (xe_iy inf) → xe_Call T d g (.ref a :: As) z M P → xe_Ru p l e R s m args below meth c D ty b base L xs nL bs (.invokespecial idx) (xe_im inf) (xe_is inf) (.ref a :: As) z M P := by
  intro g inf a As z M P idx hT hk hn hc1 _ ha hz hlk hcall H locs ls cells slots pc rest hS hH hls hcl hsl hcat hdg
  have ok := hok g inf hT (by omega)
  obtain ⟨o1, o2, o3, o4, o5, o6, o7, o8, o9, o10, o11⟩ := id ok
  obtain ⟨q1, q2, q3⟩ := o8 hk
  have hMet := hM g inf (.ref a :: As) z M P hT (by omega) (by rw [if_neg (by omega), List.length_cons, hn]) (by rw [List.all_cons, hc1]; rfl) hcall
  have hws : ∀ w ∈ xe_ws inf, ∀ (a' : Array Value) (U : State), s.WarmedH U.vm → w.before a' U = true := pay_in hts (xe_ws_in ok)
  have hsig : ∀ sig, parseMethodDescriptor (xe_iy inf).desc = some sig → xe_in inf = sig.parameters.length := fun sig h => by
    have h2 := o4.2.2
    rw [h] at h2
    exact (Option.some.inj h2).symm
  have hrd : (xe_rm d inf).frames + 1 ≤ R.frames ∧ 8 + (xe_iL inf + 11) + (xe_rm d inf).locals ≤ R.locals := by
    show d + 8 + 1 ≤ R.frames ∧ 8 + (xe_iL inf + 11) + (64 * d + 400) ≤ R.locals
    omega
  have hp : PreS s H (xe_Pc D ty b base L xs (.ref a :: As) z M) (.ref (xe_ad b base a) :: As.map (xe_v b base)) := ⟨xe_blind, fun U hU hW => xe_pcU hE hUx hX hbb hbs hS hH U hU hW⟩
  have est : ((Value.ref a :: As).map (xe_v b base)).reverse ++ rest = (As.map (xe_v b base)).reverse ++ .ref (xe_ad b base a) :: rest := by simp [xe_v]
  refine ⟨(Value.ref (xe_ad b base a) :: As.map (xe_v b base)).toArray, ?_⟩
  rw [est]
  have hcode := List.mem_cons_self (a := Cond.code (xe_iy inf) (xe_ib inf) (xe_iL inf) (xe_ir inf)) (l := xe_good)
  have o1' := o1
  have hW8 : 2 * (F0 m pc ls ((As.map (xe_v b base)).reverse ++ .ref (xe_ad b base a) :: rest)).monitorRoom + (rest.map fun v => v.category).sum ≤ 8 := by
    show 2 * 0 + _ ≤ 8
    omega
  rw [q3] at hcode o1'
  have hcode2 : Cond.code (xe_iy inf) (xe_ib inf) (xe_iL inf) none ∈ xe_ws inf := by unfold xe_ws; rw [q3]; exact hcode
  rcases hlk with hlk | ⟨host, hlk⟩
  · exact va_runI (n := xe_in inf) ⟨hx, hb, hml, hown, hts⟩ hMet ⟨⟨rfl, rfl, hrd.1, hrd.2, hws, hcode2, hts _ o1', hts _ o2, ⟨o4.1, o4.2.1⟩, hsig, hts _ hlk⟩, q2, hts _ q1⟩ hp rfl (by rw [List.length_map]; exact hn) hls rfl hW8 hdg ⟨hcl, hsl⟩
  · exact va_runIN (n := xe_in inf) ⟨hx, hb, hml, hown, hts⟩ hMet ⟨⟨⟨rfl, rfl, hrd.1, hrd.2, hws, hcode2⟩, hts _ o1', hts _ o2, ⟨o4.1, o4.2.1⟩, hsig, va_Nw.use rfl (hE.2.1 _ hlk)⟩, q2, hts _ q1⟩ hp rfl (by rw [List.length_map]; exact hn) hls rfl hW8 hdg ⟨hcl, hsl⟩
set_option maxHeartbeats 4000000 in
theorem xe_callS {own : String} {T : List xe_I} {bs : ByteArray} {nL d : Nat} (hx : p.tables.exec = Jvm.exec) (hb : c.code = bs) (hml : c.maxLocals = nL) (hown : s.vm.findClass own = some m.cls) (hts : ∀ w ∈ xe_good, w.before args s = true) (hE : xe_E D ty s) (hUx : xe_Ux base s s.heap) (hX : va_X b L xs s s.heap) (hbb : b < base) (hbs : base ≤ s.heap.size) (hok : ∀ (g : Nat) (inf : xe_I), T[g]? = some inf → xe_ik inf ≤ 2 → xe_ok T inf) (hRf : d + 9 ≤ R.frames) (hRl : 64 * d + 464 ≤ R.locals) (hM : xe_Mets l D ty b base L xs T d) :
    ∀ g inf As z M P idx, T[g]? = some inf → xe_ik inf = 0 → As.length = xe_in inf → As.all xe_c1 = true → xe_okM own idx (xe_iy inf) → xe_Call T d g As z M P → xe_Ru p l e R s m args below meth c D ty b base L xs nL bs (.invokestatic idx) (xe_im inf) (xe_is inf) As z M P := by
  intro g inf As z M P idx hT hk hn hc1 hlk hcall H locs ls cells slots pc rest hS hH hls hcl hsl hcat hdg
  have ok := hok g inf hT (by omega)
  obtain ⟨o1, o2, o3, o4, o5, o6, o7, o8, o9, o10, o11⟩ := id ok
  have q1 := o9 hk
  have hMet := hM g inf As z M P hT (by omega) (by rw [if_pos hk, hn]; rfl) hc1 hcall
  have hws : ∀ w ∈ xe_ws inf, ∀ (a' : Array Value) (U : State), s.WarmedH U.vm → w.before a' U = true := pay_in hts (xe_ws_in ok)
  have hsig : ∀ sig, parseMethodDescriptor (xe_iy inf).desc = some sig → xe_in inf = sig.parameters.length := fun sig h => by
    have h2 := o4.2.2
    rw [h] at h2
    exact (Option.some.inj h2).symm
  have hrd : (xe_rm d inf).frames + 1 ≤ R.frames ∧ 8 + (xe_iL inf + 11) + (xe_rm d inf).locals ≤ R.locals := by
    show d + 8 + 1 ≤ R.frames ∧ 8 + (xe_iL inf + 11) + (64 * d + 400) ≤ R.locals
    omega
  have hp : PreS s H (xe_Pc D ty b base L xs As z M) (As.map (xe_v b base)) := ⟨xe_blind, fun U hU hW => xe_pcU hE hUx hX hbb hbs hS hH U hU hW⟩
  refine ⟨(As.map (xe_v b base)).toArray, ?_⟩
  have hW8 : 2 * (F0 m pc ls ((As.map (xe_v b base)).reverse ++ rest)).monitorRoom + (rest.map fun v => v.category).sum ≤ 8 := by
    show 2 * 0 + _ ≤ 8
    omega
  rcases hlk with hlk | ⟨host, hlk⟩
  · exact va_runS (n := xe_in inf) ⟨hx, hb, hml, hown, hts⟩ hMet ⟨⟨rfl, rfl, hrd.1, hrd.2, hws, List.mem_cons_self, hts _ o1, hts _ o2, ⟨o4.1, o4.2.1⟩, hsig, hts _ hlk⟩, hts _ q1⟩ hp rfl (by rw [List.length_map]; exact hn) hls rfl hW8 hdg ⟨hcl, hsl⟩
  · exact va_runSN (n := xe_in inf) ⟨hx, hb, hml, hown, hts⟩ hMet ⟨⟨⟨rfl, rfl, hrd.1, hrd.2, hws, List.mem_cons_self⟩, hts _ o1, hts _ o2, ⟨o4.1, o4.2.1⟩, hsig, va_Nw.use rfl (hE.2.1 _ hlk)⟩, hts _ q1, trivial⟩ hp rfl (by rw [List.length_map]; exact hn) hls rfl hW8 hdg ⟨hcl, hsl⟩

set_option maxHeartbeats 4000000 in
/-- a call of the logic is a contract -/
theorem xe_met {T : List xe_I} (hok : ∀ (g : Nat) (inf : xe_I), T[g]? = some inf → xe_ik inf ≤ 2 → xe_ok T inf) (hno : ∀ (g : Nat) (inf : xe_I), T[g]? = some inf → xe_ik inf ≤ 2 → ∀ (i h : Nat), (xe_code inf)[i]? = some (Instr.invokestatic h) → ∀ inf' : xe_I, T[h]? = some inf' → xe_ik inf' ≠ 4) (hsys : xe_sys) : ∀ d, xe_Mets l D ty b base L xs T d
  | 0 => fun _ _ _ _ _ _ _ _ _ _ h => h.elim
  | d + 1 => by
    intro g inf a z M P hT hk ha hc1 hcall
    have IH := xe_met hok hno hsys d
    obtain ⟨inf', hT', hEv⟩ := hcall
    obtain rfl : inf' = inf := Option.some.inj (hT'.symm.trans hT)
    have ok := hok g inf' hT hk
    obtain ⟨o1, o2, o3, o4, o5, o6, o7, o8, o9, o10, cp, hcp, hchk⟩ := id ok
    refine xe_ofW (cc := xe_ib inf') (maxL := xe_iL inf') (ret := xe_ir inf') o3 rfl ?_
    intro p e s m args below meth c s₁ B hml hv
    obtain ⟨rfl, hE, hX, hbb, hbs, hH, hUx⟩ := hv
    have hts := atoms_spec (ws := xe_ws inf') B.pre
    have hts2 : ∀ w ∈ xe_good, w.before (a.map (xe_v b base)).toArray s = true := fun w hw => hts w (List.mem_cons_of_mem _ hw)
    have hown : s.vm.findClass (xe_iy inf').cls = some m.cls := findClass_of_methodNamed B.named
    have hname := (name_of_methodNamed B.named B.method).1
    have hcat : ∀ v ∈ a, v.category = 1 := fun v hv => xe_c1_cat (List.all_eq_true.mp hc1 v hv)
    have hcat2 : ∀ v ∈ a.map (xe_v b base), v.category = 1 := fun w hw => by
      obtain ⟨u, hu, rfl⟩ := List.mem_map.mp hw
      rw [xe_v_cat]
      exact hcat u hu
    have hlen : a.length ≤ xe_iL inf' := by omega
    have hl := lv_entry (a.map (xe_v b base)) (n := xe_iL inf') (by rw [xe_sl_len _ hcat2, List.length_map]; exact hlen)
    rw [lg_entry_eq]
    generalize (lg_sl (a.map (xe_v b base)) ++ List.replicate (xe_iL inf' - (lg_sl (a.map (xe_v b base))).length) Slot.unset).toArray = ls at hl ⊢
    have hl2 := xe_entry_l hcat hl
    have hRf : d + 9 ≤ (headSpec (xe_ws inf') (xe_rm (d + 1) inf')).room.frames := by show d + 9 ≤ d + 1 + 8; omega
    have hRl : 64 * d + 464 ≤ (headSpec (xe_ws inf') (xe_rm (d + 1) inf')).room.locals := by show 64 * d + 464 ≤ 64 * (d + 1) + 400; omega
    have hwid : ∀ {H : Heap} {locs : List Loc} {cells slots : Nat} {Qx : State → Prop} {gx : JFrame}, cells ≤ xe_im inf' → slots ≤ xe_is inf' → W p l e (headSpec (xe_ws inf') (xe_rm (d + 1) inf')).room s m (a.map (xe_v b base)).toArray below meth c H locs (xe_im inf') (xe_is inf') Qx gx → W p l e (headSpec (xe_ws inf') (xe_rm (d + 1) inf')).room s m (a.map (xe_v b base)).toArray below meth c H locs cells slots Qx gx := fun h1 h2 k => W.widen h1 h2 k
    have hend : ∀ {v : Option Value} {z : Nat} {M : xe_M} {H : Heap} {locs : List Loc}, P v z M → va_S (xe_A base) s.heap H locs → xe_H D ty b base L xs z M H → ∀ t : State, t.heap = H → s.WarmedH t.vm → xe_Qc D ty b base L xs P (a.map (xe_v b base)).toArray s (.returned (v.map (xe_v b base))) t := fun hp hS hH t ht _ => ⟨⟨_, _, _, rfl, hp, by rw [ht]; exact hH⟩, hS.F ht⟩
    have key := hEv (xe_X p l e (headSpec (xe_ws inf') (xe_rm (d + 1) inf')).room s m (a.map (xe_v b base)).toArray below meth c (MQ below (xe_Qc D ty b base L xs P) (a.map (xe_v b base)).toArray s (xe_im inf') (xe_is inf') (xe_A base)) D ty b base L xs (xe_iL inf') (xe_pcs inf'))
      (xe_sound (own := (xe_iy inf').cls) (kind := xe_ik inf') (ret := xe_ir inf') (cp := cp) B.exec B.bytes hml hown hts2 hE hX hbb hbs (fun q => by rw [hname]; exact (o8 q).2.1) hcp (by omega) (by omega) hsys.1 hsys.2.1 hsys.2.2
        (xe_callV B.exec B.bytes hml hown hts2 hE hUx hX hbb hbs hok hRf hRl IH)
        (xe_callN B.exec B.bytes hml hown hts2 hE hUx hX hbb hbs hok hRf hRl IH)
        (fun i2 g2 inf2 As z2 M2 P2 idx q0 q1 q2 q3 q4 q5 q6 => ?_)
        (fun x z2 M2 H locs ls cells slots pc hr hdg hq hS hH hc hs => ?_)
        (fun x z2 M2 H locs ls cells slots pc hr hx hdg hq hS hH hc hs => ?_)
        (fun z2 M2 H locs ls cells slots pc hr hdg hq hS hH hc hs => ?_)
        (fun i2 st2 z2 M2 H locs ls cells slots q7 => absurd q7 (by omega))
        (fun i2 g2 dl2 st2 kc2 ks2 z2 M2 q7 => absurd q7 (by omega))
        hchk)
      s.heap [] ls 0 0 va_S.rf hH hl2 (by unfold xe_entry; rw [List.length_append, List.length_replicate]; omega) (by show 0 + xe_im inf' ≤ xe_im inf'; omega) (by show 0 + xe_is inf' ≤ xe_is inf'; omega)
    · rw [o10] at key
      exact key
    · rcases q2 with q2 | q2
      · exact xe_callS B.exec B.bytes hml hown hts2 hE hUx hX hbb hbs hok hRf hRl IH g2 inf2 As z2 M2 P2 idx q1 q2 q3 q4 q5 q6
      · exact absurd q2 (hno g inf' hT hk i2 g2 q0 inf2 q1)
    · exact hwid hc hs (W.iret B.exec B.bytes (by rw [← hr]; exact B.returns) (hend hq hS hH) hS.2.2 hdg B.notSynchronized)
    · exact hwid hc hs (W.zret B.exec B.bytes (by rw [← hr]; exact B.returns) (by rcases hx with rfl | rfl <;> decide) (hend hq hS hH) hS.2.2 hdg B.notSynchronized)
    · exact hwid hc hs (W.vret B.exec B.bytes (by rw [← hr]; exact B.returns) (hend hq hS hH) hS.2.2 hdg B.notSynchronized)
end XED
