/-! THROWS AND CATCHES: the four methods that throw, the law's four that catch. -/
def xe_XC (D : va_G) (ty : Nat → ClassId) (b base L : Nat) (xs : Nat → Int32) (P : xe_Q) : String → State → State → Prop := fun E st t => E = xe_NS ∧ (∃ z M, P (some (.double 0)) z M ∧ xe_H D ty b base L xs z M t.heap) ∧ va_F (xe_A base) st t
abbrev xe_nms : List String := ["java/lang/RuntimeException", "java/lang/Exception"]
theorem xe_tw1 : ((vx_at0 "NinthDayHooded" 161 xe_NS xe_nms).filter goodWord).all (fun w => lw_tbl.any (fun v => decide (v = w))) = true := by decide +kernel
theorem xe_tw2 : ((vx_at0 "NinthDayHooded" 161 xe_NS xe_nms).filter (fun w => !goodWord w)).all (fun w => xe_exw.any (fun v => decide (v = w))) = true := by decide +kernel
theorem xe_tw3 : (Cond.classLink "NinthDayHooded" 159 xe_NS :: Cond.initialized xe_NS :: vx_at0 "NinthDayHooded" 161 xe_NS xe_nms).all vx_ot = true := by decide +kernel
theorem xe_tw4 : Cond.classLink "NinthDayHooded" 159 xe_NS ∈ xe_good := xm_w_good (j := 1202) (by decide +kernel) rfl
theorem xe_tw5 : Cond.initialized xe_NS ∈ xe_good := xm_w_good (j := 155) (by decide +kernel) rfl
theorem xe_tw6 : Cond.classLink "NinthDayHoodedLaw" 13 xe_NS ∈ xe_good := xm_w_good (j := 1197) (by decide +kernel) rfl
theorem xe_tw7 : Bundle.fit xe_NS = true ∧ ∀ n ∈ xe_nms, Bundle.fit n = true := by decide +kernel
theorem xe_thw {args : Array Value} {s : State} (hts : ∀ w ∈ xe_good, w.before args s = true) (hc : ∀ w ∈ xe_exw, va_Nw w s) : ∀ w ∈ vx_at0 "NinthDayHooded" 161 xe_NS xe_nms, w.before args s = true := by
  refine vx_hat (B := xe_exw) (fun w hw => ?_) (fun w hw => ?_) (fun w hw => ?_)
  · have h1 := List.all_eq_true.mp xe_tw1 w hw
    obtain ⟨v, hv, he⟩ := List.any_eq_true.mp h1
    have he := of_decide_eq_true he
    subst he
    exact hts _ (List.mem_filter.mpr ⟨hv, (List.mem_filter.mp hw).2⟩)
  · obtain ⟨v, hv, he⟩ := List.any_eq_true.mp (List.all_eq_true.mp xe_tw2 w hw)
    rw [← of_decide_eq_true he]
    exact hv
  · have ho : w.onTables = true := by
      simp only [xe_exw, List.mem_cons, List.not_mem_nil, or_false] at hw
      rcases hw with rfl | rfl | rfl | rfl <;> rfl
    exact va_Nw.use ho (hc w hw)
section XEF
variable {l : Launch} {D : va_G} {ty : Nat → ClassId} {b base L : Nat} {xs : Nat → Int32}
theorem xe_H.more {z : Nat} {M : xe_M} {H H1 : Heap} (h : xe_H D ty b base L xs z M H) (hz : xe_Z ≤ z) (hk : ∀ q : Nat, q < H.size → H1[q]? = H[q]?) : xe_H D ty b base L xs z M H1 := ⟨h.1.kept fun k q hq => hk q.1 ((h.1 k q hq).lt), h.2.1, h.2.2.1, fun q => absurd q (Nat.not_lt.mpr hz)⟩
set_option maxHeartbeats 4000000 in
/-- a method that may throw -/
theorem xe_vmet {T : List xe_I} (hok : ∀ (g : Nat) (inf : xe_I), T[g]? = some inf → xe_ik inf ≤ 3 → xe_ok T inf) (hno : ∀ (g : Nat) (inf : xe_I), T[g]? = some inf → xe_ik inf ≤ 3 → ∀ (i h : Nat), (xe_code inf)[i]? = some (Instr.invokestatic h) → ∀ inf' : xe_I, T[h]? = some inf' → xe_ik inf' ≠ 4) (hsys : xe_sys) (hl : l.stackTraces = false) (hcls : ∀ (g : Nat) (inf : xe_I), T[g]? = some inf → xe_ik inf = 3 → (xe_iy inf).cls = "NinthDayHooded" ∧ plainName (xe_iy inf).cls = true ∧ xe_im inf = 1 ∧ xe_is inf = 6)
    (d g : Nat) (inf : xe_I) (a : List Value) (z : Nat) (M : xe_M) (P : xe_Q) (hT : T[g]? = some inf) (hk : xe_ik inf = 3) (ha : a.length = xe_in inf + 1) (hc1 : a.all xe_c1 = true) (hcall : xe_Call T (d + 1) g a z M P) :
    vx_Met l (xe_iy inf) (xe_ws inf) (xe_rm (d + 1) inf) (xe_Pc D ty b base L xs a z M) (xe_Qc D ty b base L xs (fun v z M => v ≠ some (.double 0) ∧ P v z M)) (xe_XC D ty b base L xs P) (xe_im inf) (xe_is inf) (xe_A base) := by
  have hok2 : ∀ (g : Nat) (inf : xe_I), T[g]? = some inf → xe_ik inf ≤ 2 → xe_ok T inf := fun g inf h1 h2 => hok g inf h1 (by omega)
  have IH : xe_Mets l D ty b base L xs T d := xe_met hok2 (fun g inf h1 h2 => hno g inf h1 (by omega)) hsys d
  obtain ⟨inf', hT', hEv⟩ := hcall
  obtain rfl : inf' = inf := Option.some.inj (hT'.symm.trans hT)
  have ok := hok g inf' hT (by omega)
  obtain ⟨o1, o2, o3, o4, o5, o6, o7, o8, o9, o10, cp, hcp, hchk⟩ := id ok
  obtain ⟨w1, w2, w3, w4⟩ := hcls g inf' hT hk
  refine vx_ofW (cc := xe_ib inf') (maxL := xe_iL inf') (ret := xe_ir inf') w2 rfl ?_
  intro p e s m args below meth c s₁ B hml ht hv
  obtain ⟨rfl, hE, hX, hbb, hbs, hH, hUx⟩ := hv
  have hts := atoms_spec (ws := xe_ws inf') B.pre
  have hts2 : ∀ w ∈ xe_good, w.before (a.map (xe_v b base)).toArray s = true := fun w hw => hts w (List.mem_cons_of_mem _ hw)
  have hown : s.vm.findClass (xe_iy inf').cls = some m.cls := findClass_of_methodNamed B.named
  have hname := (name_of_methodNamed B.named B.method).1
  have hcat : ∀ v ∈ a, v.category = 1 := fun v hv => xe_c1_cat (List.all_eq_true.mp hc1 v hv)
  have hcat2 : ∀ v ∈ a.map (xe_v b base), v.category = 1 := fun w hw => by
    obtain ⟨u, hu, rfl⟩ := List.mem_map.mp hw
    rw [xe_v_cat]
    exact hcat u hu
  have hlen : a.length ≤ xe_iL inf' := by
    rw [if_neg (by omega)] at o6
    omega
  have hlv := lv_entry (a.map (xe_v b base)) (n := xe_iL inf') (by rw [xe_sl_len _ hcat2, List.length_map]; exact hlen)
  rw [lg_entry_eq]
  generalize (lg_sl (a.map (xe_v b base)) ++ List.replicate (xe_iL inf' - (lg_sl (a.map (xe_v b base))).length) Slot.unset).toArray = ls at hlv ⊢
  have hl2 := xe_entry_l hcat hlv
  have hRf : d + 9 ≤ (headSpec (xe_ws inf') (xe_rm (d + 1) inf')).room.frames := by show d + 9 ≤ d + 1 + 8; omega
  have hRl : 64 * d + 464 ≤ (headSpec (xe_ws inf') (xe_rm (d + 1) inf')).room.locals := by show 64 * d + 464 ≤ 64 * (d + 1) + 400; omega
  have hwid : ∀ {H : Heap} {locs : List Loc} {cells slots : Nat} {Qx : State → Prop} {gx : JFrame}, cells ≤ xe_im inf' → slots ≤ xe_is inf' → W p l e (headSpec (xe_ws inf') (xe_rm (d + 1) inf')).room s m (a.map (xe_v b base)).toArray below meth c H locs (xe_im inf') (xe_is inf') Qx gx → W p l e (headSpec (xe_ws inf') (xe_rm (d + 1) inf')).room s m (a.map (xe_v b base)).toArray below meth c H locs cells slots Qx gx := fun h1 h2 k => W.widen h1 h2 k
  have hend : ∀ {v : Option Value} {z : Nat} {M : xe_M} {H : Heap} {locs : List Loc}, v ≠ some (.double 0) ∧ P v z M → va_S (xe_A base) s.heap H locs → xe_H D ty b base L xs z M H → ∀ t : State, t.heap = H → s.WarmedH t.vm → xe_Qc D ty b base L xs (fun v z M => v ≠ some (.double 0) ∧ P v z M) (a.map (xe_v b base)).toArray s (.returned (v.map (xe_v b base))) t := fun hp hS hH t ht _ => ⟨⟨_, _, _, rfl, hp, by rw [ht]; exact hH⟩, hS.F ht⟩
  have key := hEv (xe_X p l e (headSpec (xe_ws inf') (xe_rm (d + 1) inf')).room s m (a.map (xe_v b base)).toArray below meth c (vx_MQ below (xe_Qc D ty b base L xs (fun v z M => v ≠ some (.double 0) ∧ P v z M)) (xe_XC D ty b base L xs P) (a.map (xe_v b base)).toArray s (xe_im inf') (xe_is inf') (xe_A base)) D ty b base L xs (xe_iL inf') (xe_pcs inf'))
    (xe_sound (own := (xe_iy inf').cls) (kind := xe_ik inf') (ret := xe_ir inf') (cp := cp) B.exec B.bytes hml hown hts2 hE hX hbb hbs (fun q => absurd q (by omega)) hcp (by omega) (by omega) hsys.1 hsys.2.1 hsys.2.2
      (xe_callV B.exec B.bytes hml hown hts2 hE hUx hX hbb hbs hok2 hRf hRl IH)
      (xe_callN B.exec B.bytes hml hown hts2 hE hUx hX hbb hbs hok2 hRf hRl IH)
      (fun i2 g2 inf2 As z2 M2 P2 idx q0 q1 q2 q3 q4 q5 q6 => ?_)
      (fun x z2 M2 H locs ls cells slots pc hr hdg hq hS hH hc hs => ?_)
      (fun x z2 M2 H locs ls cells slots pc hr hx hdg hq hS hH hc hs => ?_)
      (fun z2 M2 H locs ls cells slots pc hr hdg hq hS hH hc hs => ?_)
      (fun i2 st2 z2 M2 H locs ls cells slots q7 hcd hct hzz hq hS hH hls hc hs => ?_)
      (fun i2 g2 dl2 st2 kc2 ks2 z2 M2 q7 => absurd q7 (by omega))
      hchk)
    s.heap [] ls 0 0 va_S.rf hH hl2 (by unfold xe_entry; rw [List.length_append, List.length_replicate]; omega) (by show 0 + xe_im inf' ≤ xe_im inf'; omega) (by show 0 + xe_is inf' ≤ xe_is inf'; omega)
  · rw [o10] at key
    exact key
  · rcases q2 with q2 | q2
    · exact xe_callS B.exec B.bytes hml hown hts2 hE hUx hX hbb hbs hok2 hRf hRl IH g2 inf2 As z2 M2 P2 idx q1 q2 q3 q4 q5 q6
    · exact absurd q2 (hno g inf' hT (by omega) i2 g2 q0 inf2 q1)
  · exact vx_ret (hwid hc hs (W.iret B.exec B.bytes (by rw [← hr]; exact B.returns) (hend ⟨fun h => (by cases h), hq⟩ hS hH) hS.2.2 hdg B.notSynchronized))
  · exact vx_ret (hwid hc hs (W.zret B.exec B.bytes (by rw [← hr]; exact B.returns) (by rcases hx with rfl | rfl <;> decide) (hend ⟨fun h => (by cases h), hq⟩ hS hH) hS.2.2 hdg B.notSynchronized))
  · exact vx_ret (hwid hc hs (W.vret B.exec B.bytes (by rw [← hr]; exact B.returns) (hend ⟨fun h => (by cases h), hq⟩ hS hH) hS.2.2 hdg B.notSynchronized))
  · have hk2 := hchk i2 _ hcd
    simp only [xe_chk, Bool.and_eq_true, decide_eq_true_eq] at hk2
    obtain ⟨⟨⟨⟨-, d0⟩, d3⟩, d4⟩, d7⟩ := hk2
    have hown2 : s.vm.findClass "NinthDayHooded" = some m.cls := by rw [← w1]; exact hown
    have e1 : (headSpec (xe_ws inf') (xe_rm (d + 1) inf')).room.cells = xe_im inf' := rfl
    have e2 : (headSpec (xe_ws inf') (xe_rm (d + 1) inf')).room.slots = xe_is inf' := rfl
    refine vx_throw0 (names := xe_nms) (A := xe_A base) B.exec B.bytes hl hown2 xe_tw7.1 xe_tw7.2 (hts2 _ xe_tw4) (hts2 _ xe_tw5) (xe_thw hts2 hE.2.2.2) (fun w hw => List.all_eq_true.mp xe_tw3 w hw) hUx.1 hUx.2 hS (hls.trans hml.symm) (xe_D_d d0) (xe_D_d d3) (xe_D_d d4) (xe_D_d d7) (fun x hx => (ht x hx).elim) ?_ ?_ hc hs B.notSynchronized (fun t _ h2 h3 => ⟨rfl, ⟨z2, M2, hq, hH.more hzz h3⟩, ?_⟩) hS.2.2 (by rw [← e1]; exact hc) (by rw [← e2]; exact hs)
    · show 2 + 3 < d + 1 + 8
      omega
    · rw [xe_cat_map]
      show xe_cat st2 + (13 * (2 + 1) + 42) ≤ 64 * (d + 1) + 400
      omega
    · exact ⟨Nat.le_trans hS.1 h2, fun q h4 h5 => (h3 q (Nat.lt_of_lt_of_le h4 hS.1)).trans (hS.2.1 q h4 h5)⟩
end XEF
