/-! THE LAW's FOUR METHODS THAT CATCH. -/
def xe_ws4 (inf : xe_I) (hh : List (Nat × Nat × Nat × Nat)) : List Cond := Cond.codeWith (xe_iy inf) (xe_ib inf) (xe_iL inf) (xe_ir inf) hh :: xe_good
def xe_ok4 (T : List xe_I) (inf : xe_I) (hh : List (Nat × Nat × Nat × Nat)) : Prop :=
  Cond.codeWith (xe_iy inf) (xe_ib inf) (xe_iL inf) (xe_ir inf) hh ∈ xe_good ∧ Cond.initialized (xe_iy inf).cls ∈ xe_good ∧ plainName (xe_iy inf).cls = true ∧
  ((xe_iy inf).cls ≠ "java/lang/invoke/MethodHandle" ∧ (xe_iy inf).cls ≠ "java/lang/invoke/VarHandle" ∧ (parseMethodDescriptor (xe_iy inf).desc).map (fun d => d.parameters.length) = some (xe_in inf)) ∧
  xe_iL inf ≤ 45 ∧ xe_in inf ≤ xe_iL inf ∧ Cond.static (xe_iy inf) ∈ xe_good ∧ (xe_pcs inf).getD 0 0 = 0 ∧ xe_im inf = 1 ∧ xe_is inf = 6 ∧ (xe_iy inf).cls = "NinthDayHoodedLaw" ∧
  (∃ cp, xe_cpok (xe_iy inf).cls T cp ∧ ∀ i ins, (xe_code inf)[i]? = some ins → xe_chk cp (xe_ib inf) (xe_ik inf) (xe_iy inf).cls (xe_ir inf) (xe_pcs inf) i ins = true) ∧
  ∃ st en hd k idx, hh = [(st, en, hd, 13)] ∧ k < xe_iL inf ∧ ∀ i g, (xe_code inf)[i]? = some (Instr.invokedynamic g) → st ≤ (xe_pcs inf).getD i 0 ∧ (xe_pcs inf).getD i 0 < en ∧ hd = (xe_pcs inf).getD (i + 4) 0 ∧ (xe_code inf)[i + 4]? = some (Instr.astore k) ∧ decode (xe_ib inf) ((xe_pcs inf).getD i 0) = .ok (.invokevirtual idx, 3) ∧ (xe_pcs inf).getD (i + 1) 0 = (xe_pcs inf).getD i 0 + 3 ∧ ∀ inf3 : xe_I, T[g]? = some inf3 → Cond.methodLink "NinthDayHoodedLaw" idx (xe_iy inf3) ∈ xe_good
theorem xe_l_rep (b base n : Nat) : xe_l b base (List.replicate n (.double 0)) = [] := by
  apply List.eq_nil_iff_forall_not_mem.mpr
  intro q hq
  obtain ⟨v, h1, h2, -⟩ := xe_l_of hq
  have := (List.mem_replicate.mp (List.mem_of_getElem? h1)).2
  exact h2 _ this
section XEG
variable {l : Launch} {D : va_G} {ty : Nat → ClassId} {b base L : Nat} {xs : Nat → Int32}
set_option maxHeartbeats 8000000 in
theorem xe_wmet {T : List xe_I} (hok : ∀ (g : Nat) (inf : xe_I), T[g]? = some inf → xe_ik inf ≤ 3 → xe_ok T inf) (hno : ∀ (g : Nat) (inf : xe_I), T[g]? = some inf → xe_ik inf ≤ 3 → ∀ (i h : Nat), (xe_code inf)[i]? = some (Instr.invokestatic h) → ∀ inf' : xe_I, T[h]? = some inf' → xe_ik inf' ≠ 4) (hsys : xe_sys) (hl : l.stackTraces = false) (hcls : ∀ (g : Nat) (inf : xe_I), T[g]? = some inf → xe_ik inf = 3 → (xe_iy inf).cls = "NinthDayHooded" ∧ plainName (xe_iy inf).cls = true ∧ xe_im inf = 1 ∧ xe_is inf = 6)
    (d g : Nat) (inf : xe_I) (hh : List (Nat × Nat × Nat × Nat)) (a : List Value) (z : Nat) (M : xe_M) (P : xe_Q) (hT : T[g]? = some inf) (hk : xe_ik inf = 4) (ok : xe_ok4 T inf hh) (hnst : ∀ (i h : Nat), (xe_code inf)[i]? ≠ some (Instr.invokestatic h)) (ha : a.length = xe_in inf) (hc1 : a.all xe_c1 = true) (hcall : xe_Call T (d + 2) g a z M P) :
    Met l (xe_iy inf) (xe_ws4 inf hh) (xe_rm (d + 2) inf) (xe_Pc D ty b base L xs a z M) (xe_Qc D ty b base L xs P) (xe_im inf) (xe_is inf) (xe_A base) := by
  have hok2 : ∀ (g : Nat) (inf : xe_I), T[g]? = some inf → xe_ik inf ≤ 2 → xe_ok T inf := fun g inf h1 h2 => hok g inf h1 (by omega)
  have IH : xe_Mets l D ty b base L xs T (d + 1) := xe_met hok2 (fun g inf h1 h2 => hno g inf h1 (by omega)) hsys (d + 1)
  obtain ⟨inf', hT', hEv⟩ := hcall
  obtain rfl : inf' = inf := Option.some.inj (hT'.symm.trans hT)
  obtain ⟨o1, o2, o3, o4, o5, o6, o7, o8, o9, o10, o11, ⟨cp, hcp, hchk⟩, st0, en0, hd0, k0, idx0, rfl, hk0, hdyn⟩ := id ok
  refine MetFree.of_bodyS (code := xe_ib inf') (maxLocals := xe_iL inf') (ret := xe_ir inf') o3 ?_ ?_
  · intro args s m h hn
    obtain ⟨m9, meth, c, hn9, h1, h2, h3, h4, -, h5, h6, -⟩ := Cond.codeWith_spec (atoms_spec (ws := xe_ws4 inf' _) h _ List.mem_cons_self)
    cases hn.symm.trans hn9
    exact ⟨meth, c, h1, h2, h3, h4, h5, h6⟩
  · intro p e s m args below meth c s₁ B hml hv _
    obtain ⟨rfl, hE, hX, hbb, hbs, hH, hUx⟩ := hv
    have hh0 : s₁.heap = s.heap := by rw [B.state]; rfl
    have hts := atoms_spec (ws := xe_ws4 inf' _) B.pre
    have htab := vx_table (x := xe_iy inf') B (hts _ List.mem_cons_self)
    have hts2 : ∀ w ∈ xe_good, w.before (a.map (xe_v b base)).toArray s = true := fun w hw => hts w (List.mem_cons_of_mem _ hw)
    have hown : s.vm.findClass (xe_iy inf').cls = some m.cls := findClass_of_methodNamed B.named
    have hcat : ∀ v ∈ a, v.category = 1 := fun v hv => xe_c1_cat (List.all_eq_true.mp hc1 v hv)
    have hcat2 : ∀ v ∈ a.map (xe_v b base), v.category = 1 := fun w hw => by
      obtain ⟨u, hu, rfl⟩ := List.mem_map.mp hw
      rw [xe_v_cat]
      exact hcat u hu
    have hlen : a.length ≤ xe_iL inf' := by omega
    have hlv := lv_entry (a.map (xe_v b base)) (n := xe_iL inf') (by rw [xe_sl_len _ hcat2, List.length_map]; exact hlen)
    have hRf : d + 1 + 9 ≤ (headSpec (xe_ws4 inf' [(st0, en0, hd0, 13)]) (xe_rm (d + 2) inf')).room.frames := by show d + 1 + 9 ≤ d + 2 + 8; omega
    have hRl : 64 * (d + 1) + 464 ≤ (headSpec (xe_ws4 inf' [(st0, en0, hd0, 13)]) (xe_rm (d + 2) inf')).room.locals := by show 64 * (d + 1) + 464 ≤ 64 * (d + 2) + 400; omega
    have key : W p l e (headSpec (xe_ws4 inf' [(st0, en0, hd0, 13)]) (xe_rm (d + 2) inf')).room s m (a.map (xe_v b base)).toArray below meth c s.heap [] 0 0 (MQ below (xe_Qc D ty b base L xs P) (a.map (xe_v b base)).toArray s (xe_im inf') (xe_is inf') (xe_A base)) (entryFrame m (a.map (xe_v b base)).toArray (xe_iL inf')) := by
      rw [lg_entry_eq]
      generalize (lg_sl (a.map (xe_v b base)) ++ List.replicate (xe_iL inf' - (lg_sl (a.map (xe_v b base))).length) Slot.unset).toArray = ls at hlv ⊢
      have hl2 := xe_entry_l hcat hlv
      have hwid : ∀ {H : Heap} {locs : List Loc} {cells slots : Nat} {Qx : State → Prop} {gx : JFrame}, cells ≤ xe_im inf' → slots ≤ xe_is inf' → W p l e (headSpec (xe_ws4 inf' [(st0, en0, hd0, 13)]) (xe_rm (d + 2) inf')).room s m (a.map (xe_v b base)).toArray below meth c H locs (xe_im inf') (xe_is inf') Qx gx → W p l e (headSpec (xe_ws4 inf' [(st0, en0, hd0, 13)]) (xe_rm (d + 2) inf')).room s m (a.map (xe_v b base)).toArray below meth c H locs cells slots Qx gx := fun h1 h2 k => W.widen h1 h2 k
      have hend : ∀ {v : Option Value} {z : Nat} {M : xe_M} {H : Heap} {locs : List Loc}, P v z M → va_S (xe_A base) s.heap H locs → xe_H D ty b base L xs z M H → ∀ t : State, t.heap = H → s.WarmedH t.vm → xe_Qc D ty b base L xs P (a.map (xe_v b base)).toArray s (.returned (v.map (xe_v b base))) t := fun hp hS hH t ht _ => ⟨⟨_, _, _, rfl, hp, by rw [ht]; exact hH⟩, hS.F ht⟩
      have key := hEv (xe_X p l e (headSpec (xe_ws4 inf' [(st0, en0, hd0, 13)]) (xe_rm (d + 2) inf')).room s m (a.map (xe_v b base)).toArray below meth c (MQ below (xe_Qc D ty b base L xs P) (a.map (xe_v b base)).toArray s (xe_im inf') (xe_is inf') (xe_A base)) D ty b base L xs (xe_iL inf') (xe_pcs inf'))
        (xe_sound (own := (xe_iy inf').cls) (kind := xe_ik inf') (ret := xe_ir inf') (cp := cp) B.exec B.bytes hml hown hts2 hE hX hbb hbs (fun q => absurd q (by omega)) hcp (by omega) (by omega) hsys.1 hsys.2.1 hsys.2.2
          (xe_callV B.exec B.bytes hml hown hts2 hE hUx hX hbb hbs hok2 hRf hRl IH)
          (xe_callN B.exec B.bytes hml hown hts2 hE hUx hX hbb hbs hok2 hRf hRl IH)
          (fun i2 g2 inf2 As z2 M2 P2 idx q0 q1 q2 q3 q4 q5 q6 => absurd q0 (hnst i2 g2))
          (fun x z2 M2 H locs ls cells slots pc hr hdg hq hS hH hc hs => hwid hc hs (W.iret B.exec B.bytes (by rw [← hr]; exact B.returns) (hend hq hS hH) hS.2.2 hdg B.notSynchronized))
          (fun x z2 M2 H locs ls cells slots pc hr hx hdg hq hS hH hc hs => hwid hc hs (W.zret B.exec B.bytes (by rw [← hr]; exact B.returns) (by rcases hx with rfl | rfl <;> decide) (hend hq hS hH) hS.2.2 hdg B.notSynchronized))
          (fun z2 M2 H locs ls cells slots pc hr hdg hq hS hH hc hs => hwid hc hs (W.vret B.exec B.bytes (by rw [← hr]; exact B.returns) (hend hq hS hH) hS.2.2 hdg B.notSynchronized))
          (fun i2 st2 z2 M2 H locs ls cells slots q7 => absurd q7 (by omega))
          (fun i2 g2 dl2 st2 kc2 ks2 z2 M2 q7 hcd hins => ?_)
          hchk)
        s.heap [] ls 0 0 va_S.rf hH hl2 (by unfold xe_entry; rw [List.length_append, List.length_replicate]; omega) (by show 0 + xe_im inf' ≤ xe_im inf'; omega) (by show 0 + xe_is inf' ≤ xe_is inf'; omega)
      · rw [o8] at key
        exact key
      · intro H locs ls cells slots hS hH hlq hd hcl hsl
        obtain ⟨inf3, As, a3, fs, r, hT3, hk3, rfl, hAs, hA1, ha0, haz, hMa, hcatr, hmc, hms, hC⟩ := hins
        obtain ⟨y1, y2, y3, y4, y5, y6, y7⟩ := hdyn i2 g2 hcd
        have ok3 := hok g2 inf3 hT3 (by omega)
        obtain ⟨p1, p2, p3, p4, p5, p6, p7, p8, p9, p10, p11⟩ := id ok3
        obtain ⟨q1, q2, r0, q3, q4⟩ := p7 (Or.inr hk3)
        have hV := xe_vmet (l := l) (D := D) (ty := ty) (b := b) (base := base) (L := L) (xs := xs) hok hno hsys hl hcls d g2 inf3 (.ref a3 :: As) z2 M2 _ hT3 hk3 (by rw [List.length_cons, hAs]) (by rw [List.all_cons, hA1]; rfl) hC
        have he := xe_at (ty := ty) (b := b) (base := base) ha0 haz hMa
        have hrec := va_recv hE.1 hH.1 q3 he
        have hws : ∀ w ∈ xe_ws inf3, ∀ (a' : Array Value) (U : State), s.WarmedH U.vm → w.before a' U = true := pay_in hts2 (xe_ws_in ok3)
        have hsig : ∀ sig, parseMethodDescriptor (xe_iy inf3).desc = some sig → xe_in inf3 = sig.parameters.length := fun sig h => by
          have h2 := p4.2.2
          rw [h] at h2
          exact (Option.some.inj h2).symm
        have hp : PreV s H r0.1 (xe_ad b base a3) (xe_Pc D ty b base L xs (.ref a3 :: As) z2 M2) (As.map (xe_v b base)) := ⟨xe_blind, hrec, fun U hU hW => xe_pcU hE hUx hX hbb hbs hS hH U hU hW⟩
        have est : ((As.reverse ++ Value.ref a3 :: r).map (xe_v b base)) = (As.map (xe_v b base)).reverse ++ .ref (xe_ad b base a3) :: r.map (xe_v b base) := by simp [xe_v]
        rw [est]
        have hown2 : s.vm.findClass "NinthDayHoodedLaw" = some m.cls := by rw [← o11]; exact hown
        have hrd : (xe_rm (d + 1) inf3).frames + 1 ≤ (headSpec (xe_ws4 inf' [(st0, en0, hd0, 13)]) (xe_rm (d + 2) inf')).room.frames ∧ 8 + (xe_iL inf3 + 11) + (xe_rm (d + 1) inf3).locals ≤ (headSpec (xe_ws4 inf' [(st0, en0, hd0, 13)]) (xe_rm (d + 2) inf')).room.locals := by
          show d + 1 + 8 + 1 ≤ d + 2 + 8 ∧ 8 + (xe_iL inf3 + 11) + (64 * (d + 1) + 400) ≤ 64 * (d + 2) + 400
          omega
        have hW8 : 2 * (F0 m ((xe_pcs inf').getD i2 0) ls ((As.map (xe_v b base)).reverse ++ .ref (xe_ad b base a3) :: r.map (xe_v b base))).monitorRoom + ((r.map (xe_v b base)).map fun v => v.category).sum ≤ 8 := by
          show 2 * 0 + _ ≤ 8
          rw [xe_cat_map]
          omega
        have hr := vx_runV (e := e) (below := below) (meth := meth) (locs := locs) (cells := cells) (slots := slots) (g := F0 m ((xe_pcs inf').getD i2 0) ls ((As.map (xe_v b base)).reverse ++ .ref (xe_ad b base a3) :: r.map (xe_v b base))) (rest := r.map (xe_v b base)) (C := r0.1) (n := xe_in inf3) (R := (headSpec (xe_ws4 inf' [(st0, en0, hd0, 13)]) (xe_rm (d + 2) inf')).room) ⟨B.exec, B.bytes, hml, hown2, hts2⟩ hV ⟨⟨rfl, rfl, hrd.1, hrd.2, hws, List.mem_cons_self, hts2 _ p1, hts2 _ p2, ⟨p4.1, p4.2.1⟩, hsig, hts2 _ (y7 inf3 hT3)⟩, hts2 _ q1, by rw [q4]; exact hts2 _ q2⟩ hp rfl (by rw [List.length_map]; exact hAs) hlq.1 rfl hW8 y5 ⟨by omega, by omega⟩
        intro Tm hTm X
        rcases hr Tm hTm X with ⟨v, st₀, t, T', Lo, h0, X', hL, e1, e2, ⟨⟨w, z', M', hv, ⟨hne, hp'⟩, hb'⟩, hF⟩, stp⟩ | ⟨q, st₀, t, T', Lo, E, ce, h0, X', hL, e1, e2, ⟨hEE, ⟨z', M', hp', hb'⟩, hF⟩, hce, hcv, hcl9, stp⟩
        · cases hv
          obtain ⟨k1, k2, k3⟩ := vx_keep (A0 := xe_A base) (A1 := xe_A base) (free := xe_A base) h0 e1 hS (fun q _ h => h) (fun q h => h) hL hF
          have h9 := hp'.2 hne T'.heap (locs ++ Lo) ls (cells + xe_im inf3) (slots + xe_is inf3) k3 (by rw [e1]; exact hb') hlq hd (by omega) (by omega)
          rw [List.map_append, y6] at h9
          have h10 : W p l e (headSpec (xe_ws4 inf' [(st0, en0, hd0, 13)]) (xe_rm (d + 2) inf')).room s m (a.map (xe_v b base)).toArray below meth c T'.heap (locs ++ Lo) (cells + xe_im inf3) (slots + xe_is inf3) (MQ below (xe_Qc D ty b base L xs P) (a.map (xe_v b base)).toArray s (xe_im inf') (xe_is inf') (xe_A base)) (F0 m ((xe_pcs inf').getD i2 0 + 3) ls ((w.map (xe_v b base)).toList ++ r.map (xe_v b base))) := by
            cases w <;> exact h9
          obtain ⟨t2, a1, b1⟩ := h10 T' rfl X'
          exact ⟨t2, stp t2 a1, b1⟩
        · subst hEE
          obtain ⟨k1, k2, k3⟩ := vx_keep (A0 := xe_A base) (A1 := xe_A base) (free := xe_A base) h0 e1 hS (fun q _ h => h) (fun q h => h) hL hF
          have h9 := hp'.1 rfl
          have hk4 := hchk _ _ y4
          simp only [xe_chk, Bool.or_eq_true, Bool.and_eq_true, decide_eq_true_eq] at hk4
          have hW : vx_W p l e (headSpec (xe_ws4 inf' [(st0, en0, hd0, 13)]) (xe_rm (d + 2) inf')).room s m (a.map (xe_v b base)).toArray below meth c T'.heap (locs ++ Lo) (cells + xe_im inf3) (slots + xe_is inf3) (MQ below (xe_Qc D ty b base L xs P) (a.map (xe_v b base)).toArray s (xe_im inf') (xe_is inf') (xe_A base)) (F0 m ((xe_pcs inf').getD i2 0) ls (r.map (xe_v b base))) q := by
            refine vx_catch (own := "NinthDayHoodedLaw") (name := xe_NS) (E := xe_NS) hown2 ⟨st0, en0, hd0, 13⟩ (by rw [htab]; rfl) (by simp only [covers, Bool.and_eq_true, decide_eq_true_eq]; exact ⟨y1, y2⟩) (show (13 : Nat) ≠ 0 by decide) (hts2 _ xe_tw6) (va_Nw.use rfl (hE.2.2.2 _ List.mem_cons_self)) (by rw [e1]; exact hce) hcv hcl9 ?_
            show W p l e _ s m _ below meth c T'.heap _ _ _ _ (F0 m hd0 ls [.ref q])
            rw [y3]
            rcases hk4 with ⟨h4, hk4⟩ | hk4
            · refine lv_astore_n B.exec B.bytes (xe_nx_d hk4) (Nat.mod_eq_of_lt h4) (lv_sub hlq [] rfl) hk0 rfl (fun ls' hl' => xe_to (xe_nx_e hk4) ?_)
              exact h9 T'.heap (locs ++ Lo) ls' (cells + xe_im inf3) (slots + xe_is inf3) k3 (by rw [e1]; exact hb') (by rw [xe_l_rep]; exact ⟨hl'.1, hl'.2.1, fun q hq => by cases hq⟩) (by rw [List.length_replicate]; exact hd) (by omega) (by omega)
            · refine lv_astore B.exec B.bytes (xe_nx_d hk4) (lv_sub hlq [] rfl) hk0 rfl (fun ls' hl' => xe_to (xe_nx_e hk4) ?_)
              exact h9 T'.heap (locs ++ Lo) ls' (cells + xe_im inf3) (slots + xe_is inf3) k3 (by rw [e1]; exact hb') (by rw [xe_l_rep]; exact ⟨hl'.1, hl'.2.1, fun q hq => by cases hq⟩) (by rw [List.length_replicate]; exact hd) (by omega) (by omega)
          obtain ⟨t2, a1, b1⟩ := hW T' rfl X'
          exact ⟨t2, stp.trans a1, b1⟩
    obtain ⟨t, a1, o, b1, b2, b3⟩ := key s₁ hh0 (Stand.of_body B)
    exact ⟨t, o, a1, b1, b2, ⟨b3.1, b3.2⟩⟩
end XEG
