/-! SOUNDNESS, instruction by instruction. -/
section XEB
variable {p : Program} {l : Launch} {e : Env} {R : Room} {s : State} {m : MethodId} {args : Array Value} {below : List Frame} {meth : Method} {c : Code} {WQ : State → Prop}
variable {D : va_G} {ty : Nat → ClassId} {b base L : Nat} {xs : Nat → Int32}
theorem xe_len1 {dl : List Value} {k n : Nat} {v : Value} (h : dl.length = n) : (dl.set k v).length = n := by rw [List.length_set]; exact h
def xe_pt (t : FieldType) : Bool := match t with
  | .byte => false
  | .char => false
  | .short => false
  | _ => true
theorem xe_tyok (ci k : Nat) : xe_pt (xe_ty ci k) = true := by
  unfold xe_ty
  split
  all_goals first
    | (unfold tyX0; split <;> rfl) | (unfold tyX1; split <;> rfl) | (unfold tyX2; split <;> rfl) | (unfold tyX3; split <;> rfl) | (unfold tyX4; split <;> rfl) | (unfold tyX5; split <;> rfl) | (unfold tyX6; split <;> rfl) | (unfold tyX7; split <;> rfl) | (unfold tyX8; split <;> rfl) | (unfold tyX9; split <;> rfl) | (unfold tyX10; split <;> rfl) | (unfold tyX11; split <;> rfl) | (unfold tyX12; split <;> rfl)
theorem xe_narrow {t : FieldType} {v : Value} (ht : xe_pt t = true) (h : fits t v = true) : narrow t v = v := by
  cases t <;> cases v <;> first | rfl | (cases ht; done) | (cases h; done) | skip
  rename_i x
  have h2 : (x == 0 || x == 1) = true := h
  rw [Bool.or_eq_true, beq_iff_eq, beq_iff_eq] at h2
  rcases h2 with rfl | rfl <;> decide
theorem xe_fitv {t : FieldType} {v : Value} (h : fits t v = true) : fits t (xe_v b base v) = true := by
  cases v <;> first | exact h | (cases t <;> first | rfl | (simp [fits] at h))

set_option maxHeartbeats 4000000 in
/-- what a method's field store comes to -/
theorem xe_putf {own : String} {cc : ByteArray} {pc : Nat} {ls : Array Slot} {rest : List Value} {H : Heap} {locs : List Loc} {cells slots : Nat} (hx : p.tables.exec = Jvm.exec) (hb : c.code = cc) (hown : s.vm.findClass own = some m.cls) (hts : ∀ w ∈ xe_good, w.before args s = true) (hE : xe_E D ty s) (hS : va_S (xe_A base) s.heap H locs) {z : Nat} {M : xe_M} (hH : xe_H D ty b base L xs z M H) {a ci k idx : Nat} {fs : List Value} {v : Value} (ha : 0 < a) (hz : a < z) (hM : M a = .inr (ci, fs)) (hl : k < fs.length) (hfit : fits (xe_ty ci k) v = true) (hF : xe_okF own idx ci k) (hfin : ∀ r, xe_cl[ci]? = some r → (r.2.1 k).2.2.2 = false ∨ (meth.name = "<init>" ∧ r.1 = own)) (hdg : decode cc pc = .ok (.putfield idx, 3))
    (kk : ∀ (H1 : Heap) (locs1 : List Loc), va_S (xe_A base) s.heap H1 locs1 → xe_H D ty b base L xs z (va_up M a (.inr (ci, fs.set k v))) H1 → W p l e R s m args below meth c H1 locs1 cells slots WQ (F0 m (pc + 3) ls rest)) : W p l e R s m args below meth c H locs cells slots WQ (F0 m pc ls (xe_v b base v :: .ref (xe_ad b base a) :: rest)) := by
  obtain ⟨r, hc, hk, hdecl, hin, hlink⟩ := hF
  obtain ⟨hty, hnm, -⟩ := xe_clok ci r hc
  have hK := hE.1
  have hap := va_apart (own := own) hts hin (xe_ty ci) hty hnm hK hc
  have hn : narrow (xe_ty ci k) (xe_v b base v) = xe_v b base v := xe_narrow (xe_tyok ci k) (xe_fitv hfit)
  have he := xe_at (ty := ty) (b := b) (base := base) ha hz hM
  obtain ⟨r', h1, cell, q1, q2, q3, q4⟩ := hH.1 _ _ he
  have hr : r' = r := Option.some.inj (h1.symm.trans hc)
  subst hr
  obtain ⟨hSl, hfc, kC, hkC, hkind⟩ := hK.1 ci _ hc
  obtain ⟨cf, kf, fi, f, hi, hsl⟩ := hSl k hk
  have hi' : s.fieldFound? r'.1 (r'.2.1 k).2.1 (r'.2.1 k).2.2.1 = some (cf, kf, fi, f) := by rw [← hdecl]; exact hi
  have hlay := hts _ (hin _ (u_in_lay hk))
  unfold u_lay at hlay
  have hst := (u_facts hfc hkC (u_lays hts hin hk) hi).1
  have fin : ∀ (H' : Heap), H'[xe_ad b base a]? = some (cell.setSlot f.slot (xe_v b base v)) → H'.size = H.size → (∀ q : Nat, q ≠ xe_ad b base a → H'[q]? = H[q]?) → xe_H D ty b base L xs z (va_up M a (.inr (ci, fs.set k v))) H' := by
    intro H' e1 e2 e3
    rw [hsl] at e1
    refine hH.wr ha hz hM ?_ e2 e3
    refine ⟨_, hc, t_OB.to (V := updV (vp_V (fs.map (xe_v b base))) k (xe_v b base v)) ⟨_, e1, q2, q3, t_set q4 hap hk _⟩ (fun j _ => ?_)⟩
    rw [List.map_set]
    exact vp_updV_set (by rw [List.length_map]; exact hl) _ j
  by_cases hf : (r'.2.1 k).2.2.2 = true
  · rcases hfin _ hc with h | ⟨hi2, hro⟩
    · rw [hf] at h; cases h
    · rw [if_pos hf] at hlay
      have hcf : m.cls = cf := by
        obtain ⟨_, _, c', _, _, _, -, -, hf', -, -, -, hown2, -⟩ := Cond.laysFinal_spec hlay
        have e1 : c' = cf := by have := hi.symm.trans hf'; simp at this; exact this.1.symm
        rw [hdecl, hro] at hown2
        rw [← e1]; exact Option.some.inj (hown.symm.trans hown2)
      have h6 := u_fits hfc hkC hkind (Or.inr hlay) hi (hty k hk) hn (xe_fitv hfit)
      rcases hlink with hlink | ⟨host, hlink⟩
      · exact W.putFinK hx hb hown (hts _ hlink) hi' hst hcf hi2 (by rw [q2]; exact h6) q1 q3 (by rw [hsl]; exact k2_hasslot (q4 k hk)) rfl rfl hdg fun H' e1 e2 e3 => kk H' _ (hS.put e2 e3 (xe_Aad ha)) (fin H' e1 e2 e3)
      · have ha' : xe_ad b base a < H.size := (Array.getElem?_eq_some_iff.mp q1).1
        refine va_Wputf hx hb hown (va_Nw.use rfl (hE.2.1 _ hlink)) hi' hst (Or.inr ⟨hcf, hi2⟩) q1 (by rw [q3]; exact fun h => by cases h) (by rw [hsl]; exact k2_hasslot (q4 k hk)) h6.1 (by rw [q2, q3]; exact h6.2) rfl rfl hdg ?_
        refine kk _ _ (hS.put ?_ ?_ (xe_Aad ha)) (fin _ ?_ ?_ ?_)
        all_goals first | (simp; done) | (simp [Array.getElem?_setIfInBounds, ha']; done) | (intro q hq; simp [Array.getElem?_setIfInBounds, Ne.symm hq])
  · rw [if_neg hf] at hlay
    have h6 := u_store hfc hkC hkind hlay hi (hty k hk) hn (xe_fitv hfit)
    rcases hlink with hlink | ⟨host, hlink⟩
    · exact W.putK hx hb (f := f) ⟨hown, hts _ hlink, ⟨_, _, _, hi'⟩, hst⟩ (by rw [q2]; exact h6) q1 q3 (by rw [hsl]; exact k2_hasslot (q4 k hk)) rfl rfl hdg fun H' e1 e2 e3 => kk H' _ (hS.put e2 e3 (xe_Aad ha)) (fin H' e1 e2 e3)
    · exact va_WputK hx hb (f := f) hown (va_Nw.use rfl (hE.2.1 _ hlink)) hi' hst (by rw [q2]; exact h6) q1 q3 (by rw [hsl]; exact k2_hasslot (q4 k hk)) rfl rfl hdg fun H' e1 e2 e3 => kk H' _ (hS.put e2 e3 (xe_Aad ha)) (fin H' e1 e2 e3)
end XEB
