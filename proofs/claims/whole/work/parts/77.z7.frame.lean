/-! THE LAW: deeper calls; the script stays as it is. -/
set_option maxHeartbeats 4000000 in
theorem ins_C {T : List xe_I} {C C' : xe_C} {Q : xe_Q} {K : xe_K} {i : Nat} {dl st : List Value} {kc ks z : Nat} {M : xe_M} {ins : Instr} (hC : ∀ g a z M P, C g a z M P → C' g a z M P) (h : xe_ins T C Q K i dl st kc ks z M ins) : xe_ins T C' Q K i dl st kc ks z M ins := by
  unfold xe_ins at h ⊢
  split at h
  all_goals first
    | exact h
    | (obtain ⟨a1, a2, a3, a4, a5, h1, h2, h3, h4, h5, h6, h7, h8, h9, h10, h11, h⟩ := h; exact ⟨a1, a2, a3, a4, a5, h1, h2, h3, h4, h5, h6, h7, h8, h9, h10, h11, hC _ _ _ _ _ h⟩)
    | (obtain ⟨a1, a2, a3, h1, h2, h3, h4, h5, h6, h7, h8, h⟩ := h; exact ⟨a1, a2, a3, h1, h2, h3, h4, h5, h6, h7, h8, hC _ _ _ _ _ h⟩)
theorem xe_dep {T : List xe_I} : ∀ (d g : Nat) (a : List Value) (z : Nat) (M : xe_M) (Q : xe_Q), xe_Call T d g a z M Q → xe_Call T (d + 1) g a z M Q
  | 0, _, _, _, _, _, h => h.elim
  | d + 1, g, a, z, M, Q, h => by
    obtain ⟨inf, h1, h2⟩ := h
    refine ⟨inf, h1, h2 (xe_Ev T (xe_Call T (d + 1)) (xe_code inf) Q) ?_⟩
    intro i dl st kc ks z M hs
    obtain ⟨ins, hc, hi⟩ := hs
    exact xe_Ev_step ⟨ins, hc, ins_C (xe_dep d) hi⟩
theorem xe_deps {T : List xe_I} {d g : Nat} {a : List Value} {z : Nat} {M : xe_M} {Q : xe_Q} (h : xe_Call T d g a z M Q) : ∀ k, xe_Call T (d + k) g a z M Q
  | 0 => h
  | k + 1 => xe_dep (d + k) g a z M Q (xe_deps h k)
set_option maxHeartbeats 8000000 in
theorem ev_fr {T : List xe_I} {d : Nat} (ih : ∀ (g : Nat) (a : List Value) (z : Nat) (M : xe_M) (Q : xe_Q), 0 < z → xe_Call T d g a z M Q → xe_Call T d g a z M (fun v z' M' => Q v z' M' ∧ M' 0 = M 0 ∧ 0 < z')) {code : List Instr} {Q : xe_Q} {i : Nat} {dl st : List Value} {kc ks z : Nat} {M : xe_M} (h : xe_Ev T (xe_Call T d) code Q i dl st kc ks z M) : ∀ c0, M 0 = c0 → 0 < z → xe_Ev T (xe_Call T d) code (fun v z' M' => Q v z' M' ∧ M' 0 = c0 ∧ 0 < z') i dl st kc ks z M := by
  refine h (fun i dl st kc ks z M => ∀ c0, M 0 = c0 → 0 < z → xe_Ev T (xe_Call T d) code (fun v z' M' => Q v z' M' ∧ M' 0 = c0 ∧ 0 < z') i dl st kc ks z M) ?_
  intro i dl st kc ks z M hs c0 hM hz
  obtain ⟨ins, hc, hs⟩ := hs
  refine xe_Ev_step ⟨ins, hc, ?_⟩
  unfold xe_ins at hs ⊢
  split at hs
  all_goals first
    | exact hs _ hM hz
    | exact hs.elim
    | exact ⟨hs.1, hs.2 _ hM hz⟩
    | exact ⟨hs.1, hs.2, hM, hz⟩
    | exact ⟨hs.1, hs.2.1, hs.2.2.1, hs.2.2.2.1, hs.2.2.2.2, hM, hz⟩
    | (obtain ⟨x, h1, h⟩ := hs; exact ⟨x, h1, h, hM, hz⟩)
    | (obtain ⟨x, h1, h2, h⟩ := hs; exact ⟨x, h1, h2, h, hM, hz⟩)
    | (obtain ⟨x, h1, h⟩ := hs; exact ⟨x, h1, h _ hM hz⟩)
    | (obtain ⟨x, h1, h2, h⟩ := hs; exact ⟨x, h1, h2, h _ hM hz⟩)
    | (obtain ⟨x, r, h1, h⟩ := hs; exact ⟨x, r, h1, h _ hM hz⟩)
    | (obtain ⟨x, r, h1, h2, h⟩ := hs; exact ⟨x, r, h1, h2, h _ hM hz⟩)
    | (obtain ⟨x, y, r, h1, h⟩ := hs; exact ⟨x, y, r, h1, h _ hM hz⟩)
    | (obtain ⟨x, y, r, h1, h2, h⟩ := hs; exact ⟨x, y, r, h1, h2, h _ hM hz⟩)
    | (obtain ⟨x, y, r, h1, h2, h3, h⟩ := hs; exact ⟨x, y, r, h1, h2, h3, h _ hM hz⟩)
    | (obtain ⟨x, r, h1, h2, h⟩ := hs; exact ⟨x, r, h1, fun q => h2 q _ hM hz, fun q => h q _ hM hz⟩)
    | (obtain ⟨x, y, r, h1, h2, h⟩ := hs; exact ⟨x, y, r, h1, fun q => h2 q _ hM hz, fun q => h q _ hM hz⟩)
    | (rcases hs with ⟨a, r, h1, h⟩ | ⟨r, h1, h⟩
       · exact Or.inl ⟨a, r, h1, h _ hM hz⟩
       · exact Or.inr ⟨r, h1, h _ hM hz⟩)
    | (obtain ⟨x, r, h1, h2, h⟩ := hs; exact ⟨x, r, h1, fun q => h2 q _ hM hz, fun q q' => (h q q').elim fun t ht => ⟨t, ht.1, ht.2 _ hM hz⟩⟩)
    | (obtain ⟨a1, a2, a3, a4, h1, h2, h3, h4, h5, h⟩ := hs; exact ⟨a1, a2, a3, a4, h1, h2, h3, h4, h5, h _ hM hz⟩)
    | (obtain ⟨a1, a2, a3, a4, h1, h2, h3, h4, h5, h6, h⟩ := hs; exact ⟨a1, a2, a3, a4, h1, h2, h3, h4, h5, h6, h _ ((va_up_ne _ _ (Nat.ne_of_lt h2)).trans hM) hz⟩)
    | (obtain ⟨a1, a2, a3, a4, h1, h2, h3, h4, h5, h6, h⟩ := hs; exact ⟨a1, a2, a3, a4, h1, h2, h3, h4, h5, h6, h _ hM hz⟩)
    | (obtain ⟨a1, a2, a3, a4, a5, h1, h2, h3, h4, h⟩ := hs; exact ⟨a1, a2, a3, a4, a5, h1, h2, h3, h4, h _ hM hz⟩)
    | (obtain ⟨a1, a2, a3, a4, a5, h1, h2, h3, h4, h5, h⟩ := hs; exact ⟨a1, a2, a3, a4, a5, h1, h2, h3, h4, h5, h _ hM hz⟩)
    | (obtain ⟨a1, a2, a3, a4, a5, a6, h1, h2, h3, h4, h5, h⟩ := hs; exact ⟨a1, a2, a3, a4, a5, a6, h1, h2, h3, h4, h5, h _ ((va_up_ne _ _ (Nat.ne_of_lt h2)).trans hM) hz⟩)
    | (obtain ⟨a1, a2, a3, a4, a5, a6, h1, h2, h3, h4, h5, h⟩ := hs; exact ⟨a1, a2, a3, a4, a5, a6, h1, h2, h3, h4, h5, h _ hM hz⟩)
    | (obtain ⟨a1, a2, a3, a4, a5, a6, h1, h2, h3, h4, h5, h6, h⟩ := hs; exact ⟨a1, a2, a3, a4, a5, a6, h1, h2, h3, h4, h5, h6, h _ hM hz⟩)
    | (obtain ⟨a1, a2, a3, a4, a5, a6, a7, h1, h2, h3, h4, h5, h6, h⟩ := hs; exact ⟨a1, a2, a3, a4, a5, a6, a7, h1, h2, h3, h4, h5, h6, h _ ((va_up_ne _ _ (Nat.ne_of_lt h2)).trans hM) hz⟩)
    | (obtain ⟨a1, a2, a3, a4, a5, a6, a7, h1, h2, h3, h4, h5, h6, h⟩ := hs; exact ⟨a1, a2, a3, a4, a5, a6, a7, h1, h2, h3, h4, h5, h6, h _ hM hz⟩)
    | (obtain ⟨a1, a2, a3, a4, a5, a6, a7, h1, h2, h3, h4, h5, h6, h7, h8, h⟩ := hs; exact ⟨a1, a2, a3, a4, a5, a6, a7, h1, h2, h3, h4, h5, h6, h7, h8, h _ ((va_up_ne _ _ (Nat.ne_of_lt h2)).trans hM) hz⟩)
    | (obtain ⟨a1, a2, a3, a4, a5, a6, a7, a8, a9, a10, h1, h2, h3, h4, h5, h6, h7, h8, h9, h10, h11, h12, h13, h14, h⟩ := hs; exact ⟨a1, a2, a3, a4, a5, a6, a7, a8, a9, a10, h1, h2, h3, h4, h5, h6, h7, h8, h9, h10, h11, h12, h13, h14, h _ ((va_up_ne _ _ (Nat.ne_of_lt h4)).trans hM) hz⟩)
    | (obtain ⟨a1, a2, a3, a4, a5, h1, h2, h3, h4, h5, h6, h7, h8, h9, h10, h11, h⟩ := hs
       refine ⟨a1, a2, a3, a4, a5, h1, h2, h3, h4, h5, h6, h7, h8, h9, h10, h11, xe_Call_Q d _ _ _ _ _ _ (fun v z' M' q => ?_) (ih _ _ _ _ _ hz h)⟩
       first | exact q.1 _ (q.2.1.trans hM) q.2.2 | exact ⟨fun w => q.1.1 w _ (q.2.1.trans hM) q.2.2, fun w => q.1.2 w _ (q.2.1.trans hM) q.2.2⟩)
    | (obtain ⟨a1, a2, a3, h1, h2, h3, h4, h5, h6, h7, h8, h⟩ := hs
       exact ⟨a1, a2, a3, h1, h2, h3, h4, h5, h6, h7, h8, xe_Call_Q d _ _ _ _ _ _ (fun v z' M' q => q.1 _ (q.2.1.trans hM) q.2.2) (ih _ _ _ _ _ hz h)⟩)
    | (obtain ⟨a1, h1, h2, h3, h4, h⟩ := hs; exact ⟨a1, h1, h2, h3, h4, h _ ((va_up_ne _ _ (Nat.ne_of_lt hz)).trans hM) (Nat.succ_pos _)⟩)
    | (obtain ⟨a1, a2, h1, h2, h3, h4, h5, h6, h⟩ := hs; exact ⟨a1, a2, h1, h2, h3, h4, h5, h6, h _ ((va_up_ne _ _ (Nat.ne_of_lt hz)).trans hM) (Nat.succ_pos _)⟩)
theorem xe_fr {T : List xe_I} : ∀ (d g : Nat) (a : List Value) (z : Nat) (M : xe_M) (Q : xe_Q), 0 < z → xe_Call T d g a z M Q → xe_Call T d g a z M (fun v z' M' => Q v z' M' ∧ M' 0 = M 0 ∧ 0 < z')
  | 0, _, _, _, _, _, _, h => h.elim
  | d + 1, g, a, z, M, Q, hz, h => by
    obtain ⟨inf, h1, h2⟩ := h
    exact ⟨inf, h1, ev_fr (xe_fr d) h2 _ rfl hz⟩
section LFR
variable {L : Nat} {d : xh_D} {e : xd_E}
/-- the script stays as it is -/
theorem yC_0 {D g : Nat} {a : List Value} {P : Int → xh_D → xd_E → Prop} (h : yC D g L a d e P) : yC D g L a d e (fun x d' e' => P x d' e' ∧ ∀ i : Nat, xJ (d' 0 i) = xJ (d 0 i)) := by
  refine xe_Call_Q D g a 178 _ _ _ ?_ (xe_fr D g a 178 _ _ (by decide) h)
  rintro v z' M' ⟨⟨x, d', e', rfl, rfl, rfl, z, d1, rfl, rfl, hP⟩, h0, _⟩
  refine ⟨_, _, _, rfl, rfl, rfl, z, d1, rfl, rfl, hP, fun i => ?_⟩
  have h1 : (Sum.inl (1, L, Sum.inl (xh_m d1 0)) : va_E) = .inl (1, L, .inl (xh_m d 0)) := h0
  have h2 : xh_m d1 0 = xh_m d 0 := by
    have := congrArg (fun q : va_E => match q with | .inl (_, _, .inl f) => f | _ => fun _ => 0) h1
    exact this
  exact congrFun h2 i
theorem yC_d {D k g : Nat} {a : List Value} {P : Int → xh_D → xd_E → Prop} (h : yC D g L a d e P) : yC (D + k) g L a d e P := xe_deps h k
end LFR
