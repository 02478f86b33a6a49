/-! RULES of the logic over the memory of ints and longs. -/
def xp_rem (x y : Int32) : Int32 := x - x / y * y
def xp_shl (x y : Int32) : Int32 := x <<< (y &&& 31)
def xp_shr (x y : Int32) : Int32 := x >>> (y &&& 31)
def xp_ushr (x y : Int32) : Int32 := (x.toUInt32 >>> (y.toUInt32 &&& Int32.toUInt32 31)).toInt32
theorem xp_w0 {α : Type} {x : Nat → α} {p : Nat} {f0 f : α} : va_up (va_up x p f0) p f = va_up x p f := by
  funext j
  by_cases h : j = p <;> simp [va_up, h]
theorem xp_wc {α : Type} {x : Nat → α} {p q : Nat} {g f : α} (h : p ≠ q) : va_up (va_up x q g) p f = va_up (va_up x p f) q g := by
  funext j
  by_cases h1 : j = p
  · subst h1; simp [va_up, h]
  · by_cases h2 : j = q
    · subst h2; simp [va_up, h1]
    · simp [va_up, h1, h2]
theorem xp_w1 {α : Type} {x : Nat → α} {p q : Nat} {f0 g f : α} (h : p ≠ q) : va_up (va_up (va_up x p f0) q g) p f = va_up (va_up x p f) q g := by rw [xp_wc h, xp_w0]
theorem xp_w2 {α : Type} {x : Nat → α} {p q r : Nat} {f0 g k f : α} (h : p ≠ q) (h2 : p ≠ r) : va_up (va_up (va_up (va_up x p f0) q g) r k) p f = va_up (va_up (va_up x p f) q g) r k := by rw [xp_wc h2, xp_w1 h]
theorem xp_w3 {α : Type} {x : Nat → α} {p q r t : Nat} {f0 g k u f : α} (h : p ≠ q) (h2 : p ≠ r) (h3 : p ≠ t) : va_up (va_up (va_up (va_up (va_up x p f0) q g) r k) t u) p f = va_up (va_up (va_up (va_up x p f) q g) r k) t u := by rw [xp_wc h3, xp_w2 h h2]
theorem xp_fitz {x : Int32} (h : x = 0 ∨ x = 1) : fits .boolean (.int x) = true := by rcases h with rfl | rfl <;> decide
theorem xp_b8 (x : Int32) : x.toInt8.toInt32.toInt8.toInt32 = x.toInt8.toInt32 := by rw [Int8.toInt8_toInt32]
theorem xd_Sp {s : Nat} (h : xd_isS s = true) : 0 < s ∧ s < 178 := by have := (xd_S h 0 (fun _ => 0) (fun _ => 0)).2.2.2.2.2.2; omega
theorem xd_Sa1 {s : Nat} (h : xd_isS s = true) : xd_A (s + 1) 9 := (xd_AS h).1
theorem xd_Sa2 {s : Nat} (h : xd_isS s = true) : xd_A (s + 2) 9 := (xd_AS h).2.1
theorem xd_Sa3 {s : Nat} (h : xd_isS s = true) : xd_A (s + 3) 9 := (xd_AS h).2.2.1
theorem xd_Sa4 {s : Nat} (h : xd_isS s = true) : xd_A (s + 4) 54 := (xd_AS h).2.2.2
theorem xd_Sa5 {s : Nat} (h : xd_isS s = true) : 0 < s + 5 ∧ s + 5 < 178 ∧ ∀ (L : Nat) (f : Nat → Int32) (g : Nat → Int64), xd_cell L (s + 5) f g = .inl (2, 30, .inr (.inl g)) := ⟨by omega, (xd_S h 0 (fun _ => 0) (fun _ => 0)).2.2.2.2.2.2.2, fun L f g => (xd_S h L f g).2.2.2.2.2.1⟩
theorem xp_inlt {j : Int32} {n : Nat} (h : vp_in j n) : j.toNatClampNeg < n := Nat.not_le.mp fun q => h (Or.inr q)
theorem xp_st27 {j : Int32} (h : vp_in j 12) : xd_isS (27 + 6 * j.toNatClampNeg) = true := by
  have h1 := xp_inlt h
  generalize j.toNatClampNeg = n at h1 ⊢
  revert n
  decide
theorem xp_st99 {j : Int32} (h : vp_in j 2) : xd_isS (99 + 6 * j.toNatClampNeg) = true := by
  have h1 := xp_inlt h
  generalize j.toNatClampNeg = n at h1 ⊢
  revert n
  decide
theorem xp_sv {b n : Nat} {j : Int32} (h : vp_in j n) : va_rf ((fun i => if i < n then some (b + 6 * i) else none) j.toNatClampNeg) = .ref (b + 6 * j.toNatClampNeg) := by
  have h1 := xp_inlt h
  show va_rf (if j.toNatClampNeg < n then _ else _) = _
  rw [if_pos h1]
  rfl
/-- less is known of the locals -/
def xe_le : List Value → List Value → Prop
  | [], [] => True
  | a :: l, b :: l' => (a = b ∨ (a = .double 0 ∧ xe_lg b = false)) ∧ xe_le l l'
  | _, _ => False
theorem xe_le_len : ∀ {l l' : List Value}, xe_le l l' → l.length = l'.length
  | [], [], _ => rfl
  | _ :: _, _ :: _, h => by rw [List.length_cons, List.length_cons, xe_le_len h.2]
  | [], _ :: _, h => h.elim
  | _ :: _, [], h => h.elim
theorem xe_le_get : ∀ {l l' : List Value} {k : Nat} {v : Value}, xe_le l l' → l[k]? = some v → v ≠ .double 0 → l'[k]? = some v
  | [], [], _, _, _, h, _ => by simp at h
  | a :: l, b :: l', 0, v, hl, h, hv => by
    simp only [List.getElem?_cons_zero, Option.some.injEq] at h ⊢
    subst h
    rcases hl.1 with h1 | ⟨h1, -⟩
    · exact h1.symm
    · exact absurd h1 hv
  | a :: l, b :: l', k + 1, v, hl, h, hv => by
    rw [List.getElem?_cons_succ] at h ⊢
    exact xe_le_get hl.2 h hv
  | [], _ :: _, _, _, hl, _, _ => hl.elim
  | _ :: _, [], _, _, hl, _, _ => hl.elim
theorem xe_le_set : ∀ {l l' : List Value} {k : Nat} {v : Value}, xe_le l l' → xe_le (l.set k v) (l'.set k v)
  | [], [], _, _, _ => trivial
  | a :: l, b :: l', 0, v, hl => ⟨Or.inl rfl, hl.2⟩
  | a :: l, b :: l', k + 1, v, hl => ⟨hl.1, xe_le_set hl.2⟩
  | [], _ :: _, _, _, hl => hl.elim
  | _ :: _, [], _, _, hl => hl.elim
theorem xe_le_lg : ∀ {l l' : List Value} (k : Nat), xe_le l l' → xe_lg (l.getD k .null) = false → xe_lg (l'.getD k .null) = false
  | [], [], _, _, h => h
  | a :: l, b :: l', 0, hl, h => by
    simp only [List.getD_cons_zero] at h ⊢
    rcases hl.1 with h1 | ⟨-, h1⟩
    · rw [← h1]; exact h
    · exact h1
  | a :: l, b :: l', k + 1, hl, h => by
    simp only [List.getD_cons_succ] at h ⊢
    exact xe_le_lg k hl.2 h
  | [], _ :: _, _, hl, _ => hl.elim
  | _ :: _, [], _, hl, _ => hl.elim
theorem xe_le_s1 {l l' : List Value} {k : Nat} (hl : xe_le l l') (h : xe_s1 l k = true) : xe_s1 l' k = true := by
  simp only [xe_s1, Bool.and_eq_true, Bool.or_eq_true, decide_eq_true_eq, Bool.not_eq_true'] at h ⊢
  refine ⟨by rw [← xe_le_len hl]; exact h.1, ?_⟩
  rcases h.2 with h | h
  · exact Or.inl h
  · exact Or.inr (xe_le_lg _ hl h)
theorem xe_le_s2 {l l' : List Value} {k : Nat} (hl : xe_le l l') (h : xe_s2 l k = true) : xe_s2 l' k = true := by
  simp only [xe_s2, Bool.and_eq_true, Bool.or_eq_true, decide_eq_true_eq, Bool.not_eq_true'] at h ⊢
  refine ⟨by rw [← xe_le_len hl]; exact h.1, ?_⟩
  rcases h.2 with h | h
  · exact Or.inl h
  · exact Or.inr (xe_le_lg _ hl h)
theorem xe_le_rep : ∀ (n : Nat), xe_le (List.replicate n (.double 0)) (List.replicate n (.double 0))
  | 0 => trivial
  | n + 1 => ⟨Or.inl rfl, xe_le_rep n⟩
set_option maxHeartbeats 4000000 in
theorem xe_forget {T : List xe_I} {d : Nat} {code : List Instr} {Q : xe_Q} {i : Nat} {dl st : List Value} {kc ks z : Nat} {M : xe_M} (h : xe_Ev T (xe_Call T d) code Q i dl st kc ks z M) : ∀ dl', xe_le dl dl' → xe_Ev T (xe_Call T d) code Q i dl' st kc ks z M := by
  refine h (fun i dl st kc ks z M => ∀ dl', xe_le dl dl' → xe_Ev T (xe_Call T d) code Q i dl' st kc ks z M) ?_
  intro i dl st kc ks z M hs dl' hle
  obtain ⟨ins, hc, hs⟩ := hs
  refine xe_Ev_step ⟨ins, hc, ?_⟩
  unfold xe_ins at hs ⊢
  split at hs
  all_goals first
    | exact hs _ hle
    | exact hs.elim
    | exact hs
    | exact ⟨hs.1, hs.2 _ hle⟩
    | (obtain ⟨x, h1, h⟩ := hs; exact ⟨x, xe_le_get hle h1 (fun q => by cases q), h _ hle⟩)
    | (obtain ⟨x, h1, h2, h⟩ := hs; exact ⟨x, xe_le_get hle h1 (fun q => by cases q), xe_le_s1 hle h2, h _ (xe_le_set hle)⟩)
    | (obtain ⟨x, r, h1, h2, h⟩ := hs; exact ⟨x, r, h1, xe_le_s1 hle h2, h _ (xe_le_set hle)⟩)
    | (obtain ⟨x, r, h1, h2, h⟩ := hs; exact ⟨x, r, h1, xe_le_s2 hle h2, h _ (xe_le_set (xe_le_set hle))⟩)
    | (obtain ⟨x, r, h1, h⟩ := hs; exact ⟨x, r, h1, h _ hle⟩)
    | (obtain ⟨x, r, h1, h2, h⟩ := hs; exact ⟨x, r, h1, h2, h _ hle⟩)
    | (obtain ⟨x, y, r, h1, h⟩ := hs; exact ⟨x, y, r, h1, h _ hle⟩)
    | (obtain ⟨x, y, r, h1, h2, h⟩ := hs; exact ⟨x, y, r, h1, h2, h _ hle⟩)
    | (obtain ⟨x, y, r, h1, h2, h3, h⟩ := hs; exact ⟨x, y, r, h1, h2, h3, h _ hle⟩)
    | (obtain ⟨x, r, h1, h2, h⟩ := hs; exact ⟨x, r, h1, fun q => h2 q _ hle, fun q => h q _ hle⟩)
    | (obtain ⟨x, y, r, h1, h2, h⟩ := hs; exact ⟨x, y, r, h1, fun q => h2 q _ hle, fun q => h q _ hle⟩)
    | (rcases hs with ⟨a, r, h1, h⟩ | ⟨r, h1, h⟩
       · exact Or.inl ⟨a, r, h1, h _ hle⟩
       · exact Or.inr ⟨r, h1, h _ hle⟩)
    | (obtain ⟨x, r, h1, h2, h⟩ := hs; exact ⟨x, r, h1, fun q => h2 q _ hle, fun q q' => (h q q').elim fun t ht => ⟨t, ht.1, ht.2 _ hle⟩⟩)
    | (obtain ⟨a1, a2, a3, a4, h1, h2, h3, h4, h5, h⟩ := hs; exact ⟨a1, a2, a3, a4, h1, h2, h3, h4, h5, h _ hle⟩)
    | (obtain ⟨a1, a2, a3, a4, h1, h2, h3, h4, h5, h6, h⟩ := hs; exact ⟨a1, a2, a3, a4, h1, h2, h3, h4, h5, h6, h _ hle⟩)
    | (obtain ⟨a1, a2, a3, a4, a5, h1, h2, h3, h4, h⟩ := hs; exact ⟨a1, a2, a3, a4, a5, h1, h2, h3, h4, h _ hle⟩)
    | (obtain ⟨a1, a2, a3, a4, a5, h1, h2, h3, h4, h5, h⟩ := hs; exact ⟨a1, a2, a3, a4, a5, h1, h2, h3, h4, h5, h _ hle⟩)
    | (obtain ⟨a1, a2, a3, a4, a5, a6, h1, h2, h3, h4, h5, h⟩ := hs; exact ⟨a1, a2, a3, a4, a5, a6, h1, h2, h3, h4, h5, h _ hle⟩)
    | (obtain ⟨a1, a2, a3, a4, a5, a6, h1, h2, h3, h4, h5, h6, h⟩ := hs; exact ⟨a1, a2, a3, a4, a5, a6, h1, h2, h3, h4, h5, h6, h _ hle⟩)
    | (obtain ⟨a1, a2, a3, a4, a5, a6, a7, h1, h2, h3, h4, h5, h6, h⟩ := hs; exact ⟨a1, a2, a3, a4, a5, a6, a7, h1, h2, h3, h4, h5, h6, h _ hle⟩)
    | (obtain ⟨a1, a2, a3, a4, a5, a6, a7, h1, h2, h3, h4, h5, h6, h7, h8, h⟩ := hs; exact ⟨a1, a2, a3, a4, a5, a6, a7, h1, h2, h3, h4, h5, h6, h7, h8, h _ hle⟩)
    | (obtain ⟨a1, a2, a3, a4, a5, a6, a7, a8, a9, a10, h1, h2, h3, h4, h5, h6, h7, h8, h9, h10, h11, h12, h13, h14, h⟩ := hs; exact ⟨a1, a2, a3, a4, a5, a6, a7, a8, a9, a10, h1, h2, h3, h4, h5, h6, h7, h8, h9, h10, h11, h12, h13, h14, h _ hle⟩)
    | (obtain ⟨a1, a2, a3, a4, a5, h1, h2, h3, h4, h5, h6, h7, h8, h9, h10, h11, h⟩ := hs; exact ⟨a1, a2, a3, a4, a5, h1, h2, h3, h4, h5, h6, h7, h8, h9, h10, h11, xe_Call_Q d _ _ _ _ _ _ (fun v z M q => ⟨fun w => (by rw [← xe_le_len hle]; exact q.1 w _ (xe_le_rep _)), fun w => q.2 w _ hle⟩) h⟩)
    | (obtain ⟨a1, a2, a3, a4, a5, h1, h2, h3, h4, h5, h6, h7, h8, h9, h10, h11, h⟩ := hs; exact ⟨a1, a2, a3, a4, a5, h1, h2, h3, h4, h5, h6, h7, h8, h9, h10, h11, xe_Call_Q d _ _ _ _ _ _ (fun v z M q => q _ hle) h⟩)
    | (obtain ⟨a1, a2, a3, h1, h2, h3, h4, h5, h6, h7, h8, h⟩ := hs; exact ⟨a1, a2, a3, h1, h2, h3, h4, h5, h6, h7, h8, xe_Call_Q d _ _ _ _ _ _ (fun v z M q => q _ hle) h⟩)
    | (obtain ⟨a1, h1, h2, h3, h4, h⟩ := hs; exact ⟨a1, h1, h2, h3, h4, h _ hle⟩)
    | (obtain ⟨a1, a2, h1, h2, h3, h4, h5, h6, h⟩ := hs; exact ⟨a1, a2, h1, h2, h3, h4, h5, h6, h _ hle⟩)
def xB (D : Nat) (code : List Instr) (Q : xe_Q) (L i : Nat) (dl st : List Value) (d : xd_D) (e : xd_E) : Prop := xe_Ev xm_T (xe_Call xm_T D) code Q i dl st 0 0 178 (xd_mem L d e)
def xQi (L : Nat) (P : Int32 → xd_D → xd_E → Prop) : xe_Q := fun v z M => ∃ x d e, v = some (.int x) ∧ z = 178 ∧ M = xd_mem L d e ∧ P x d e
def xQv (L : Nat) (P : xd_D → xd_E → Prop) : xe_Q := fun v z M => ∃ d e, v = none ∧ z = 178 ∧ M = xd_mem L d e ∧ P d e
/-- a call that answers an int; a call that answers nothing -/
def xC (D g L : Nat) (a : List Value) (d : xd_D) (e : xd_E) (P : Int32 → xd_D → xd_E → Prop) : Prop := xe_Call xm_T D g a 178 (xd_mem L d e) (xQi L P)
def xV (D g L : Nat) (a : List Value) (d : xd_D) (e : xd_E) (P : xd_D → xd_E → Prop) : Prop := xe_Call xm_T D g a 178 (xd_mem L d e) (xQv L P)
theorem xC_mono {D g L : Nat} {a : List Value} {d : xd_D} {e : xd_E} {P P' : Int32 → xd_D → xd_E → Prop} (h : xC D g L a d e P) (hP : ∀ x d e, P x d e → P' x d e) : xC D g L a d e P' := xe_Call_Q D g a 178 _ _ _ (fun _ _ _ ⟨x, d, e, h1, h2, h3, h4⟩ => ⟨x, d, e, h1, h2, h3, hP x d e h4⟩) h
theorem xV_mono {D g L : Nat} {a : List Value} {d : xd_D} {e : xd_E} {P P' : xd_D → xd_E → Prop} (h : xV D g L a d e P) (hP : ∀ d e, P d e → P' d e) : xV D g L a d e P' := xe_Call_Q D g a 178 _ _ _ (fun _ _ _ ⟨d, e, h1, h2, h3, h4⟩ => ⟨d, e, h1, h2, h3, hP d e h4⟩) h
theorem xC_of {D g L : Nat} {a : List Value} {d : xd_D} {e : xd_E} {P : Int32 → xd_D → xd_E → Prop} {inf : xe_I} (hT : xm_T[g]? = some inf) (hm : xe_im inf = 0) (hs : xe_is inf = 0) (hD : 1 ≤ D) (h : xB (D - 1) (xe_code inf) (xQi L P) L 0 (xe_entry (xe_iL inf) a) [] d e) : xC D g L a d e P := by
  obtain ⟨D, rfl⟩ : ∃ D', D = D' + 1 := ⟨D - 1, by omega⟩
  rw [Nat.add_sub_cancel] at h
  unfold xB at h
  exact ⟨inf, hT, by rw [hm, hs]; exact h⟩
theorem xV_of {D g L : Nat} {a : List Value} {d : xd_D} {e : xd_E} {P : xd_D → xd_E → Prop} {inf : xe_I} (hT : xm_T[g]? = some inf) (hm : xe_im inf = 0) (hs : xe_is inf = 0) (hD : 1 ≤ D) (h : xB (D - 1) (xe_code inf) (xQv L P) L 0 (xe_entry (xe_iL inf) a) [] d e) : xV D g L a d e P := by
  obtain ⟨D, rfl⟩ : ∃ D', D = D' + 1 := ⟨D - 1, by omega⟩
  rw [Nat.add_sub_cancel] at h
  unfold xB at h
  exact ⟨inf, hT, by rw [hm, hs]; exact h⟩
section XBR
variable {D : Nat} {code : List Instr} {Q : xe_Q} {L i : Nat} {dl st : List Value} {d : xd_D} {e : xd_E}
theorem xb_push {v : Int} {x : Int32} (hc : code[i]? = some (.sipush v)) (hv : Int32.ofInt v = x) (h : xB D code Q L (i + 1) dl (.int x :: st) d e) : xB D code Q L i dl st d e := xe_Ev_step ⟨_, hc, (by subst hv; exact h)⟩
theorem xb_lconst (hc : code[i]? = some (.lconst 0)) (h : xB D code Q L (i + 1) dl (.long 0 :: st) d e) : xB D code Q L i dl st d e := xe_Ev_step ⟨_, hc, ⟨rfl, h⟩⟩
theorem xb_null (hc : code[i]? = some .aconst_null) (h : xB D code Q L (i + 1) dl (.null :: st) d e) : xB D code Q L i dl st d e := xe_Ev_step ⟨_, hc, h⟩
theorem xb_iload {k : Nat} {x : Int32} (hc : code[i]? = some (.iload k)) (hv : dl[k]? = some (.int x)) (h : xB D code Q L (i + 1) dl (.int x :: st) d e) : xB D code Q L i dl st d e := xe_Ev_step ⟨_, hc, ⟨x, hv, h⟩⟩
theorem xb_lload {k : Nat} {x : Int64} (hc : code[i]? = some (.lload k)) (hv : dl[k]? = some (.long x)) (h : xB D code Q L (i + 1) dl (.long x :: st) d e) : xB D code Q L i dl st d e := xe_Ev_step ⟨_, hc, ⟨x, hv, h⟩⟩
theorem xb_aload {k : Nat} {x : Nat} (hc : code[i]? = some (.aload k)) (hv : dl[k]? = some (.ref x)) (h : xB D code Q L (i + 1) dl (.ref x :: st) d e) : xB D code Q L i dl st d e := xe_Ev_step ⟨_, hc, ⟨x, hv, h⟩⟩
theorem xb_istore {k : Nat} {x : Int32} {dl' : List Value} (hc : code[i]? = some (.istore k)) (hs : xe_s1 dl k = true) (hd : dl.set k (.int x) = dl') (h : xB D code Q L (i + 1) dl' st d e) : xB D code Q L i dl (.int x :: st) d e := xe_Ev_step ⟨_, hc, ⟨x, st, rfl, hs, by rw [hd]; exact h⟩⟩
theorem xb_astore {k : Nat} {x : Nat} {dl' : List Value} (hc : code[i]? = some (.astore k)) (hs : xe_s1 dl k = true) (hd : dl.set k (.ref x) = dl') (h : xB D code Q L (i + 1) dl' st d e) : xB D code Q L i dl (.ref x :: st) d e := xe_Ev_step ⟨_, hc, ⟨x, st, rfl, hs, by rw [hd]; exact h⟩⟩
theorem xb_lstore {k : Nat} {x : Int64} {dl' : List Value} (hc : code[i]? = some (.lstore k)) (hs : xe_s2 dl k = true) (hd : (dl.set k (.long x)).set (k + 1) (.double 0) = dl') (h : xB D code Q L (i + 1) dl' st d e) : xB D code Q L i dl (.long x :: st) d e := xe_Ev_step ⟨_, hc, ⟨x, st, rfl, hs, by rw [hd]; exact h⟩⟩
theorem xb_iinc {k : Nat} {n : Int} {x y : Int32} {dl' : List Value} (hc : code[i]? = some (.iinc k n)) (hv : dl[k]? = some (.int x)) (hs : xe_s1 dl k = true) (hn : Int32.ofInt n = y) (hd : dl.set k (.int (x + y)) = dl') (h : xB D code Q L (i + 1) dl' st d e) : xB D code Q L i dl st d e := xe_Ev_step ⟨_, hc, ⟨x, hv, hs, by rw [hn, hd]; exact h⟩⟩
theorem xb_iadd {x y : Int32} (hc : code[i]? = some .iadd) (h : xB D code Q L (i + 1) dl (.int (x + y) :: st) d e) : xB D code Q L i dl (.int y :: .int x :: st) d e := xe_Ev_step ⟨_, hc, ⟨x, y, st, rfl, h⟩⟩
theorem xb_isub {x y : Int32} (hc : code[i]? = some .isub) (h : xB D code Q L (i + 1) dl (.int (x - y) :: st) d e) : xB D code Q L i dl (.int y :: .int x :: st) d e := xe_Ev_step ⟨_, hc, ⟨x, y, st, rfl, h⟩⟩
theorem xb_imul {x y : Int32} (hc : code[i]? = some .imul) (h : xB D code Q L (i + 1) dl (.int (x * y) :: st) d e) : xB D code Q L i dl (.int y :: .int x :: st) d e := xe_Ev_step ⟨_, hc, ⟨x, y, st, rfl, h⟩⟩
theorem xb_iand {x y : Int32} (hc : code[i]? = some .iand) (h : xB D code Q L (i + 1) dl (.int (x &&& y) :: st) d e) : xB D code Q L i dl (.int y :: .int x :: st) d e := xe_Ev_step ⟨_, hc, ⟨x, y, st, rfl, h⟩⟩
theorem xb_ior {x y : Int32} (hc : code[i]? = some .ior) (h : xB D code Q L (i + 1) dl (.int (x ||| y) :: st) d e) : xB D code Q L i dl (.int y :: .int x :: st) d e := xe_Ev_step ⟨_, hc, ⟨x, y, st, rfl, h⟩⟩
theorem xb_ixor {x y : Int32} (hc : code[i]? = some .ixor) (h : xB D code Q L (i + 1) dl (.int (x ^^^ y) :: st) d e) : xB D code Q L i dl (.int y :: .int x :: st) d e := xe_Ev_step ⟨_, hc, ⟨x, y, st, rfl, h⟩⟩
theorem xb_ishl {x y : Int32} (hc : code[i]? = some .ishl) (h : xB D code Q L (i + 1) dl (.int (xp_shl x y) :: st) d e) : xB D code Q L i dl (.int y :: .int x :: st) d e := xe_Ev_step ⟨_, hc, ⟨x, y, st, rfl, h⟩⟩
theorem xb_ishr {x y : Int32} (hc : code[i]? = some .ishr) (h : xB D code Q L (i + 1) dl (.int (xp_shr x y) :: st) d e) : xB D code Q L i dl (.int y :: .int x :: st) d e := xe_Ev_step ⟨_, hc, ⟨x, y, st, rfl, h⟩⟩
theorem xb_iushr {x y : Int32} (hc : code[i]? = some .iushr) (h : xB D code Q L (i + 1) dl (.int (xp_ushr x y) :: st) d e) : xB D code Q L i dl (.int y :: .int x :: st) d e := xe_Ev_step ⟨_, hc, ⟨x, y, st, rfl, h⟩⟩
theorem xb_idiv {x y : Int32} (hc : code[i]? = some .idiv) (hy : ¬ y = 0) (h : xB D code Q L (i + 1) dl (.int (x / y) :: st) d e) : xB D code Q L i dl (.int y :: .int x :: st) d e := xe_Ev_step ⟨_, hc, ⟨x, y, st, rfl, hy, h⟩⟩
theorem xb_irem {x y : Int32} (hc : code[i]? = some .irem) (hy : ¬ y = 0) (h : xB D code Q L (i + 1) dl (.int (xp_rem x y) :: st) d e) : xB D code Q L i dl (.int y :: .int x :: st) d e := xe_Ev_step ⟨_, hc, ⟨x, y, st, rfl, hy, h⟩⟩
theorem xb_ineg {x : Int32} (hc : code[i]? = some .ineg) (h : xB D code Q L (i + 1) dl (.int (-x) :: st) d e) : xB D code Q L i dl (.int x :: st) d e := xe_Ev_step ⟨_, hc, ⟨x, st, rfl, h⟩⟩
theorem xb_i2b {x : Int32} (hc : code[i]? = some .i2b) (h : xB D code Q L (i + 1) dl (.int (x.toInt8.toInt32) :: st) d e) : xB D code Q L i dl (.int x :: st) d e := xe_Ev_step ⟨_, hc, ⟨x, st, rfl, h⟩⟩
theorem xb_i2s {x : Int32} (hc : code[i]? = some .i2s) (h : xB D code Q L (i + 1) dl (.int (x.toInt16.toInt32) :: st) d e) : xB D code Q L i dl (.int x :: st) d e := xe_Ev_step ⟨_, hc, ⟨x, st, rfl, h⟩⟩
theorem xb_i2l {x : Int32} (hc : code[i]? = some .i2l) (h : xB D code Q L (i + 1) dl (.long x.toInt64 :: st) d e) : xB D code Q L i dl (.int x :: st) d e := xe_Ev_step ⟨_, hc, ⟨x, st, rfl, h⟩⟩
theorem xb_l2i {x : Int64} (hc : code[i]? = some .l2i) (h : xB D code Q L (i + 1) dl (.int x.toInt32 :: st) d e) : xB D code Q L i dl (.long x :: st) d e := xe_Ev_step ⟨_, hc, ⟨x, st, rfl, h⟩⟩
theorem xb_lor {x y : Int64} (hc : code[i]? = some .lor) (h : xB D code Q L (i + 1) dl (.long (x ||| y) :: st) d e) : xB D code Q L i dl (.long y :: .long x :: st) d e := xe_Ev_step ⟨_, hc, ⟨x, y, st, rfl, h⟩⟩
theorem xb_lxor {x y : Int64} (hc : code[i]? = some .lxor) (h : xB D code Q L (i + 1) dl (.long (x ^^^ y) :: st) d e) : xB D code Q L i dl (.long y :: .long x :: st) d e := xe_Ev_step ⟨_, hc, ⟨x, y, st, rfl, h⟩⟩
theorem xb_lcmp {x y : Int64} (hc : code[i]? = some .lcmp) (h : xB D code Q L (i + 1) dl (.int (lg_cmp x y) :: st) d e) : xB D code Q L i dl (.long y :: .long x :: st) d e := xe_Ev_step ⟨_, hc, ⟨x, y, st, rfl, h⟩⟩
theorem xb_lshl {x : Int64} {y : Int32} (hc : code[i]? = some .lshl) (h : xB D code Q L (i + 1) dl (.long (x <<< (y.toInt64 &&& 63)) :: st) d e) : xB D code Q L i dl (.int y :: .long x :: st) d e := xe_Ev_step ⟨_, hc, ⟨x, y, st, rfl, h⟩⟩
theorem xb_lushr {x : Int64} {y : Int32} (hc : code[i]? = some .lushr) (h : xB D code Q L (i + 1) dl (.long (x.toUInt64 >>> (y.toInt64.toUInt64 &&& Int64.toUInt64 63)).toInt64 :: st) d e) : xB D code Q L i dl (.int y :: .long x :: st) d e := xe_Ev_step ⟨_, hc, ⟨x, y, st, rfl, h⟩⟩
theorem xb_dup {v : Value} (hc : code[i]? = some .dup) (hv : v.category = 1) (h : xB D code Q L (i + 1) dl (v :: v :: st) d e) : xB D code Q L i dl (v :: st) d e := xe_Ev_step ⟨_, hc, ⟨v, st, rfl, hv, h⟩⟩
theorem xb_pop {v : Value} (hc : code[i]? = some .pop) (hv : v.category = 1) (h : xB D code Q L (i + 1) dl st d e) : xB D code Q L i dl (v :: st) d e := xe_Ev_step ⟨_, hc, ⟨v, st, rfl, hv, h⟩⟩
theorem xb_dup_x1 {v w : Value} (hc : code[i]? = some .dup_x1) (hv : v.category = 1) (hw : w.category = 1) (h : xB D code Q L (i + 1) dl (v :: w :: v :: st) d e) : xB D code Q L i dl (v :: w :: st) d e := xe_Ev_step ⟨_, hc, ⟨v, w, st, rfl, hv, hw, h⟩⟩
theorem xb_dup2 {v w : Value} (hc : code[i]? = some .dup2) (hv : v.category = 1) (hw : w.category = 1) (h : xB D code Q L (i + 1) dl (v :: w :: v :: w :: st) d e) : xB D code Q L i dl (v :: w :: st) d e := xe_Ev_step ⟨_, hc, ⟨v, w, st, rfl, hv, hw, h⟩⟩
theorem xb_goto {t : Int} {j : Nat} (hc : code[i]? = some (.goto t)) (ht : t.toNat = j) (h : xB D code Q L j dl st d e) : xB D code Q L i dl st d e := xe_Ev_step ⟨_, hc, (by subst ht; exact h)⟩
theorem xb_icmp_eq {x y : Int32} {t : Int} {j : Nat} (hc : code[i]? = some (.if_icmp .eq t)) (ht : t.toNat = j) (h1 : x = y → xB D code Q L j dl st d e) (h2 : ¬ x = y → xB D code Q L (i + 1) dl st d e) : xB D code Q L i dl (.int y :: .int x :: st) d e := xe_Ev_step ⟨_, hc, ⟨x, y, st, rfl, by subst ht; exact h1, h2⟩⟩
theorem xb_if_eq {x : Int32} {t : Int} {j : Nat} (hc : code[i]? = some (.ifCond .eq t)) (ht : t.toNat = j) (h1 : x = 0 → xB D code Q L j dl st d e) (h2 : ¬ x = 0 → xB D code Q L (i + 1) dl st d e) : xB D code Q L i dl (.int x :: st) d e := xe_Ev_step ⟨_, hc, ⟨x, st, rfl, by subst ht; exact h1, h2⟩⟩
theorem xb_icmp_ne {x y : Int32} {t : Int} {j : Nat} (hc : code[i]? = some (.if_icmp .ne t)) (ht : t.toNat = j) (h1 : ¬ x = y → xB D code Q L j dl st d e) (h2 : x = y → xB D code Q L (i + 1) dl st d e) : xB D code Q L i dl (.int y :: .int x :: st) d e := xe_Ev_step ⟨_, hc, ⟨x, y, st, rfl, by subst ht; exact h1, (fun q => h2 (Classical.not_not.mp q))⟩⟩
theorem xb_if_ne {x : Int32} {t : Int} {j : Nat} (hc : code[i]? = some (.ifCond .ne t)) (ht : t.toNat = j) (h1 : ¬ x = 0 → xB D code Q L j dl st d e) (h2 : x = 0 → xB D code Q L (i + 1) dl st d e) : xB D code Q L i dl (.int x :: st) d e := xe_Ev_step ⟨_, hc, ⟨x, st, rfl, by subst ht; exact h1, (fun q => h2 (Classical.not_not.mp q))⟩⟩
theorem xb_icmp_lt {x y : Int32} {t : Int} {j : Nat} (hc : code[i]? = some (.if_icmp .lt t)) (ht : t.toNat = j) (h1 : x < y → xB D code Q L j dl st d e) (h2 : ¬ x < y → xB D code Q L (i + 1) dl st d e) : xB D code Q L i dl (.int y :: .int x :: st) d e := xe_Ev_step ⟨_, hc, ⟨x, y, st, rfl, by subst ht; exact h1, h2⟩⟩
theorem xb_if_lt {x : Int32} {t : Int} {j : Nat} (hc : code[i]? = some (.ifCond .lt t)) (ht : t.toNat = j) (h1 : x < 0 → xB D code Q L j dl st d e) (h2 : ¬ x < 0 → xB D code Q L (i + 1) dl st d e) : xB D code Q L i dl (.int x :: st) d e := xe_Ev_step ⟨_, hc, ⟨x, st, rfl, by subst ht; exact h1, h2⟩⟩
theorem xb_icmp_ge {x y : Int32} {t : Int} {j : Nat} (hc : code[i]? = some (.if_icmp .ge t)) (ht : t.toNat = j) (h1 : y ≤ x → xB D code Q L j dl st d e) (h2 : ¬ y ≤ x → xB D code Q L (i + 1) dl st d e) : xB D code Q L i dl (.int y :: .int x :: st) d e := xe_Ev_step ⟨_, hc, ⟨x, y, st, rfl, by subst ht; exact h1, h2⟩⟩
theorem xb_if_ge {x : Int32} {t : Int} {j : Nat} (hc : code[i]? = some (.ifCond .ge t)) (ht : t.toNat = j) (h1 : 0 ≤ x → xB D code Q L j dl st d e) (h2 : ¬ 0 ≤ x → xB D code Q L (i + 1) dl st d e) : xB D code Q L i dl (.int x :: st) d e := xe_Ev_step ⟨_, hc, ⟨x, st, rfl, by subst ht; exact h1, h2⟩⟩
theorem xb_icmp_gt {x y : Int32} {t : Int} {j : Nat} (hc : code[i]? = some (.if_icmp .gt t)) (ht : t.toNat = j) (h1 : y < x → xB D code Q L j dl st d e) (h2 : ¬ y < x → xB D code Q L (i + 1) dl st d e) : xB D code Q L i dl (.int y :: .int x :: st) d e := xe_Ev_step ⟨_, hc, ⟨x, y, st, rfl, by subst ht; exact h1, h2⟩⟩
theorem xb_if_gt {x : Int32} {t : Int} {j : Nat} (hc : code[i]? = some (.ifCond .gt t)) (ht : t.toNat = j) (h1 : 0 < x → xB D code Q L j dl st d e) (h2 : ¬ 0 < x → xB D code Q L (i + 1) dl st d e) : xB D code Q L i dl (.int x :: st) d e := xe_Ev_step ⟨_, hc, ⟨x, st, rfl, by subst ht; exact h1, h2⟩⟩
theorem xb_icmp_le {x y : Int32} {t : Int} {j : Nat} (hc : code[i]? = some (.if_icmp .le t)) (ht : t.toNat = j) (h1 : x ≤ y → xB D code Q L j dl st d e) (h2 : ¬ x ≤ y → xB D code Q L (i + 1) dl st d e) : xB D code Q L i dl (.int y :: .int x :: st) d e := xe_Ev_step ⟨_, hc, ⟨x, y, st, rfl, by subst ht; exact h1, h2⟩⟩
theorem xb_if_le {x : Int32} {t : Int} {j : Nat} (hc : code[i]? = some (.ifCond .le t)) (ht : t.toNat = j) (h1 : x ≤ 0 → xB D code Q L j dl st d e) (h2 : ¬ x ≤ 0 → xB D code Q L (i + 1) dl st d e) : xB D code Q L i dl (.int x :: st) d e := xe_Ev_step ⟨_, hc, ⟨x, st, rfl, by subst ht; exact h1, h2⟩⟩
theorem xb_nnull {x : Int32} {t : Int} {j : Nat} (hc : code[i]? = some (.ifnonnull t)) (ht : t.toNat = j) (h1 : ¬ x = 0 → xB D code Q L j dl st d e) (h2 : x = 0 → xB D code Q L (i + 1) dl st d e) : xB D code Q L i dl (xd_r x :: st) d e := xe_Ev_step ⟨_, hc, (by
    subst ht
    by_cases q : x = 0
    · exact Or.inr ⟨st, by unfold xd_r; rw [if_pos q], h2 q⟩
    · exact Or.inl ⟨x.toNatClampNeg, st, by unfold xd_r; rw [if_neg q], h1 q⟩)⟩
theorem xb_table {x : Int32} {dd lo hi : Int} {os : Array Int} {j : Nat} (hc : code[i]? = some (.tableswitch dd lo hi os)) (ht : dd.toNat = j) (h1 : (x.toInt < lo ∨ hi < x.toInt) → xB D code Q L j dl st d e) (h2 : ¬ x.toInt < lo → ¬ hi < x.toInt → ∃ t : Int, os[(x.toInt - lo).toNat]? = some t ∧ xB D code Q L t.toNat dl st d e) : xB D code Q L i dl (.int x :: st) d e := xe_Ev_step ⟨_, hc, ⟨x, st, rfl, by subst ht; exact h1, h2⟩⟩
theorem xb_lookup {x : Int32} {dd : Int} {ps : Array (Int × Int)} (hc : code[i]? = some (.lookupswitch dd ps)) (h : xB D code Q L (Op.lookupswitch.offset ps.toList dd x.toInt).toNat dl st d e) : xB D code Q L i dl (.int x :: st) d e := xe_Ev_step ⟨_, hc, ⟨x, st, rfl, h⟩⟩
theorem xb_get {a n : Nat} {fs : List Value} {v : Value} (hc : code[i]? = some (.getfield n)) (ha : 0 < a) (hz : a < 178) (hM : xd_mem L d e a = .inr (n / 64, fs)) (hv : fs[n % 64]? = some v) (h : xB D code Q L (i + 1) dl (v :: st) d e) : xB D code Q L i dl (.ref a :: st) d e := xe_Ev_step ⟨_, hc, ⟨a, fs, v, st, rfl, ha, hz, hM, hv, h⟩⟩
theorem xb_put {a n : Nat} {fs : List Value} {v : Value} {f : Nat → Int32} {d' : xd_D} (hc : code[i]? = some (.putfield n)) (ha : 0 < a) (hz : a < 178) (hM : xd_mem L d e a = .inr (n / 64, fs)) (hl : n % 64 < fs.length) (hf : fits (xe_ty (n / 64) (n % 64)) v = true) (hN : xd_cell L a f (e a) = .inr (n / 64, fs.set (n % 64) v)) (hd : va_up d a f = d') (h : xB D code Q L (i + 1) dl st d' e) : xB D code Q L i dl (v :: .ref a :: st) d e := xe_Ev_step ⟨_, hc, a, fs, v, st, rfl, ha, hz, hM, hl, hf, by rw [xd_put L d e a f _ hN, hd]; exact h⟩
theorem xb_iald {a n : Nat} {j : Int32} {f : Nat → Int32} (hc : code[i]? = some .iaload) (hz : a < 178) (hM : xd_mem L d e a = .inl (1, n, .inl f)) (hin : vp_in j n) (h : xB D code Q L (i + 1) dl (.int (f j.toNatClampNeg) :: st) d e) : xB D code Q L i dl (.int j :: .ref a :: st) d e := xe_Ev_step ⟨_, hc, ⟨a, j, n, f, st, rfl, hz, hM, hin, h⟩⟩
theorem xb_bald {a t n : Nat} {j : Int32} {f : Nat → Int32} (hc : code[i]? = some .baload) (ha : 0 < a) (hz : a < 178) (ht : t = 0 ∨ t = 3) (hM : xd_mem L d e a = .inl (t, n, .inl f)) (hin : vp_in j n) (h : xB D code Q L (i + 1) dl (.int (f j.toNatClampNeg) :: st) d e) : xB D code Q L i dl (.int j :: .ref a :: st) d e := xe_Ev_step ⟨_, hc, ⟨a, j, t, n, f, st, rfl, ha, hz, ht, hM, hin, h⟩⟩
theorem xb_lald {a n : Nat} {j : Int32} {f : Nat → Int64} (hc : code[i]? = some .laload) (ha : 0 < a) (hz : a < 178) (hM : xd_mem L d e a = .inl (2, n, .inr (.inl f))) (hin : vp_in j n) (h : xB D code Q L (i + 1) dl (.long (f j.toNatClampNeg) :: st) d e) : xB D code Q L i dl (.int j :: .ref a :: st) d e := xe_Ev_step ⟨_, hc, ⟨a, j, n, f, st, rfl, ha, hz, hM, hin, h⟩⟩
theorem xb_aald {a n : Nat} {j : Int32} {f : Nat → Option Nat} {v : Value} (hc : code[i]? = some .aaload) (ha : 0 < a) (hz : a < 178) (hM : xd_mem L d e a = .inl (4, n, .inr (.inr (.inr (.inr f))))) (hin : vp_in j n) (hv : va_rf (f j.toNatClampNeg) = v) (h : xB D code Q L (i + 1) dl (v :: st) d e) : xB D code Q L i dl (.int j :: .ref a :: st) d e := xe_Ev_step ⟨_, hc, ⟨a, j, n, f, st, rfl, ha, hz, hM, hin, by rw [hv]; exact h⟩⟩
theorem xb_iast {a n : Nat} {j x : Int32} {f : Nat → Int32} {d' : xd_D} (hc : code[i]? = some .iastore) (ha : 0 < a) (hz : a < 178) (hM : xd_mem L d e a = .inl (1, n, .inl f)) (hin : vp_in j n) (hN : xd_cell L a (upd f j.toNatClampNeg x) (e a) = .inl (1, n, .inl (upd f j.toNatClampNeg x))) (hd : va_up d a (upd f j.toNatClampNeg x) = d') (h : xB D code Q L (i + 1) dl st d' e) : xB D code Q L i dl (.int x :: .int j :: .ref a :: st) d e := xe_Ev_step ⟨_, hc, a, j, x, n, f, st, rfl, ha, hz, hM, hin, by rw [xd_put L d e a _ _ hN, hd]; exact h⟩
theorem xb_bast {a t n : Nat} {j x : Int32} {f : Nat → Int32} {d' : xd_D} (hc : code[i]? = some .bastore) (ha : 0 < a) (hz : a < 178) (ht : (t = 0 ∧ x.toInt8.toInt32 = x) ∨ (t = 3 ∧ (x = 0 ∨ x = 1))) (hM : xd_mem L d e a = .inl (t, n, .inl f)) (hin : vp_in j n) (hN : xd_cell L a (upd f j.toNatClampNeg x) (e a) = .inl (t, n, .inl (upd f j.toNatClampNeg x))) (hd : va_up d a (upd f j.toNatClampNeg x) = d') (h : xB D code Q L (i + 1) dl st d' e) : xB D code Q L i dl (.int x :: .int j :: .ref a :: st) d e := xe_Ev_step ⟨_, hc, a, j, x, t, n, f, st, rfl, ha, hz, ht, hM, hin, by rw [xd_put L d e a _ _ hN, hd]; exact h⟩
theorem xb_last {a n : Nat} {j : Int32} {x : Int64} {f : Nat → Int64} {e' : xd_E} (hc : code[i]? = some .lastore) (ha : 0 < a) (hz : a < 178) (hM : xd_mem L d e a = .inl (2, n, .inr (.inl f))) (hin : vp_in j n) (hN : xd_cell L a (d a) (vp_updL f j.toNatClampNeg x) = .inl (2, n, .inr (.inl (vp_updL f j.toNatClampNeg x)))) (hd : va_up e a (vp_updL f j.toNatClampNeg x) = e') (h : xB D code Q L (i + 1) dl st d e') : xB D code Q L i dl (.long x :: .int j :: .ref a :: st) d e := xe_Ev_step ⟨_, hc, a, j, x, n, f, st, rfl, ha, hz, hM, hin, by rw [xd_putL L d e a _ _ hN, hd]; exact h⟩
theorem xb_alen {a t n : Nat} {x : (Nat → Int32) ⊕ (Nat → Int64) ⊕ (Nat → UInt32) ⊕ (Nat → UInt64) ⊕ (Nat → Option Nat)} (hc : code[i]? = some .arraylength) (hz : a < 178) (ht : t < 5) (hM : xd_mem L d e a = .inl (t, n, x)) (h0 : a = 0 → t = 1) (h : xB D code Q L (i + 1) dl (.int (Int32.ofNat n) :: st) d e) : xB D code Q L i dl (.ref a :: st) d e := xe_Ev_step ⟨_, hc, ⟨a, t, n, x, st, rfl, hz, ht, hM, h0, h⟩⟩
theorem xb_copyi {a0 a n0 n1 : Nat} {sp dp n : Int32} {f g : Nat → Int32} {d' : xd_D} (hc : code[i]? = some .monitorenter) (ha0 : 0 < a0) (hz0 : a0 < 178) (ha : 0 < a) (hz : a < 178) (hcat : xe_cat st ≤ 8) (hM0 : xd_mem L d e a0 = .inl (1, n0, .inl f)) (hM : xd_mem L d e a = .inl (1, n1, .inl g)) (h1 : ¬ sp < 0) (h2 : ¬ dp < 0) (h3 : ¬ n < 0) (h4 : sp.toNatClampNeg + n.toNatClampNeg ≤ n0) (h5 : dp.toNatClampNeg + n.toNatClampNeg ≤ n1) (hN : xd_cell L a (va_cpy f g sp.toNatClampNeg dp.toNatClampNeg n.toNatClampNeg) (e a) = .inl (1, n1, .inl (va_cpy f g sp.toNatClampNeg dp.toNatClampNeg n.toNatClampNeg))) (hd : va_up d a (va_cpy f g sp.toNatClampNeg dp.toNatClampNeg n.toNatClampNeg) = d') (h : xB D code Q L (i + 1) dl st d' e) : xB D code Q L i dl (.int n :: .int dp :: .ref a :: .int sp :: .ref a0 :: st) d e := xe_Ev_step ⟨_, hc, a0, a, sp, dp, n, n0, n1, f, g, st, rfl, ha0, hz0, ha, hz, hcat, hM0, hM, h1, h2, h3, h4, h5, Nat.le_refl _, by rw [xd_put L d e a _ _ hN, hd]; exact h⟩
theorem xb_copyl {a0 a n0 n1 : Nat} {sp dp n : Int32} {f g : Nat → Int64} {e' : xd_E} (hc : code[i]? = some .monitorexit) (ha0 : 0 < a0) (hz0 : a0 < 178) (ha : 0 < a) (hz : a < 178) (hcat : xe_cat st ≤ 8) (hM0 : xd_mem L d e a0 = .inl (2, n0, .inr (.inl f))) (hM : xd_mem L d e a = .inl (2, n1, .inr (.inl g))) (h1 : ¬ sp < 0) (h2 : ¬ dp < 0) (h3 : ¬ n < 0) (h4 : sp.toNatClampNeg + n.toNatClampNeg ≤ n0) (h5 : dp.toNatClampNeg + n.toNatClampNeg ≤ n1) (hN : xd_cell L a (d a) (va_cpy f g sp.toNatClampNeg dp.toNatClampNeg n.toNatClampNeg) = .inl (2, n1, .inr (.inl (va_cpy f g sp.toNatClampNeg dp.toNatClampNeg n.toNatClampNeg)))) (hd : va_up e a (va_cpy f g sp.toNatClampNeg dp.toNatClampNeg n.toNatClampNeg) = e') (h : xB D code Q L (i + 1) dl st d e') : xB D code Q L i dl (.int n :: .int dp :: .ref a :: .int sp :: .ref a0 :: st) d e := xe_Ev_step ⟨_, hc, a0, a, sp, dp, n, n0, n1, f, g, st, rfl, ha0, hz0, ha, hz, hcat, hM0, hM, h1, h2, h3, h4, h5, Nat.le_refl _, by rw [xd_putL L d e a _ _ hN, hd]; exact h⟩
theorem xb_callVi {g : Nat} {inf : xe_I} {As st' : List Value} {a : Nat} {fs : List Value} (hc : code[i]? = some (.invokevirtual g)) (hT : xm_T[g]? = some inf) (hk : xe_ik inf = 1) (hm : xe_im inf = 0) (hs : xe_is inf = 0) (hst : st' = As.reverse ++ .ref a :: st) (hn : As.length = xe_in inf) (hA1 : As.all xe_c1 = true) (ha : 0 < a) (hz : a < 178) (hM : xd_mem L d e a = .inr (xe_ic inf, fs)) (hcat : xe_cat st ≤ 8) (h : xC D g L (Value.ref a :: As) d e (fun x d e => xB D code Q L (i + 1) dl (.int x :: st) d e)) : xB D code Q L i dl st' d e := by
  refine xe_Ev_step ⟨_, hc, inf, As, a, fs, st, hT, hk, hst, hn, hA1, ha, hz, hM, hcat, by rw [hm]; exact Nat.le_refl _, by rw [hs]; exact Nat.le_refl _, ?_⟩
  refine xe_Call_Q D g _ 178 _ _ _ ?_ h
  rintro v z M ⟨x, d', e', rfl, rfl, rfl, h⟩
  rw [hm, hs]
  exact h
theorem xb_callVv {g : Nat} {inf : xe_I} {As st' : List Value} {a : Nat} {fs : List Value} (hc : code[i]? = some (.invokevirtual g)) (hT : xm_T[g]? = some inf) (hk : xe_ik inf = 1) (hm : xe_im inf = 0) (hs : xe_is inf = 0) (hst : st' = As.reverse ++ .ref a :: st) (hn : As.length = xe_in inf) (hA1 : As.all xe_c1 = true) (ha : 0 < a) (hz : a < 178) (hM : xd_mem L d e a = .inr (xe_ic inf, fs)) (hcat : xe_cat st ≤ 8) (h : xV D g L (Value.ref a :: As) d e (fun d e => xB D code Q L (i + 1) dl st d e)) : xB D code Q L i dl st' d e := by
  refine xe_Ev_step ⟨_, hc, inf, As, a, fs, st, hT, hk, hst, hn, hA1, ha, hz, hM, hcat, by rw [hm]; exact Nat.le_refl _, by rw [hs]; exact Nat.le_refl _, ?_⟩
  refine xe_Call_Q D g _ 178 _ _ _ ?_ h
  rintro v z M ⟨d', e', rfl, rfl, rfl, h⟩
  rw [hm, hs]
  exact h
theorem xb_callSi {g : Nat} {inf : xe_I} {As st' : List Value} (hc : code[i]? = some (.invokestatic g)) (hT : xm_T[g]? = some inf) (hk : xe_ik inf = 0) (hm : xe_im inf = 0) (hs : xe_is inf = 0) (hst : st' = As.reverse ++ st) (hn : As.length = xe_in inf) (hA1 : As.all xe_c1 = true) (hcat : xe_cat st ≤ 8) (h : xC D g L (As) d e (fun x d e => xB D code Q L (i + 1) dl (.int x :: st) d e)) : xB D code Q L i dl st' d e := by
  refine xe_Ev_step ⟨_, hc, inf, As, st, hT, Or.inl hk, hst, hn, hA1, hcat, by rw [hm]; exact Nat.le_refl _, by rw [hs]; exact Nat.le_refl _, ?_⟩
  refine xe_Call_Q D g _ 178 _ _ _ ?_ h
  rintro v z M ⟨x, d', e', rfl, rfl, rfl, h⟩
  rw [hm, hs]
  exact h
theorem xb_callSv {g : Nat} {inf : xe_I} {As st' : List Value} (hc : code[i]? = some (.invokestatic g)) (hT : xm_T[g]? = some inf) (hk : xe_ik inf = 0) (hm : xe_im inf = 0) (hs : xe_is inf = 0) (hst : st' = As.reverse ++ st) (hn : As.length = xe_in inf) (hA1 : As.all xe_c1 = true) (hcat : xe_cat st ≤ 8) (h : xV D g L (As) d e (fun d e => xB D code Q L (i + 1) dl st d e)) : xB D code Q L i dl st' d e := by
  refine xe_Ev_step ⟨_, hc, inf, As, st, hT, Or.inl hk, hst, hn, hA1, hcat, by rw [hm]; exact Nat.le_refl _, by rw [hs]; exact Nat.le_refl _, ?_⟩
  refine xe_Call_Q D g _ 178 _ _ _ ?_ h
  rintro v z M ⟨d', e', rfl, rfl, rfl, h⟩
  rw [hm, hs]
  exact h
theorem xb_forget {dl2 : List Value} (hle : xe_le dl dl2) (h : xB D code Q L i dl st d e) : xB D code Q L i dl2 st d e := xe_forget h dl2 hle
end XBR
section XBQ
variable {D : Nat} {code : List Instr} {L i : Nat} {dl : List Value} {d : xd_D} {e : xd_E}
theorem xb_ret {P : Int32 → xd_D → xd_E → Prop} {x : Int32} (hc : code[i]? = some .ireturn) (h : P x d e) : xB D code (xQi L P) L i dl [.int x] d e := xe_Ev_step ⟨_, hc, x, rfl, x, d, e, rfl, rfl, rfl, h⟩
theorem xb_retz {P : Int32 → xd_D → xd_E → Prop} {x : Int32} (hc : code[i]? = some .freturn) (hx : x = 0 ∨ x = 1) (h : P x d e) : xB D code (xQi L P) L i dl [.int x] d e := xe_Ev_step ⟨_, hc, x, rfl, hx, x, d, e, rfl, rfl, rfl, h⟩
theorem xb_retv {P : xd_D → xd_E → Prop} (hc : code[i]? = some .return_) (h : P d e) : xB D code (xQv L P) L i dl [] d e := xe_Ev_step ⟨_, hc, rfl, d, e, rfl, rfl, rfl, h⟩
end XBQ
