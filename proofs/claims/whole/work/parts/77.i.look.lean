/-! TASKS: the class looks. -/
section TS9
variable {L D : Nat} {d : xh_D} {e : xd_E} {m n : Int} {T c tr : Int → Int} {P : xh_D → xd_E → Prop}
theorem sq_6_130 {a1 : Int} (hD : 1 ≤ D) (h : P (xwr d 130 64 (fun _ => a1)) e) : yV D 6 L [.ref 130, .int (xJ a1)] d e P := by
  refine yV_of rfl rfl rfl (by omega) (yk_6_130_0 ?_)
  have := lp_up (n := 64) (X := fun i => yB (D - 1) xm_c6 (yQv L P) L 5 [.ref 130, .int (xJ a1), .int (xJ i), .int (xJ (64 : Int))] [] (xwr d 130 i (fun _ => a1)) e) (by omega) (fun i a b ih => yk_6_130_5 ⟨by omega, by omega, fun z => by omega, fun _ => ⟨by omega, by rw [show xs (xwr d 130 i (fun _ => a1)) 130 i a1 = xwr d 130 (i + 1) (fun _ => a1) from xwr_s a]; exact ih⟩⟩) (yk_6_130_5 ⟨by omega, by omega, fun _ => h, fun z => by omega⟩)
  rw [xwr_0] at this
  exact this
theorem sq_6_131 {a1 : Int} (hD : 1 ≤ D) (h : P (xwr d 131 64 (fun _ => a1)) e) : yV D 6 L [.ref 131, .int (xJ a1)] d e P := by
  refine yV_of rfl rfl rfl (by omega) (yk_6_131_0 ?_)
  have := lp_up (n := 64) (X := fun i => yB (D - 1) xm_c6 (yQv L P) L 5 [.ref 131, .int (xJ a1), .int (xJ i), .int (xJ (64 : Int))] [] (xwr d 131 i (fun _ => a1)) e) (by omega) (fun i a b ih => yk_6_131_5 ⟨by omega, by omega, fun z => by omega, fun _ => ⟨by omega, by rw [show xs (xwr d 131 i (fun _ => a1)) 131 i a1 = xwr d 131 (i + 1) (fun _ => a1) from xwr_s a]; exact ih⟩⟩) (yk_6_131_5 ⟨by omega, by omega, fun _ => h, fun z => by omega⟩)
  rw [xwr_0] at this
  exact this
theorem sq_6_132 {a1 : Int} (hD : 1 ≤ D) (h : P (xwr d 132 512 (fun _ => a1)) e) : yV D 6 L [.ref 132, .int (xJ a1)] d e P := by
  refine yV_of rfl rfl rfl (by omega) (yk_6_132_0 ?_)
  have := lp_up (n := 512) (X := fun i => yB (D - 1) xm_c6 (yQv L P) L 5 [.ref 132, .int (xJ a1), .int (xJ i), .int (xJ (512 : Int))] [] (xwr d 132 i (fun _ => a1)) e) (by omega) (fun i a b ih => yk_6_132_5 ⟨by omega, by omega, fun z => by omega, fun _ => ⟨by omega, by rw [show xs (xwr d 132 i (fun _ => a1)) 132 i a1 = xwr d 132 (i + 1) (fun _ => a1) from xwr_s a]; exact ih⟩⟩) (yk_6_132_5 ⟨by omega, by omega, fun _ => h, fun z => by omega⟩)
  rw [xwr_0] at this
  exact this
theorem sh_r {t : Int} (ht : 0 ≤ t ∧ t < 6) : 0 < xi_shl 1 t ∧ xi_shl 1 t < 64 := by
  have key : ∀ t : Nat, t < 6 → 0 < xi_shl 1 t ∧ xi_shl 1 t < 64 := by decide +kernel
  have := key t.toNat (by omega)
  rwa [show ((t.toNat : Nat) : Int) = t by omega] at this
theorem sh_t {k t : Int} (hk : 0 ≤ k ∧ k < 6) (ht : 0 ≤ t) : tb (xi_shl 1 k) t = decide (t = k) := by
  obtain ⟨a, rfl⟩ : ∃ a : Nat, k = a := ⟨k.toNat, by omega⟩
  obtain ⟨b, rfl⟩ : ∃ b : Nat, t = b := ⟨t.toNat, by omega⟩
  unfold tb
  rw [bt_shl (by omega), Int.toNat_natCast, Int.toNat_natCast, Nat.testBit_two_pow]
  by_cases z : a = b
  · rw [z]; simp
  · rw [decide_eq_false z, decide_eq_false (by omega)]
theorem sh_i {k t : Int} (hk : 0 ≤ k ∧ k < 6) (ht : 0 ≤ t ∧ t < 6) (h : xi_shl 1 k = xi_shl 1 t) : k = t := by
  have h1 := sh_t hk hk.1
  rw [h, sh_t ht hk.1] at h1
  simpa using h1
theorem st_l {l : Int} (hl : 1 ≤ l ∧ l < 64) : (xi_and l (-l) = l → ∃ k, (0 ≤ k ∧ k < 6) ∧ l = xi_shl 1 k) ∧ (¬ xi_and l (-l) = l → (0 ≤ xi_and l (-l) ∧ xi_and l (-l) < l) ∧ (0 ≤ xi_xor l (xi_and l (-l)) ∧ xi_xor l (xi_and l (-l)) < l) ∧ ∀ t, 0 ≤ t → t < 6 → tb l t = (tb (xi_and l (-l)) t || tb (xi_xor l (xi_and l (-l))) t) ∧ (tb (xi_and l (-l)) t && tb (xi_xor l (xi_and l (-l))) t) = false) := by
  have key1 : ∀ l : Nat, l < 64 → 1 ≤ l → xi_and l (-l) = l → ∃ k, k < 6 ∧ (l : Int) = xi_shl 1 (k : Nat) := by decide +kernel
  have key2 : ∀ l : Nat, l < 64 → 1 ≤ l → ¬ xi_and l (-l) = l → (0 ≤ xi_and l (-l) ∧ xi_and l (-l) < l) ∧ (0 ≤ xi_xor l (xi_and l (-l)) ∧ xi_xor l (xi_and l (-l)) < l) := by decide +kernel
  have key3 : ∀ l : Nat, l < 64 → 1 ≤ l → ¬ xi_and l (-l) = l → ∀ t : Nat, t < 6 → tb l t = (tb (xi_and l (-l)) t || tb (xi_xor l (xi_and l (-l))) t) ∧ (tb (xi_and l (-l)) t && tb (xi_xor l (xi_and l (-l))) t) = false := by decide +kernel
  have k1 := key1 l.toNat (by omega) (by omega)
  have k2 : ¬ xi_and (l.toNat : Nat) (-((l.toNat : Nat) : Int)) = (l.toNat : Nat) → _ := fun w => And.intro (key2 l.toNat (by omega) (by omega) w).1 (And.intro (key2 l.toNat (by omega) (by omega) w).2 (key3 l.toNat (by omega) (by omega) w))
  rw [show ((l.toNat : Nat) : Int) = l by omega] at k1 k2
  refine ⟨fun h => ?_, fun h => ⟨(k2 h).1, (k2 h).2.1, fun t a b => ?_⟩⟩
  · obtain ⟨k, a, b⟩ := k1 h
    exact ⟨k, by omega, b⟩
  · have := (k2 h).2.2 t.toNat (by omega)
    rwa [show ((t.toNat : Nat) : Int) = t by omega] at this
def ndS (T c : Int → Int) (i l : Int) : Int := sI (fun j => if xi_shl 1 (T j) = l then c j else 0) i
/-- a set of one trade -/
theorem one_l {k : Int} (tp : tkP m n T c tr) (hk : 0 ≤ k ∧ k < 6) : ndU m T c (tb (xi_shl 1 k)) = ndS T c m (xi_shl 1 k) ∧ bI (fun q => !decide (xi_and (tr q) (xi_shl 1 k) = 0)) n = bI (fun q => tb (tr q) k) n := by
  obtain ⟨hm, hn, hT, hc, ht⟩ := tp
  constructor
  · rw [ndL_U hm hc]
    refine sI_congr fun j a b => ?_
    have hj := hT j a b
    rw [sh_t hk hj.1]
    by_cases z : T j = k
    · rw [z]; simp
    · rw [if_neg (by simp [z]), if_neg (fun w => z (sh_i hj hk w))]
  · refine bI_congr fun q a b => ?_
    have hr := sh_r hk
    have h := an_ex (ht q a b) ⟨by omega, hr.2⟩ (l := xi_shl 1 k)
    cases z : tb (tr q) k
    · have : xi_and (tr q) (xi_shl 1 k) = 0 := Decidable.byContradiction fun w => by
        obtain ⟨t, ht, a1, a2⟩ := h.mp w
        rw [sh_t hk ht.1, decide_eq_true_eq] at a2
        rw [a2, z] at a1
        exact absurd a1 (by decide)
      simp [this]
    · have : ¬ xi_and (tr q) (xi_shl 1 k) = 0 := h.mpr ⟨k, hk, z, by rw [sh_t hk hk.1]; simp⟩
      simp [this]
/-- a set of more -/
theorem two_l {l f g : Int} (tp : tkP m n T c tr) (hl : 0 ≤ l ∧ l < 64) (hf : 0 ≤ f ∧ f < 64) (hg : 0 ≤ g ∧ g < 64) (h : ∀ t, 0 ≤ t → t < 6 → tb l t = (tb f t || tb g t) ∧ (tb f t && tb g t) = false) : ndU m T c (tb f) + ndU m T c (tb g) = ndU m T c (tb l) ∧ xi_or (bI (fun q => !decide (xi_and (tr q) f = 0)) n) (bI (fun q => !decide (xi_and (tr q) g = 0)) n) = bI (fun q => !decide (xi_and (tr q) l = 0)) n := by
  obtain ⟨hm, hn, hT, hc, ht⟩ := tp
  constructor
  · rw [ndL_U hm hc, ndL_U hm hc, ndL_U hm hc, ← sI_add hm.1]
    refine sI_congr fun j a b => ?_
    have hj := hT j a b
    have := h _ hj.1 hj.2
    rw [this.1]
    cases h1 : tb f (T j) <;> cases h2 : tb g (T j) <;> rw [h1, h2] at this <;> simp at this ⊢
  · rw [bI_or (by omega)]
    refine bI_congr fun q a b => ?_
    have e1 := an_ex (ht q a b) hl
    have e2 := an_ex (ht q a b) hf
    have e3 := an_ex (ht q a b) hg
    have : (¬ xi_and (tr q) l = 0) ↔ (¬ xi_and (tr q) f = 0 ∨ ¬ xi_and (tr q) g = 0) := by
      rw [e1, e2, e3]
      constructor
      · intro ⟨t, ht, a1, a2⟩
        rw [(h t ht.1 ht.2).1, Bool.or_eq_true] at a2
        rcases a2 with w | w
        · exact Or.inl ⟨t, ht, a1, w⟩
        · exact Or.inr ⟨t, ht, a1, w⟩
      · intro w
        rcases w with ⟨t, ht, a1, a2⟩ | ⟨t, ht, a1, a2⟩
        · exact ⟨t, ht, a1, by rw [(h t ht.1 ht.2).1, a2]; rfl⟩
        · exact ⟨t, ht, a1, by rw [(h t ht.1 ht.2).1, a2, Bool.or_true]⟩
    by_cases z : xi_and (tr q) f = 0 <;> by_cases y : xi_and (tr q) g = 0 <;> by_cases x : xi_and (tr q) l = 0 <;> simp [x, y, z] at this ⊢
def sl (p : Nat) (i : Int) : Bool := p == 130 || p == 131 || p == 132 || p == 133 || (p == 127 && !decide (i = 8))
theorem sl_x {d' : xh_D} (h : Fk sl d d') : Fk sx d d' := Fk_mono h (fun p i s => by
  by_cases w : p = 130 ∨ p = 131 ∨ p = 132 ∨ p = 133
  · rcases w with rfl | rfl | rfl | rfl <;> exact absurd (show true = false from s) (by decide)
  · by_cases h1 : p = 127
    · rw [h1] at s ⊢
      by_cases h2 : i = 8
      · rw [h2]; rfl
      · exact absurd s (by simp [sx, kz, h2])
    · simp only [sl, Bool.or_eq_false_iff, beq_eq_false_iff_ne, ne_eq, Bool.and_eq_false_iff]
      omega)
theorem sq_63 (hD : 4 ≤ D) (tp : tkP m n T c tr) (hm : d 127 8 = m) (hj : ∀ j, 0 ≤ j → j < m → d 128 j = T j ∧ d 129 j = c j) (hh : ∀ p, 0 ≤ p → p < n → 0 ≤ d 12 p ∧ d 12 p < 9) (ht : ∀ p, 0 ≤ p → p < n → d 14 p = tr p) (h : ∀ d', Fk sl d d' → tkC m n T c tr d' → hdC n (fun _ => true) (d 12) d' → P d' e) : yV D 63 L [.ref 127, .ref 11, .int (xJ n)] d e P := by
  have hn := tp.2.1
  have hm6 := tp.1
  refine yV_of rfl rfl rfl (by omega) (yk_63_11_0 ?_)
  rw [bI_all (by omega)]
  obtain ⟨d0, e0⟩ : ∃ d0, d0 = xs d 127 9 (bI (fun _ => true) n) := ⟨_, rfl⟩
  rw [← e0]
  have lA := lp_up (n := 9) (X := fun i => yB (D - 1) xm_c63 (yQv L P) L 9 [.ref 127, .ref 11, .int (xJ n), .int (xJ i), .double 0] [] (xwr d0 133 i (fun h => bI (fun p => decide (d 12 p = h % 9)) n)) e) (by omega) ?_ ?_
  · rw [xwr_0] at lA; exact lA
  · intro i a b ih
    have c12 : xwr d0 133 i (fun h => bI (fun p => decide (d 12 p = h % 9)) n) 12 = d 12 := by rw [xwr_fn (by decide), e0, xs_fn, if_neg (by decide)]
    refine yk_63_11_9 ⟨by omega, fun z => by omega, fun _ => sq_51 (by omega) (by omega) hn (by rw [c12]; exact hh) ⟨by omega, ?_⟩⟩
    rw [c12, show xs (xwr d0 133 i (fun h => bI (fun p => decide (d 12 p = h % 9)) n)) 133 i (bI (fun p => decide (d 12 p = i % 9)) n) = xwr d0 133 (i + 1) (fun h => bI (fun p => decide (d 12 p = h % 9)) n) from xwr_s a]
    exact ih
  refine yk_63_11_9 ⟨by omega, fun _ => ?_, fun z => by omega⟩
  refine sq_6_130 (by omega) (sq_6_131 (by omega) (sq_6_132 (by omega) ?_))
  obtain ⟨dB, eB⟩ : ∃ dB, dB = xs (xwr (xwr (xwr (xwr d0 133 9 (fun h => bI (fun p => decide (d 12 p = h % 9)) n)) 130 64 (fun _ => 0)) 131 64 (fun _ => 0)) 132 512 (fun _ => -1)) 127 10 0 := ⟨_, rfl⟩
  rw [← eB]
  have fB : Fk sl d dB := by
    rw [eB, e0]
    exact Fk_xs (Fk_wr (Fk_wr (Fk_wr (Fk_wr (Fk_xs Fk_refl rfl) (fun _ => rfl)) (fun _ => rfl)) (fun _ => rfl)) (fun _ => rfl)) rfl
  have b9 : dB 127 9 = bI (fun _ => true) n := by
    rw [eB, xs_ni (by decide), xwr_fn (by decide), xwr_fn (by decide), xwr_fn (by decide), xwr_fn (by decide), e0, xs_eq]
  have b133 : ∀ h, 0 ≤ h → h < 9 → dB 133 h = bI (fun q => decide (d 12 q = h)) n := fun h a b => by
    rw [eB, xs_np (by decide), xwr_fn (by decide), xwr_fn (by decide), xwr_fn (by decide), xwr_at ⟨a, b⟩, show h % 9 = h by omega]
  have b132 : ∀ i, 0 ≤ i → i < 512 → dB 132 i = -1 := fun i a b => by
    rw [eB, xs_np (by decide), xwr_at ⟨a, b⟩]
  have b131 : ∀ i, 0 ≤ i → i < 64 → dB 131 i = 0 := fun i a b => by
    rw [eB, xs_np (by decide), xwr_fn (by decide), xwr_at ⟨a, b⟩]
  have b130 : ∀ i, 0 ≤ i → i < 64 → dB 130 i = 0 := fun i a b => by
    rw [eB, xs_np (by decide), xwr_fn (by decide), xwr_fn (by decide), xwr_at ⟨a, b⟩]
  have b10 : dB 127 10 = 0 := by rw [eB, xs_eq]
  have b8 : dB 127 8 = m := by rw [fB 127 8 rfl, hm]
  have b128 : dB 128 = d 128 := Fk_p fB (fun _ => rfl)
  have b129 : dB 129 = d 129 := Fk_p fB (fun _ => rfl)
  have b14 : dB 14 = d 14 := Fk_p fB (fun _ => rfl)
  clear eB e0
  refine lp_up (n := m) (X := fun i => ∀ dc, (∀ q, ¬ q = 127 → ¬ q = 130 → dc q = dB q) → (∀ j, ¬ j = 10 → dc 127 j = dB 127 j) → dc 127 10 = bI (wtd i T) 6 → (∀ l, 0 ≤ l → l < 64 → dc 130 l = ndS T c i l) → yB (D - 1) xm_c63 (yQv L P) L 39 [.ref 127, .ref 11, .int (xJ n), .int (xJ i), .double 0] [] dc e) hm6.1 ?_ ?_ dB (fun _ _ _ => rfl) (fun _ _ => rfl) (by
    rw [b10, bI_congr (g := fun _ => false) (fun t _ _ => by unfold wtd; rw [cI_0]; rfl), bI_no]) (fun l a b => by rw [b130 l a b]; rfl)
  · intro i a b ih dc f1 f2 f3 f4
    have hi := hj i a b
    have hT := tp.2.2.1 i a b
    have sr := sh_r hT
    refine yk_63_11_39 ?_
    rw [f2 8 (by decide), b8, f1 128 (by decide) (by decide), b128, hi.1, f1 129 (by decide) (by decide), b129, hi.2, f3, bI_set (by omega) hT]
    refine ⟨by omega, by omega, fun z => by omega, fun _ => ⟨by omega, by omega, ih _ (fun q h1 h2 => by rw [xs_fn, if_neg h1, xs_fn, if_neg h2, f1 q h1 h2]) (fun j h1 => by rw [xs_ni h1, xs_np (by decide), f2 j h1]) ?_ (fun l a1 a2 => ?_)⟩⟩
    · rw [xs_eq]
      refine bI_congr fun t _ _ => ?_
      unfold wtd
      rw [cI_s _ a]
      have := (cI_r (fun j => decide (T j = t)) a).1
      by_cases z : t = T i
      · have z' : T i = t := z.symm
        rw [decide_eq_true z, decide_eq_true z', Bool.or_true]
        symm
        simp only [if_true]
        exact decide_eq_true (by omega)
      · have z' : ¬ T i = t := fun w => z w.symm
        rw [decide_eq_false z, decide_eq_false z', Bool.or_false]
        simp
    · unfold ndS
      rw [xs_np (by decide), sI_s _ a]
      try dsimp only
      by_cases z : l = xi_shl 1 (T i)
      · rw [z, xs_eq, if_pos rfl, f4 _ (by omega) (by omega)]; rfl
      · rw [xs_ni z, if_neg (fun w => z w.symm), f4 l a1 a2, Int.add_zero]; rfl
  intro dC f1 f2 f3 f4
  refine yk_63_11_39 ?_
  rw [f2 8 (by decide), b8]
  refine ⟨by omega, by omega, fun _ => ?_, fun z => by omega⟩
  have fC : Fk sl d dC := fun p i s => by
    by_cases h1 : p = 127
    · rw [h1] at s ⊢
      have : ¬ i = 10 := fun w => by rw [w] at s; exact absurd s (by decide)
      rw [f2 i this, fB 127 i s]
    · by_cases h2 : p = 130
      · rw [h2] at s; exact absurd s (by simp [sl])
      · rw [f1 p h1 h2, fB p i s]
  have c14 : dC 14 = d 14 := by rw [f1 14 (by decide) (by decide), b14]
  refine lp_up (n := n) (X := fun p => ∀ dd, (∀ q, ¬ q = 131 → dd q = dC q) → (∀ k, 0 ≤ k → k < 6 → dd 131 (xi_shl 1 k) = bI (fun q => tb (tr q) k) p) → dd 131 0 = 0 → yB (D - 1) xm_c63 (yQv L P) L 74 [.ref 127, .ref 11, .int (xJ n), .int (xJ p), .double 0] [] dd e) hn.1 ?_ ?_ dC (fun _ _ => rfl) (fun k a b => by have := sh_r ⟨a, b⟩; rw [f1 131 (by decide) (by decide), b131 _ (by omega) (by omega)]; rfl) (by rw [f1 131 (by decide) (by decide), b131 0 (by omega) (by omega)])
  · intro p a b ih dd g1 g2 g3
    refine yk_63_11_74 ⟨by omega, by omega, fun z => by omega, fun _ => ?_⟩
    have hp := ht p a b
    have hr := tp.2.2.2.2 p a b
    refine lp_up (n := 6) (X := fun t => ∀ dd, (∀ q, ¬ q = 131 → dd q = dC q) → (∀ k, 0 ≤ k → k < 6 → dd 131 (xi_shl 1 k) = if k < t then bI (fun q => tb (tr q) k) (p + 1) else bI (fun q => tb (tr q) k) p) → dd 131 0 = 0 → yB (D - 1) xm_c63 (yQv L P) L 79 [.ref 127, .ref 11, .int (xJ n), .int (xJ p), .int (xJ t)] [] dd e) (by omega) ?_ ?_ dd g1 (fun k a1 a2 => by rw [if_neg (by omega)]; exact g2 k a1 a2) g3
    · intro t a1 b1 ih2 dd g1 g2 g3
      have sr := sh_r ⟨a1, b1⟩
      have v := g2 t a1 b1
      rw [if_neg (by omega)] at v
      have step : ∀ x, x = bI (fun q => tb (tr q) t) (p + 1) → yB (D - 1) xm_c63 (yQv L P) L 79 [.ref 127, .ref 11, .int (xJ n), .int (xJ p), .int (xJ (t + 1))] [] (xs dd 131 (xi_shl 1 t) x) e := fun x ex => by
        refine ih2 _ (fun q h1 => by rw [xs_fn, if_neg h1, g1 q h1]) (fun k k1 k2 => ?_) (by rw [xs_ni (by omega)]; exact g3)
        by_cases z : k = t
        · rw [z, xs_eq, if_pos (by omega), ex]
        · rw [xs_ni (fun w => z (sh_i ⟨k1, k2⟩ ⟨a1, b1⟩ w)), g2 k k1 k2]
          by_cases y : k < t
          · rw [if_pos y, if_pos (by omega)]
          · rw [if_neg y, if_neg (by omega)]
      refine yk_63_11_79 (by omega) ?_
      rw [g1 14 (by decide), c14, hp]
      refine ⟨by omega, fun z => by omega, fun _ => ⟨by omega, by omega, fun z => ?_, fun z => ?_⟩⟩
      · refine step _ ?_
        rw [v]
        refine bI_t (by omega) ?_
        cases y : tb (tr p) t
        · exact absurd ((tb_z hr ⟨a1, b1⟩).mpr y) z
        · rfl
      · refine step _ ?_
        rw [v]
        refine bI_f (by omega) ((tb_z hr ⟨a1, b1⟩).mp ?_)
        exact Decidable.byContradiction z
    · intro dd g1 g2 g3
      refine yk_63_11_79 (by omega) ⟨by omega, fun _ => ih dd g1 (fun k k1 k2 => by rw [g2 k k1 k2, if_pos k2]) g3, fun z => by omega⟩
  intro dD g1 g2 g3
  refine yk_63_11_74 ⟨by omega, by omega, fun _ => ?_, fun z => by omega⟩
  have fD : Fk sl d dD := fun p i s => by
    by_cases h1 : p = 131
    · rw [h1] at s; exact absurd s (by simp [sl])
    · rw [g1 p h1, fC p i s]
  refine lp_from (m := 1) (n := 64) (X := fun l => ∀ de, (∀ q, ¬ q = 130 → ¬ q = 131 → de q = dD q) → (∀ x, 0 ≤ x → x < l → de 130 x = ndU m T c (tb x) ∧ de 131 x = bI (fun q => !decide (xi_and (tr q) x = 0)) n) → (∀ k, 0 ≤ k → k < 6 → l ≤ xi_shl 1 k → de 130 (xi_shl 1 k) = ndS T c m (xi_shl 1 k) ∧ de 131 (xi_shl 1 k) = bI (fun q => tb (tr q) k) n) → yB (D - 1) xm_c63 (yQv L P) L 107 [.ref 127, .double 0, .double 0, .int (xJ l), .double 0] [] de e) (by omega) ?_ ?_ dD (fun _ _ _ => rfl) (fun x a b => ?_) (fun k a b _ => ?_)
  · intro l a b ih de k1 k2 k3
    have s := st_l ⟨a, b⟩
    refine yk_63_11_107 ⟨by omega, fun z => by omega, fun _ => ⟨fun z => ?_, fun z => ?_⟩⟩
    · obtain ⟨k, hk, el⟩ := s.1 z
      refine ih de k1 (fun x a1 a2 => ?_) (fun k' b1 b2 b3 => k3 k' b1 b2 (by omega))
      by_cases y : x = l
      · have o := one_l tp hk
        have kk := k3 k hk.1 hk.2 (by omega)
        rw [y, el, o.1, o.2]
        exact kk
      · exact k2 x a1 (by omega)
    · obtain ⟨s1, s2, s3⟩ := s.2 z
      have o := two_l tp ⟨by omega, b⟩ ⟨s1.1, by omega⟩ ⟨s2.1, by omega⟩ s3
      have e1 := k2 _ s1.1 s1.2
      have e2 := k2 _ s2.1 s2.2
      rw [e1.1, e1.2, e2.1, e2.2, o.1, o.2]
      refine ⟨by omega, by omega, by omega, ih _ (fun q h1 h2 => by rw [xs_fn, if_neg h2, xs_fn, if_neg h1, k1 q h1 h2]) (fun x a1 a2 => ?_) (fun k b1 b2 b3 => ?_)⟩
      · by_cases y : x = l
        · rw [y, xs_np (by decide), xs_eq, xs_eq]; exact ⟨rfl, rfl⟩
        · rw [xs_ni y, xs_ni y, xs_ni y, xs_ni y]; exact k2 x a1 (by omega)
      · rw [xs_ni (by omega), xs_ni (by omega), xs_ni (by omega), xs_ni (by omega)]; exact k3 k b1 b2 (by omega)
  · intro de k1 k2 k3
    refine yk_63_11_107 ⟨by omega, fun _ => h de ?_ ⟨?_, fun l a b => k2 l a b, fun i a b => Or.inl ?_⟩ ⟨?_, fun h a b => ?_⟩, fun z => by omega⟩
    · intro p i s
      by_cases h1 : p = 130
      · rw [h1] at s; exact absurd s (by simp [sl])
      · by_cases h2 : p = 131
        · rw [h2] at s; exact absurd s (by simp [sl])
        · rw [k1 p h1 h2, fD p i s]
    · rw [k1 127 (by decide) (by decide), g1 127 (by decide), f3]
    · rw [k1 132 (by decide) (by decide), g1 132 (by decide), f1 132 (by decide) (by decide), b132 i a b]
    · rw [k1 127 (by decide) (by decide), g1 127 (by decide), f2 9 (by decide), b9]
    · rw [k1 133 (by decide) (by decide), g1 133 (by decide), f1 133 (by decide) (by decide), b133 h a b]
  · have x0 : x = 0 := by omega
    rw [x0, g3, g1 130 (by decide), f4 0 (by omega) (by omega)]
    constructor
    · rw [ndL_U tp.1 tp.2.2.2.1]
      refine sI_congr fun j a b => ?_
      have := sh_r (tp.2.2.1 j a b)
      rw [if_neg (show ¬ xi_shl 1 (T j) = 0 by omega), if_neg (show ¬ tb 0 (T j) = true by simp [tb])]
    · rw [bI_congr (g := fun _ => false) (fun q a b => ?_)]
      · have key : ∀ k : Nat, k ≤ 9 → bI (fun _ => false) k = 0 := by decide
        have := key n.toNat (by omega)
        rw [show ((n.toNat : Nat) : Int) = n by omega] at this
        exact this.symm
      · have := tp.2.2.2.2 q a b
        obtain ⟨k, hk⟩ : ∃ k : Nat, tr q = k := ⟨(tr q).toNat, by omega⟩
        rw [hk, show (0 : Int) = ((0 : Nat) : Int) from rfl, bt_and (by omega) (by omega), Nat.and_zero]
        rfl
  · have sr := sh_r ⟨a, b⟩
    rw [g1 130 (by decide), f4 _ (by omega) sr.2, g2 k a b]
    exact ⟨rfl, rfl⟩
end TS9
