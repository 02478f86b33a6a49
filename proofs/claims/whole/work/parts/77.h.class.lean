/-! TASKS: the class's tables. -/
def wtd (m : Int) (T : Int → Int) (t : Int) : Bool := decide (0 < cI (fun j => decide (T j = t)) m)
def tkP (m n : Int) (T c tr : Int → Int) : Prop := (0 ≤ m ∧ m ≤ 6) ∧ (0 ≤ n ∧ n ≤ 9) ∧ (∀ j, 0 ≤ j → j < m → 0 ≤ T j ∧ T j < 6) ∧ (∀ j, 0 ≤ j → j < m → 1 ≤ c j ∧ c j ≤ 3) ∧ ∀ q, 0 ≤ q → q < n → 0 ≤ tr q ∧ tr q < 64
def tkC (m n : Int) (T c tr : Int → Int) (d : xh_D) : Prop := d 127 10 = bI (wtd m T) 6 ∧ (∀ l, 0 ≤ l → l < 64 → d 130 l = ndU m T c (tb l) ∧ d 131 l = bI (fun q => !decide (xi_and (tr q) l = 0)) n) ∧ ∀ i, 0 ≤ i → i < 512 → d 132 i = -1 ∨ d 132 i = WN m n T c tr (tb i)
def hdC (n : Int) (cr : Int → Bool) (hd : Int → Int) (d : xh_D) : Prop := d 127 9 = bI cr n ∧ ∀ h, 0 ≤ h → h < 9 → d 133 h = bI (fun q => decide (hd q = h)) n
/-- the wants of the nine days together -/
def wA (m n : Int) (T c tr : Int → Int) (cr : Int → Bool) (hd : Int → Int) : Int := sI (fun h => WN m n T c tr (fun q => cr q && !decide (hd q = h))) 9
section TS8
variable {L D : Nat} {d : xh_D} {e : xd_E} {m n : Int} {T c tr : Int → Int} {see : Int → Bool} {P : Int → xh_D → xd_E → Prop}
theorem wtd_t {t : Int} (hm : 0 ≤ m ∧ m ≤ 6) : wtd m T t = true ↔ ∃ j, 0 ≤ j ∧ j < m ∧ T j = t := by
  unfold wtd
  rw [decide_eq_true_eq, cI_pos hm.1]
  simp only [decide_eq_true_eq]
theorem bI_r6 (f : Int → Bool) : 0 ≤ bI f 6 ∧ bI f 6 < 64 := by
  have := bm_lt (fun k => f k) 6
  unfold bI
  rw [show (6 : Int).toNat = 6 from rfl]
  omega
theorem ndU_18 {U : Int → Bool} : 0 ≤ ndU m T c U ∧ ndU m T c U ≤ 18 := cI_r _ (by omega)
theorem WN_L {n' w : Int} {tr' : Int → Int} {see' : Int → Bool} {wh : Int → Int} (tp : tkP m n T c tr) (hw : ∀ l, 0 ≤ l → l < 64 → sub l (bI (wtd m T) 6) → wh l = whU m n' T tr' see' (tb l)) (h0 : 0 ≤ w) (h1 : ∀ l, 0 ≤ l → l < 64 → sub l (bI (wtd m T) 6) → ndU m T c (tb l) - wh l ≤ w) (h2 : w = 0 ∨ ∃ l, (0 ≤ l ∧ l < 64) ∧ sub l (bI (wtd m T) 6) ∧ w = ndU m T c (tb l) - wh l) : w = WN m n' T c tr' see' := by
  obtain ⟨hm, hn, hT, hc, ht⟩ := tp
  have u := (WN_a (m := m) (n := n') (T := T) (c := c) (tr := tr') (see := see')).2.2 w h0 (fun l a b => by
    have k : ∀ j, 0 ≤ j → j < m → tb l (T j) = tb (bI (fun t => tb l t && wtd m T t) 6) (T j) := fun j a b => by
      rw [tb_r (hT j a b), (wtd_t hm).mpr ⟨j, a, b, rfl⟩, Bool.and_true]
    have r := bI_r6 (fun t => tb l t && wtd m T t)
    have sb : sub (bI (fun t => tb l t && wtd m T t) 6) (bI (wtd m T) 6) := sub_b fun t _ _ h => by rw [Bool.and_eq_true] at h; exact h.2
    rw [ndU_c hm k, whU_c k, ← hw _ r.1 r.2 sb]
    exact h1 _ r.1 r.2 sb)
  have v := WN_a (m := m) (n := n') (T := T) (c := c) (tr := tr') (see := see')
  rcases h2 with z | ⟨l, hl, sb, z⟩
  · omega
  · rw [hw l hl.1 hl.2 sb] at z
    have := v.2.1 l hl.1 hl.2
    omega
theorem sub_j {l : Int} (hm : 0 ≤ m ∧ m ≤ 6) (hl : 0 ≤ l ∧ l < 64) (h : sub l (bI (wtd m T) 6)) : ∀ t, 0 ≤ t → t < 6 → tb l t = true → ∃ j, 0 ≤ j ∧ j < m ∧ T j = t := fun t a b w => by
  have := sub_t hl (bI_r6 _) h w
  rw [tb_r ⟨a, b⟩] at this
  exact (wtd_t hm).mp this
theorem sq_66 {a2 : Int} (hD : 2 ≤ D) (tp : tkP m n T c tr) (tk : tkC m n T c tr d) (ha : 0 ≤ a2 ∧ a2 < 64) (h : ∀ w, 0 ≤ w → (∀ l, 0 ≤ l → l < 64 → sub l (bI (wtd m T) 6) → ndU m T c (tb l) - (cI (fun q => (!decide (xi_and (tr q) l = 0)) && see q) n + if xi_and l a2 = 0 then 0 else 1) ≤ w) → (w = 0 ∨ ∃ l, (0 ≤ l ∧ l < 64) ∧ sub l (bI (wtd m T) 6) ∧ w = ndU m T c (tb l) - (cI (fun q => (!decide (xi_and (tr q) l = 0)) && see q) n + if xi_and l a2 = 0 then 0 else 1)) → P w d e) : yC D 66 L [.ref 127, .int (xJ (bI see n)), .int (xJ a2)] d e P := by
  obtain ⟨hm, hn, hT, hc, ht⟩ := tp
  obtain ⟨t1, t2, t3⟩ := tk
  obtain ⟨W, eW⟩ : ∃ W, W = bI (wtd m T) 6 := ⟨_, rfl⟩
  have hW : 0 ≤ W ∧ W < 64 := by rw [eW]; exact bI_r6 _
  rw [← eW] at h t1
  obtain ⟨wh, ew⟩ : ∃ wh : Int → Int, wh = fun l => cI (fun q => (!decide (xi_and (tr q) l = 0)) && see q) n + if xi_and l a2 = 0 then 0 else 1 := ⟨_, rfl⟩
  have ew' : ∀ l, cI (fun q => (!decide (xi_and (tr q) l = 0)) && see q) n + (if xi_and l a2 = 0 then 0 else 1) = wh l := fun l => by rw [ew]
  have h' : ∀ w, 0 ≤ w → (∀ l, 0 ≤ l → l < 64 → sub l W → ndU m T c (tb l) - wh l ≤ w) → (w = 0 ∨ ∃ l, (0 ≤ l ∧ l < 64) ∧ sub l W ∧ w = ndU m T c (tb l) - wh l) → P w d e := fun w a b c => h w a (fun l x y z => by rw [ew']; exact b l x y z) (by
    rcases c with c | ⟨l, x, y, z⟩
    · exact Or.inl c
    · exact Or.inr ⟨l, x, y, by rw [ew']; exact z⟩)
  have w0 : ∀ l, 0 ≤ wh l ∧ wh l ≤ 10 := fun l => by
    rw [ew]
    have := cI_r (fun q => (!decide (xi_and (tr q) l = 0)) && see q) hn.1
    dsimp only
    split <;> omega
  refine yC_of rfl rfl rfl (by omega) (yk_66_0 ?_)
  rw [t1]
  have key : ∀ (k : Nat) (l3 l4 : Int), l4.toNat ≤ k → (0 ≤ l4 ∧ l4 < 64) → sub l4 W → (0 ≤ l3 ∧ l3 ≤ 18) → (∀ l, 0 ≤ l → l < 64 → sub l W → l4 < l → ndU m T c (tb l) - wh l ≤ l3) → (l3 = 0 ∨ ∃ l, (0 ≤ l ∧ l < 64) ∧ sub l W ∧ l3 = ndU m T c (tb l) - wh l) → yB (D - 1) xm_c66 (yQi L P) L 5 [.ref 127, .int (xJ (bI see n)), .int (xJ a2), .int (xJ l3), .int (xJ l4), .double 0] [] d e := by
    intro k
    induction k with
    | zero =>
      intro l3 l4 hk h4 hs h3 g1 g2
      have z : l4 = 0 := by omega
      refine yk_66_5 (by omega) ⟨by omega, fun _ => h' l3 h3.1 (fun l x y s => ?_) g2, fun w => by omega⟩
      by_cases v : l = 0
      · have nd : ndU m T c (tb l) = 0 := by
          rw [v]
          unfold ndU
          rw [cI_congr (g := fun _ => false) (fun i a b => by simp [tb])]
          decide
        have := (w0 l).1
        omega
      · exact g1 l x y s (by omega)
    | succ k ih =>
      intro l3 l4 hk h4 hs h3 g1 g2
      by_cases z : l4 = 0
      · exact ih l3 l4 (by omega) h4 hs h3 g1 g2
      · have nx := sub_nx ⟨by omega, h4.2⟩ hW hs
        have t4 := t2 l4 h4.1 h4.2
        have nd := ndU_18 (m := m) (T := T) (c := c) (U := tb l4)
        have w4 := w0 l4
        have st : ∀ v, v = wh l4 → yB (D - 1) xm_c66 (yQi L P) L 5 [.ref 127, .int (xJ (bI see n)), .int (xJ a2), .int (xJ (max l3 (ndU m T c (tb l4) - v))), .int (xJ (xi_and (l4 - 1) W)), .double 0] [] d e := fun v ev => by
          rw [ev]
          refine ih _ _ (by omega) ⟨nx.1.1, by omega⟩ nx.2.1 (by omega) (fun l x y s g => ?_) ?_
          · by_cases u : l = l4
            · rw [u]; omega
            · by_cases u2 : l < l4
              · have := nx.2.2 l x y s u2; omega
              · have := g1 l x y s (by omega); omega
          · by_cases u : l3 ≤ ndU m T c (tb l4) - wh l4
            · rw [Int.max_eq_right u]; exact Or.inr ⟨l4, h4, hs, rfl⟩
            · rw [Int.max_eq_left (by omega)]; exact g2
        have bc : xp_bc (xi_and (d 131 l4) (bI see n)) = cI (fun q => (!decide (xi_and (tr q) l4 = 0)) && see q) n := by
          rw [t4.2, bI_and (by omega), bI_bc (by omega)]
        refine yk_66_5 (by omega) ⟨by omega, fun w => by omega, fun _ => ⟨by omega, fun v => ?_, fun v => ?_⟩⟩
        · intro v3 e3
          have e4 : v3 = wh l4 := by rw [e3, bc, ew]; dsimp only; rw [if_pos v]
          rw [t4.1, t1]
          refine ⟨by omega, by omega, fun v6 e6 => ?_⟩
          rw [e6]
          exact st v3 e4
        · intro v3 e3
          have e4 : v3 = wh l4 := by rw [e3, bc, ew]; dsimp only; rw [if_neg v]
          rw [t4.1, t1]
          refine ⟨by omega, by omega, fun v6 e6 => ?_⟩
          rw [e6]
          exact st v3 e4
  refine key 64 0 W (by omega) hW ?_ (by omega) (fun l x y s g => ?_) (Or.inl rfl)
  · rw [eW]; exact sub_b fun _ _ _ h => h
  · exfalso
    have : l ≤ W := by
      have : l = xi_and l W := s.symm
      obtain ⟨a, rfl⟩ : ∃ k : Nat, l = k := ⟨l.toNat, by omega⟩
      obtain ⟨b, rfl⟩ : ∃ k : Nat, W = k := ⟨W.toNat, by omega⟩
      rw [bt_and (by omega) (by omega)] at this
      have := @Nat.and_le_right a b
      omega
    omega
theorem sq_66a (hD : 2 ≤ D) (tp : tkP m n T c tr) (tk : tkC m n T c tr d) (h : P (WN m n T c tr see) d e) : yC D 66 L [.ref 127, .int (xJ (bI see n)), .int (xJ (0 : Int))] d e P := by
  refine sq_66 hD tp tk (by omega) fun w h0 h1 h2 => ?_
  have := WN_L (n' := n) (tr' := tr) (see' := see) tp (wh := fun l => cI (fun q => (!decide (xi_and (tr q) l = 0)) && see q) n + if xi_and l 0 = 0 then 0 else 1) (fun l a b s => ?_) h0 h1 h2
  · rw [this]; exact h
  · have z : xi_and l 0 = 0 := by
      obtain ⟨k, rfl⟩ : ∃ k : Nat, l = k := ⟨l.toNat, by omega⟩
      rw [show (0 : Int) = ((0 : Nat) : Int) from rfl, bt_and (by omega) (by omega), Nat.and_zero]
    rw [if_pos z, Int.add_zero]
    unfold whU
    refine cI_congr fun q a1 a2 => ?_
    rw [whL (tr := tr) tp.1 tp.2.2.1 ⟨a, b⟩ (tp.2.2.2.2 q a1 a2) rfl (sub_j tp.1 ⟨a, b⟩ s), Bool.and_comm]
theorem sq_66b {a2 : Int} (hD : 2 ≤ D) (tp : tkP m n T c tr) (tk : tkC m n T c tr d) (ha : 0 ≤ a2 ∧ a2 < 64) (h : P (WN m (n + 1) T c (upI tr n a2) (fun q => decide (q = n) || see q)) d e) : yC D 66 L [.ref 127, .int (xJ (bI see n)), .int (xJ a2)] d e P := by
  refine sq_66 hD tp tk ha fun w h0 h1 h2 => ?_
  have := WN_L (n' := n + 1) (tr' := upI tr n a2) (see' := fun q => decide (q = n) || see q) tp (wh := fun l => cI (fun q => (!decide (xi_and (tr q) l = 0)) && see q) n + if xi_and l a2 = 0 then 0 else 1) (fun l a b s => ?_) h0 h1 h2
  · rw [this]; exact h
  · skip
    unfold whU
    rw [cI_s _ tp.2.1.1]
    congr 1
    · refine cI_congr fun q q1 q2 => ?_
      have u : upI tr n a2 q = tr q := by rw [upI_app, if_neg (by omega)]
      rw [whL (tr := upI tr n a2) tp.1 tp.2.2.1 ⟨a, b⟩ (by rw [u]; exact tp.2.2.2.2 q q1 q2) u (sub_j tp.1 ⟨a, b⟩ s), Bool.and_comm, show (fun q => decide (q = n) || see q) q = see q by simp only [decide_eq_false (show ¬ q = n by omega), Bool.false_or]]
    · have e1 := whL (tr := upI tr n a2) (q := n) (x := a2) (l := l) tp.1 tp.2.2.1 ⟨a, b⟩ (by rw [upI_app, if_pos rfl]; exact ha) (by rw [upI_app, if_pos rfl]) (sub_j tp.1 ⟨a, b⟩ s)
      rw [← e1, show (fun q => decide (q = n) || see q) n = true by simp, Bool.true_and]
      have cm : xi_and l a2 = xi_and a2 l := by
        obtain ⟨x, rfl⟩ : ∃ k : Nat, l = k := ⟨l.toNat, by omega⟩
        obtain ⟨y, rfl⟩ : ∃ k : Nat, a2 = k := ⟨a2.toNat, by omega⟩
        rw [bt_and (by omega) (by omega), bt_and (by omega) (by omega), Nat.and_comm]
      rw [cm]
      by_cases z : xi_and a2 l = 0 <;> simp [z]
theorem sq_65 (hD : 3 ≤ D) (tp : tkP m n T c tr) (tk : tkC m n T c tr d) (h : ∀ d', tkC m n T c tr d' → (∀ q, ¬ q = 132 → d' q = d q) → P (WN m n T c tr see) d' e) : yC D 65 L [.ref 127, .int (xJ (bI see n))] d e P := by
  have r9 := bI_r9 see (n := n) tp.2.1.2
  have w18 := WN_18 (n := n) (T := T) (c := c) (tr := tr) (see := see) tp.1
  have ww : WN m n T c tr (tb (bI see n)) = WN m n T c tr see := WN_cc fun q a b => ⟨tb_r ⟨a, b⟩, rfl⟩
  have t3 := tk.2.2 (bI see n) r9.1 r9.2
  rw [ww] at t3
  refine yC_of rfl rfl rfl (by omega) (yk_65_0 ⟨by omega, by omega, fun z => ?_, fun z => ?_⟩)
  · rw [show d 132 (bI see n) = WN m n T c tr see by omega]
    exact h d tk (fun _ _ => rfl)
  · refine sq_66a (by omega) tp tk (h _ ⟨?_, fun l a b => ?_, fun i a b => ?_⟩ (fun q hq => by rw [xs_fn, if_neg hq]))
    · rw [xs_np (by decide)]; exact tk.1
    · rw [xs_np (by decide), xs_np (by decide)]; exact tk.2.1 l a b
    · by_cases v : i = bI see n
      · rw [v, xs_eq, ww]; exact Or.inr rfl
      · rw [xs_ni v]; exact tk.2.2 i a b
theorem tkC_c {d' : xh_D} (tk : tkC m n T c tr d) (h1 : d' 127 10 = d 127 10) (h2 : d' 130 = d 130) (h3 : d' 131 = d 131) (h4 : d' 132 = d 132) : tkC m n T c tr d' := by
  unfold tkC at tk ⊢
  rw [h1, h2, h3, h4]
  exact tk
theorem see_b {cr : Int → Bool} {hd : Int → Int} {h : Int} (hn : n ≤ 9) (hc : hdC n cr hd d) (hh : 0 ≤ h ∧ h < 9) : xi_and (d 127 9) (xi_xor (d 133 h) (-1)) = bI (fun q => cr q && !decide (hd q = h)) n := by
  rw [hc.1, hc.2 h hh.1 hh.2, bI_andn (by omega)]
theorem wA_r {cr : Int → Bool} {hd : Int → Int} {i : Int} (hm : 0 ≤ m ∧ m ≤ 6) (hi : 0 ≤ i) : 0 ≤ sI (fun h => WN m n T c tr (fun q => cr q && !decide (hd q = h))) i ∧ sI (fun h => WN m n T c tr (fun q => cr q && !decide (hd q = h))) i ≤ 18 * i := by
  have := sI_b (f := fun h => WN m n T c tr (fun q => cr q && !decide (hd q = h))) (n := i) (lo := 0) (hi := 18) hi (fun i _ _ => WN_18 hm)
  omega
theorem sq_67 {cr : Int → Bool} {hd : Int → Int} (hD : 5 ≤ D) (tp : tkP m n T c tr) (tk : tkC m n T c tr d) (hc : hdC n cr hd d) (h : ∀ d', tkC m n T c tr d' → (∀ q, ¬ q = 132 → d' q = d q) → P (wA m n T c tr cr hd) d' e) : yC D 67 L [.ref 127] d e P := by
  refine yC_of rfl rfl rfl (by omega) (yk_67_0 ?_)
  refine lp_up (n := 9) (X := fun i => ∀ d', tkC m n T c tr d' → (∀ q, ¬ q = 132 → d' q = d q) → yB (D - 1) xm_c67 (yQi L P) L 4 [.ref 127, .int (xJ (sI (fun h => WN m n T c tr (fun q => cr q && !decide (hd q = h))) i)), .int (xJ i)] [] d' e) (by omega) ?_ ?_ d tk (fun _ _ => rfl)
  · intro i a b ih d' tk' f'
    have hc' : hdC n cr hd d' := by unfold hdC at hc ⊢; rw [f' 127 (by decide), f' 133 (by decide)]; exact hc
    refine yk_67_4 (by omega) ⟨by omega, fun z => by omega, fun _ => ⟨by omega, ?_⟩⟩
    rw [see_b tp.2.1.2 hc' ⟨a, b⟩]
    refine sq_65 (by omega) tp tk' fun d2 tk2 f2 => ?_
    rw [← sI_s (fun h => WN m n T c tr (fun q => cr q && !decide (hd q = h))) a]
    exact ih d2 tk2 (fun q hq => by rw [f2 q hq, f' q hq])
  · intro d' tk' f'
    exact yk_67_4 (by omega) ⟨by omega, fun _ => h d' tk' f', fun z => by omega⟩
theorem sq_68 {cr : Int → Bool} {hd : Int → Int} {P1 P0 : xh_D → xd_E → Prop} (hD : 5 ≤ D) (tp : tkP m n T c tr) (tk : tkC m n T c tr d) (hc : hdC n cr hd d) (h1 : wA m n T c tr cr hd = 0 → ∀ d', tkC m n T c tr d' → (∀ q, ¬ q = 132 → d' q = d q) → P1 d' e) (h0 : ¬ wA m n T c tr cr hd = 0 → ∀ d', tkC m n T c tr d' → (∀ q, ¬ q = 132 → d' q = d q) → P0 d' e) : yZ D 68 L [.ref 127] d e P1 P0 := by
  refine yZ_of rfl rfl rfl (by omega) (yk_68_0 ?_)
  refine lp_up (n := 9) (X := fun i => ∀ d', sI (fun h => WN m n T c tr (fun q => cr q && !decide (hd q = h))) i = 0 → tkC m n T c tr d' → (∀ q, ¬ q = 132 → d' q = d q) → yB (D - 1) xm_c68 (yQz L P1 P0) L 2 [.ref 127, .int (xJ i)] [] d' e) (by omega) ?_ ?_ d rfl tk (fun _ _ => rfl)
  · intro i a b ih d' s0 tk' f'
    have hc' : hdC n cr hd d' := by unfold hdC at hc ⊢; rw [f' 127 (by decide), f' 133 (by decide)]; exact hc
    have w18 := WN_18 (n := n) (T := T) (c := c) (tr := tr) (see := fun q => cr q && !decide (hd q = i)) tp.1
    refine yk_68_2 (by omega) ⟨by omega, fun z => by omega, fun _ => ⟨by omega, ?_⟩⟩
    rw [see_b tp.2.1.2 hc' ⟨a, b⟩]
    refine sq_65 (by omega) tp tk' fun d2 tk2 f2 => ⟨by omega, fun z => ?_, fun z => ?_⟩
    · refine ih d2 ?_ tk2 (fun q hq => by rw [f2 q hq, f' q hq])
      rw [sI_s _ a, s0]
      omega
    · refine h0 (fun w => ?_) d2 tk2 (fun q hq => by rw [f2 q hq, f' q hq])
      have st := sI_s (fun h => WN m n T c tr (fun q => cr q && !decide (hd q = h))) a
      have mo : sI (fun h => WN m n T c tr (fun q => cr q && !decide (hd q = h))) (i + 1) ≤ wA m n T c tr cr hd := by
        refine lp_from (m := i + 1) (n := 9) (X := fun k => sI (fun h => WN m n T c tr (fun q => cr q && !decide (hd q = h))) k ≤ wA m n T c tr cr hd) (by omega) (fun k a1 a2 h => ?_) (Int.le_refl _)
        rw [sI_s _ (by omega)] at h
        have w9 := WN_18 (n := n) (T := T) (c := c) (tr := tr) (see := fun q => cr q && !decide (hd q = k)) tp.1
        omega
      omega
  · intro d' s0 tk' f'
    exact yk_68_2 (by omega) ⟨by omega, fun _ => h1 s0 d' tk' f', fun z => by omega⟩
end TS8
