/-! THE RULE: the call. -/
section RZ2
variable {R : xR} {b : Int} {L D : Nat} {d : xh_D} {e : xd_E}
theorem Inv_ru {R' : xR} {d' : xh_D} (hI : Inv R b d e) (w : ∀ p, ¬ p = 2 → ¬ p = 111 → ¬ p = 112 → ¬ p = 113 → ¬ p = 114 → ¬ p = 117 → ¬ p = 146 → ¬ p = 153 → d' p = d p) (wm : ∀ i, ¬ i = 5 → ¬ (8 ≤ i ∧ i ≤ 17) → d' 146 i = d 146 i) (hT' : iT d') (hR' : R' (d' 111 6) (d' 112) (d' 146 16) (d' 153)) : Inv R' b d' e := by
  obtain ⟨hP, hT, hW, hL, hS, hU, hK, hR, hQ, hV, hH, hG⟩ := hI
  have w' : ∀ p, (p < 2 ∨ (2 < p ∧ p < 111) ∨ p = 115 ∨ p = 116 ∨ (117 < p ∧ p < 146) ∨ (146 < p ∧ p < 153) ∨ 153 < p) → d' p = d p := fun p h => w p (by omega) (by omega) (by omega) (by omega) (by omega) (by omega) (by omega) (by omega)
  refine ⟨?_, hT', ?_, ?_, ?_, ?_, ?_, hR', ?_, ?_, ?_, ?_⟩
  · unfold iP at hP ⊢; rw [w' 6 (by decide), wm 1 (by decide) (by decide), wm 57 (by decide) (by decide)]; exact hP
  · exact iW_fk hW (by rw [w' 4 (by decide)]) (wm 7 (by decide) (by decide)) (w' 5 (by decide)) (w' 151 (by decide))
  · unfold iL at hL ⊢; rw [w' 6 (by decide), w' 7 (by decide), w' 8 (by decide), w' 148 (by decide), w' 149 (by decide)]; exact hL
  · unfold iS at hS ⊢; rw [w' 6 (by decide), w' 12 (by decide), w' 13 (by decide), w' 14 (by decide), w' 15 (by decide), w' 11 (by decide), w' 147 (by decide)]; exact hS
  · exact iU_c hU (fun p h1 h2 => w' p (by omega)) (by rw [w' 23 (by decide)]) (by rw [w' 23 (by decide)]) (wm 31 (by decide) (by decide)) (by rw [w' 6 (by decide)]) (w' 158 (by decide))
  · exact iK_c hK (fun p h1 h2 => w' p (by omega)) (w' 26 (by decide)) (w' 174 (by decide)) (w' 175 (by decide)) (w' 176 (by decide))
  · unfold iQ at hQ ⊢; rw [w' 127 (by decide), wm 38 (by decide) (by decide), w' 163 (by decide), w' 128 (by decide), w' 129 (by decide)]; exact hQ
  · unfold iV at hV ⊢; rw [w' 136 (by decide), wm 46 (by decide) (by decide), w' 168 (by decide), w' 137 (by decide), w' 138 (by decide), w' 139 (by decide), w' 6 (by decide)]; exact hV
  · unfold iH at hH ⊢; rw [w' 142 (by decide), wm 54 (by decide) (by decide), w' 173 (by decide), w' 143 (by decide), w' 144 (by decide), w' 6 (by decide)]; exact hH
  · unfold iG at hG ⊢; rw [w' 172 (by decide), w' 156 (by decide)]; exact hG
theorem yC_12 {g : Nat} {a : List Value} {P : Int → xh_D → xd_E → Prop} (h : yC D g L a d e (fun x d' e' => P x (xs d' 146 12 (xw (d' 146 12))) e')) : yC D g L a d e P := xC_mono h (fun _ _ _ ⟨z, d1, h1, h2, h3⟩ => ⟨z, _, h1, by
  rw [h2]
  funext p k
  unfold xh_m xs
  by_cases z : p = 146 ∧ (k : Int) = 12
  · rw [if_pos z, xw_J, z.1, z.2]
  · rw [if_neg z], h3⟩)
theorem prc_st {c : Nat → Int} {s s1 : cS} {p j : Nat} (h : prc c j p s = some s1) (h2 : stC s1 (c (p + j)) = none) {q : Nat} (hq : j < q) : prc c q p s = none := by
  rw [show q = j + ((q - j - 1) + 1) by omega, prc_add, h]
  show (stC s1 (c (p + j))).bind _ = none
  rw [h2]
  rfl
/-- the loop of the reading -/
theorem sq_34 {s0 : cS} {lim : Nat} {T : Int → Int} {N : Int} {P : Int → xh_D → xd_E → Prop} (hD : 8 ≤ D) (hlim : lim ≤ 40) (ht : xt_ok d) (hc : ∀ p : Nat, p < lim → xt_at d p = cH T N p) (hr : ∀ p, -1 ≤ cH T N p ∧ cH T N p < 256) (rej : ∀ (j : Nat) s', j < lim → prc (cH T N) j 0 s0 = some s' → stC s' (cH T N j) = none → ∀ d2, rcF d d2 → P j d2 e) (fin : ∀ s', prc (cH T N) lim 0 s0 = some s' → ∀ d2, Sx s' d2 → rcF d d2 → s'.1.length + s'.2.1.length ≤ lim → yB D xm_c34 (yQi L P) L 9 [.ref 111, .ref 2, .int (xJ (lim : Int)), .int (xJ (lim : Int)), .double 0] [] d2 e) : ∀ (k p : Nat) (s : cS) (d1 : xh_D), p + k = lim → prc (cH T N) p 0 s0 = some s → Sx s d1 → rcF d d1 → s.1.length + s.2.1.length ≤ p → yB D xm_c34 (yQi L P) L 9 [.ref 111, .ref 2, .int (xJ (lim : Int)), .int (xJ (p : Int)), .double 0] [] d1 e := by
  intro k
  induction k with
  | zero =>
    intro p s d1 hp hs sx f hb
    have : p = lim := by omega
    subst this
    exact fin s hs d1 sx f hb
  | succ k ih =>
    intro p s d1 hp hs sx f hb
    have c2 : d1 2 = d 2 := f.1 2 (by decide) (by decide) (by decide) (by decide)
    have c3 : d1 3 = d 3 := f.1 3 (by decide) (by decide) (by decide) (by decide)
    have xo : xt_ok d1 := by unfold xt_ok at ht ⊢; rw [c2, c3]; exact ht
    have xa : xt_at d1 p = cH T N p := by rw [← hc p (by omega)]; unfold xt_at; rw [c2, c3]
    have hch := hr p
    have stp : ∀ s', stC s (cH T N p) = some s' → prc (cH T N) (p + 1) 0 s0 = some s' := fun s' h => by
      rw [prc_add, hs]
      show (stC s (cH T N (0 + p))).bind _ = some s'
      rw [Nat.zero_add, h]
      rfl
    have x9 := sx.2.2.2.2.2.2.2.2.1
    refine yk_34_9 (by omega) ?_
    rw [x9, xa]
    refine ⟨by omega, by omega, fun z => by omega, fun _ => ?_⟩
    cases hw : s.2.2.2.2.1
    · refine ⟨by decide, fun _ => ⟨xo, sq_38 (by omega) sx hch hw (by omega) (fun s' d2 e2 sx2 f2 hb2 => ?_) (fun e2 => ?_)⟩, fun z => absurd rfl z⟩
      · exact ih (p + 1) s' d2 (by omega) (stp s' e2) sx2 (rcF_t f f2) (by omega)
      · exact rej p s (by omega) hs e2 d1 f
    · refine ⟨by decide, fun z => absurd z (by decide), fun _ => ⟨xo, sq_36 (by omega) sx hch hw (by omega) (fun s' d2 e2 sx2 f2 hb2 => ?_) (fun e2 => ?_)⟩⟩
      · exact ih (p + 1) s' d2 (by omega) (stp s' e2) sx2 (rcF_t f f2) (by omega)
      · exact rej p s (by omega) hs e2 d1 f
theorem op_rule (hI : Inv iR b d e) : Op iR b b L 107 209 [] d e := by
  have hI0 := hI
  obtain ⟨hP, hT, hW, hL, hS, hU, hK, hR, hQ, hV, hH, hG⟩ := hI
  obtain ⟨t1, t2, t3⟩ := hT
  obtain ⟨N, eN⟩ : ∃ N : Nat, d 2 1 = N := ⟨(d 2 1).toNat, by have := t1.1; omega⟩
  have hN : N ≤ 80 := by have := t1.1; omega
  obtain ⟨T, eT⟩ : ∃ T, T = d 3 := ⟨_, rfl⟩
  have tr : ∀ j, 0 ≤ j → j < (N : Int) → 0 ≤ T j ∧ T j < 256 := fun j x y => by rw [eT]; exact t1.2 j x (by omega)
  obtain ⟨lim, el⟩ : ∃ lim : Nat, lim = min N 40 := ⟨_, rfl⟩
  have cr : ∀ p, -1 ≤ cH T N p ∧ cH T N p < 256 := fun p => by
    unfold cH hcT
    by_cases z : (p : Int) < (N : Int) ∧ (p : Int) < 40
    · rw [if_pos z]; have := tr p (by omega) z.1; omega
    · rw [if_neg z]; decide
  have cE : ∀ p, lim ≤ p → cH T N p = -1 := fun p hp => by
    unfold cH hcT
    rw [if_neg (by omega)]
  have ca : ∀ p : Nat, p < lim → xt_at d p = cH T N p := fun p hp => by
    unfold xt_at cH hcT
    rw [if_pos (by omega), if_pos (by omega), eT]
  -- the state at the beginning
  obtain ⟨s0, es0⟩ : ∃ s0 : cS, s0 = ([], [], 0, 0, true, fun _ => false) := ⟨_, rfl⟩
  have okc := (C_all (c := cH T N) (fun p => (cr p).2) 300).2.2.2.1 0 0 s0 (by rw [es0]) (by rw [es0]; rfl) (by omega) (by rw [es0]; exact Or.inl rfl) (by rw [es0])
  obtain ⟨v, ev, hvb⟩ := (pr_n (c := cH T N) (N := lim) cE 300).2.2.2.1 0 0 [] (by omega) (by omega)
  rw [ev] at okc
  -- the reference, where there is a text
  have ref : ∀ (dx : xh_D) (ex : xd_E) (P : Int → xh_D → xd_E → Prop), 0 < N → (∀ p, ¬ p = 2 → ¬ p = 111 → ¬ p = 112 → ¬ p = 113 → ¬ p = 114 → ¬ p = 117 → dx p = d p) → (∀ x d', (∀ p, ¬ p = 146 → ¬ p = 153 → d' p = dx p) → (∀ i, ¬ i = 5 → ¬ (8 ≤ i ∧ i ≤ 17) → d' 146 i = dx 146 i) → d' 146 5 = 0 → ((∃ q', v = .inl q' ∧ x = -1 - (q' : Int) ∧ d' 153 = dx 153 ∧ d' 146 16 = dx 146 16) ∨ (∃ p' r, v = .inr (p', r) ∧ p' < N ∧ x = -1 - (p' : Int) ∧ d' 153 = dx 153 ∧ d' 146 16 = dx 146 16) ∨ (∃ r, v = .inr (N, r) ∧ N ≤ 40 ∧ x = 0 ∧ (∀ j, 0 ≤ j → j < (N : Int) → d' 153 j = xt_sb (T j)) ∧ d' 146 16 = (N : Int))) → P x d' ex) → yC 150 209 L [.ref 146] dx ex P := by
    intro dx ex P hN0 fx hP'
    have c146 : ∀ i, dx 146 i = d 146 i := fun i => by rw [fx 146 (by decide) (by decide) (by decide) (by decide) (by decide) (by decide)]
    have c150 : dx 150 = d 150 := fx 150 (by decide) (by decide) (by decide) (by decide) (by decide) (by decide)
    refine yC_of rfl rfl rfl (by omega) (yk_209_0 (by omega) ?_)
    rw [c146 5, t2, eN]
    refine ⟨by omega, fun z => by omega, fun _ => ?_⟩
    obtain ⟨dS, eS⟩ : ∃ dS, dS = xs (xs (xs (xs (xs (xs (xs (xs dx 146 8 0) 146 9 150) 146 10 (N : Int)) 146 11 40) 146 12 0) 146 13 (-1)) 146 5 0) 146 17 0 := ⟨_, rfl⟩
    rw [← eS]
    have sp : ∀ p, ¬ p = 146 → dS p = dx p := fun p hp => by rw [eS]; funext i; rw [xs_np hp, xs_np hp, xs_np hp, xs_np hp, xs_np hp, xs_np hp, xs_np hp, xs_np hp]
    have sm' : ∀ i, ¬ i = 5 → ¬ (8 ≤ i ∧ i ≤ 17) → dS 146 i = dx 146 i := fun i h1 h2 => by rw [eS, xs_ni (by omega), xs_ni h1, xs_ni (by omega), xs_ni (by omega), xs_ni (by omega), xs_ni (by omega), xs_ni (by omega), xs_ni (by omega)]
    have q9 : dS 146 9 = 150 := by rw [eS]; simp only [xs_app]; simp
    have q10 : dS 146 10 = (N : Int) := by rw [eS]; simp only [xs_app]; simp
    have q11 : dS 146 11 = 40 := by rw [eS]; simp only [xs_app]; simp
    have q12 : dS 146 12 = 0 := by rw [eS]; simp only [xs_app]; simp
    have q13 : dS 146 13 = -1 := by rw [eS]; simp only [xs_app]; simp
    have q17 : dS 146 17 = 0 := by rw [eS, xs_eq]
    have q5 : dS 146 5 = 0 := by rw [eS, xs_ni (by decide), xs_eq]
    have q16 : dS 146 16 = dx 146 16 := by rw [eS]; simp only [xs_app]; simp
    have rd : rdQ 150 T N 0 dS := ⟨q9, Or.inl ⟨rfl, by omega⟩, q10, q11, q12, q13, by omega, by omega, fun j x y z => ⟨tr j x y, by rw [sp 150 (by decide), c150, t3 j x (by omega), eT]⟩⟩
    refine yC_12 ?_
    refine (M_all (L := L) (q := 150) (T := T) (N := N) (th := fun _ => 0) 300).2.2.2.1 (150 - 1) 0 0 dS ex _ v (by omega) (by omega) rd ⟨fun x _ _ => (show yR 0 by decide), Or.inl ⟨q17, fun _ _ _ => rfl⟩⟩ ev ?_
    -- the end of the reading
    have fin : ∀ (d3 : xh_D) (u : Int), Fr dS d3 → (∀ p, ¬ p = 146 → ¬ p = 153 → xs d3 146 12 u p = dx p) ∧ (∀ i, ¬ i = 5 → ¬ (8 ≤ i ∧ i ≤ 17) → xs d3 146 12 u 146 i = dx 146 i) ∧ xs d3 146 12 u 146 5 = 0 ∧ xs d3 146 12 u 153 = dx 153 ∧ xs d3 146 12 u 146 16 = dx 146 16 := fun d3 u fr => by
      have fp : ∀ p, ¬ p = 146 → d3 p = dx p := fun p hp => by rw [← sp p hp]; funext i; exact fr p i (by omega)
      refine ⟨fun p h1 _ => by rw [xs_fn, if_neg h1, fp p h1], fun i h1 h2 => by rw [xs_ni (by omega), fr 146 i (by omega), sm' i h1 h2], by rw [xs_ni (by decide), fr 146 5 (by decide), q5], by rw [xs_fn, if_neg (by decide), fp 153 (by decide)], by rw [xs_ni (by decide), fr 146 16 (by decide), q16]⟩
    cases v with
    | inl q' =>
      intro x d3 xr fr h13 hq
      obtain ⟨f1, f2, f3, f4, f5⟩ := fin d3 (xw (d3 146 12)) fr
      have u := xw_r (d3 146 12)
      have v13 : xs d3 146 12 (xw (d3 146 12)) 146 13 = (q' : Int) := by rw [xs_ni (by decide), h13]
      rw [xs_eq, v13]
      refine ⟨u, fun _ => ⟨by omega, fun z => by omega, fun _ => hP' _ _ f1 f2 f3 (Or.inl ⟨q', rfl, rfl, f4, f5⟩)⟩, fun _ => ⟨by omega, ?_⟩⟩
      rw [if_neg (by omega)]
      refine ⟨by omega, fun z => by omega, fun _ => hP' _ _ (fun p h1 h2 => by rw [xs_fn, if_neg h1, f1 p h1 h2]) (fun i h1 h2 => by rw [xs_ni (by omega), f2 i h1 h2]) (by rw [xs_ni (by decide), f3]) (Or.inl ⟨q', rfl, rfl, by rw [xs_fn, if_neg (by decide), f4], by rw [xs_ni (by decide), f5]⟩)⟩
    | inr w =>
      obtain ⟨p', r⟩ := w
      intro x d3 xr fr hval hrd
      have h12 := hrd.2.2.2.2.1
      have h13 := hrd.2.2.2.2.2.1
      have h8 := hrd.2.2.2.2.2.2.2.1
      have id12 : xs d3 146 12 (xw (d3 146 12)) = d3 := xs_id (by rw [h12, xw_i (by omega)])
      obtain ⟨f1, f2, f3, f4, f5⟩ := fin d3 (xw (d3 146 12)) fr
      rw [id12] at f1 f2 f3 f4 f5 ⊢
      rw [h12, h13]
      refine ⟨by omega, fun z => ⟨by omega, fun _ => ?_, fun z => absurd rfl z⟩, fun z => ⟨by omega, ?_⟩⟩
      · dsimp only at hvb
        have e1 : p' = N := by omega
        have n40 : N ≤ 40 := by omega
        have hl := lp_up (n := (N : Int)) (X := fun i => yB (150 - 1) xm_c209 (yQi L P) L 42 [.ref 146, .int (xJ (N : Int)), .int (xJ i)] [] (xwr d3 153 i (d3 150)) ex) (by omega) ?_ ?_
        · rw [xwr_0] at hl; exact hl
        · intro i a c ih
          have c1 : xwr d3 153 i (d3 150) 150 = d3 150 := xwr_fn (by decide)
          have d15 : d3 150 i = xt_sb (T i) := (hrd.2.2.2.2.2.2.2.2 i a c (by omega)).2
          have ti := tr i a c
          refine yk_209_42 ?_
          rw [c1]
          refine ⟨by omega, by omega, fun z => by omega, fun _ => ⟨by omega, by omega, by rw [d15]; unfold xt_sb; split <;> omega, ?_⟩⟩
          rw [xwr_s a]
          exact ih
        · refine yk_209_42 ⟨by omega, by omega, fun _ => hP' _ _ (fun p h1 h2 => by rw [xs_fn, if_neg h1, xwr_fn h2, f1 p h1 h2]) (fun i h1 h2 => by rw [xs_ni (by omega), xwr_fn (by decide), f2 i h1 h2]) (by rw [xs_ni (by decide), xwr_fn (by decide), f3]) (Or.inr (Or.inr ⟨r, by rw [e1], n40, rfl, fun j a c => ?_, xs_eq⟩)), fun z => by omega⟩
          rw [xs_np (by decide), xwr_at ⟨a, c⟩]
          exact (hrd.2.2.2.2.2.2.2.2 j a c (by omega)).2
      · rw [if_pos rfl]
        refine ⟨by omega, fun z => by omega, fun _ => hP' _ _ (fun p h1 h2 => by rw [xs_fn, if_neg h1, f1 p h1 h2]) (fun i h1 h2 => by rw [xs_ni (by omega), f2 i h1 h2]) (by rw [xs_ni (by decide), f3]) (Or.inr (Or.inl ⟨p', r, rfl, by omega, rfl, by rw [xs_fn, if_neg (by decide), f4], by rw [xs_ni (by decide), f5]⟩))⟩
  -- a fault
  have failx : ∀ (q : Nat) (d2 : xh_D), 0 < N → rcF d d2 → q ≤ 40 → (v = .inl q ∨ ∃ r, v = .inr (q, r) ∧ q < N) → (fun (x1 : Int) (d2 : xh_D) (e3 : xd_E) => yR x1 ∧ (¬ x1 = -1 → yC 150 209 L [.ref 146] (xs d2 2 1 0) e3 (fun r2 d3 e4 => -1 - x1 = r2 ∧ Inv iR b d3 e4)) ∧ (x1 = -1 → yC 150 209 L [.ref 146] (xs d2 2 1 0) e3 (fun r2 d3 e4 => 0 = r2 ∧ Inv iR b d3 e4))) q d2 e := by
    intro q d2 hN0 f2 hq hv
    refine ⟨by omega, fun _ => ?_, fun z => by omega⟩
    refine ref _ e _ hN0 (fun p h1 h2 h3 h4 h5 h6 => by rw [xs_fn, if_neg h1, f2.1 p h2 h4 h5 h6]) (fun x d3 g1 g2 g3 g4 => ?_)
    have d21 : d3 2 1 = 0 := by rw [g1 2 (by decide) (by decide), xs_eq]
    have same : d3 153 = xs d2 2 1 0 153 → d3 146 16 = xs d2 2 1 0 146 16 → Inv iR b d3 e := fun y1 y2 => by
      refine Inv_ru hI0 (fun p h1 h2 h3 h4 h5 h6 h7 h8 => by rw [g1 p h7 h8, xs_fn, if_neg h1, f2.1 p h2 h4 h5 h6]) (fun i h1 h2 => by rw [g2 i h1 h2, xs_np (by decide), f2.1 146 (by decide) (by decide) (by decide) (by decide)]) (iT_0 d21 g3) ?_
      rw [g1 111 (by decide) (by decide), g1 112 (by decide) (by decide), xs_np (by decide), f2.2 6 (by decide), xs_fn, if_neg (by decide), f2.1 112 (by decide) (by decide) (by decide) (by decide), y2, y1, xs_np (by decide), xs_fn, if_neg (by decide), f2.1 146 (by decide) (by decide) (by decide) (by decide), f2.1 153 (by decide) (by decide) (by decide) (by decide)]
      exact hR
    rcases g4 with ⟨q', y1, y2, y3, y4⟩ | ⟨p', r, y0, y1, y2, y3, y4⟩ | ⟨r, y1, y2, y3, y4⟩
    · rcases hv with hv | ⟨r, hv, _⟩
      · have : q' = q := Sum.inl.inj (y1.symm.trans hv)
        exact ⟨by rw [y2, this], same y3 y4⟩
      · exact absurd (y1.symm.trans hv) (by simp)
    · rcases hv with hv | ⟨r', hv, _⟩
      · exact absurd (y0.symm.trans hv) (by simp)
      · have : (p', r) = (q, r') := Sum.inr.inj (y0.symm.trans hv)
        have e1 : p' = q := congrArg Prod.fst this
        exact ⟨by rw [y2, e1], same y3 y4⟩
    · rcases hv with hv | ⟨r', hv, hq'⟩
      · exact absurd (y1.symm.trans hv) (by simp)
      · have : (N, r) = (q, r') := Sum.inr.inj (y1.symm.trans hv)
        have e1 : N = q := congrArg Prod.fst this
        omega
  -- where it is stuck
  have stuck : ∀ (j : Nat) s1, prc (cH T N) j 0 s0 = some s1 → stC s1 (cH T N j) = none → ∀ (q : Nat) s2, prc (cH T N) q 0 s0 = some s2 → stC s2 (cH T N q) = none → j = q := fun j s1 a1 a2 q s2 b1 b2 => by
    by_cases z : j < q
    · have := prc_st a1 (by rw [Nat.zero_add]; exact a2) z
      rw [this] at b1; exact absurd b1 (by simp)
    · by_cases y : q < j
      · have := prc_st b1 (by rw [Nat.zero_add]; exact b2) y
        rw [this] at a1; exact absurd a1 (by simp)
      · omega
  refine yC_of rfl rfl rfl (by omega) (yk_107_0 ?_)
  refine yC_of rfl rfl rfl (by omega) (yk_34_0 (by omega) ⟨by omega, ?_⟩)
  rw [show min (d 2 1) 40 = (lim : Int) by omega]
  have sx0 : Sx s0 (xs (xs (xs (xs (xs (xs d 111 7 0) 111 8 0) 111 9 0) 111 10 0) 111 11 1) 117 0 0) := by
    rw [es0]
    refine ⟨?_, trivial, ?_, trivial, ?_, ⟨show (0 : Int) ≤ 0 by decide, show (0 : Int) ≤ 4 by decide⟩, ?_, ⟨show (0 : Int) ≤ 0 by decide, show (0 : Int) ≤ 3 by decide⟩, ?_, fun i a c => ?_, fun x hx => by simp at hx⟩
    · simp only [xs_app]; simp
    · simp only [xs_app]; simp
    · simp only [xs_app]; simp
    · simp only [xs_app]; simp
    · simp only [xs_app]; simp
    · have c' : i ≤ 0 := c
      have : i = 0 := by omega
      rw [this, xs_eq]; rfl
  refine sq_34 (s0 := s0) (T := T) (N := N) (lim := lim) (d := d) (by omega) (by omega) t1 ca cr (fun j s' hj a1 a2 d2 f2 => ?_) (fun s1 a1 d2 sx2 f2 hb => ?_) lim 0 s0 _ (by omega) rfl sx0 (rcF_x (rcF_x (rcF_x (rcF_x (rcF_x (rcF_x rcF_r (by omega)) (by omega)) (by omega)) (by omega)) (by omega)) (by omega)) (by rw [es0]; decide)
  · cases v with
    | inl q =>
      obtain ⟨_, s2, b1, b2⟩ := okc
      rw [Nat.sub_zero] at b1
      have := stuck j s' a1 a2 q s2 b1 b2.1
      subst this
      exact failx j d2 (by omega) f2 (by omega) (Or.inl rfl)
    | inr w =>
      obtain ⟨p', r⟩ := w
      obtain ⟨_, s2, b1, b2, b3, b4, b5, b6⟩ := okc
      rw [Nat.sub_zero] at b1
      have := stuck j s' a1 a2 p' s2 b1 (rej_end b3 (cr p').2 b4 b5 b6 (fun _ => rfl))
      subst this
      exact failx j d2 (by omega) f2 (by omega) (Or.inr ⟨r, rfl, by omega⟩)
  · have c2 : d2 2 = d 2 := f2.1 2 (by decide) (by decide) (by decide) (by decide)
    obtain ⟨x1, x2, x3, x4, x5, x6, x7, x8, x9, x10, x11⟩ := sx2
    -- it is taken
    have take : ∀ (r : List Int), pw 0 s1.1 s1.2.1 = (r, []) → (∀ (dx : xh_D), (∀ p, ¬ p = 2 → ¬ p = 111 → ¬ p = 112 → ¬ p = 113 → ¬ p = 114 → ¬ p = 117 → dx p = d p) → dx 2 1 = 0 → dx 111 6 = (r.length : Int) → cR (dx 112) 0 r → yC 150 209 L [.ref 146] dx e (fun r2 d3 e4 => 0 = r2 ∧ Inv iR b d3 e4)) → yB (150 - 1 - 1) xm_c34 (yQi L (fun (x1 : Int) (d2 : xh_D) (e3 : xd_E) => yR x1 ∧ (¬ x1 = -1 → yC 150 209 L [.ref 146] (xs d2 2 1 0) e3 (fun r2 d3 e4 => -1 - x1 = r2 ∧ Inv iR b d3 e4)) ∧ (x1 = -1 → yC 150 209 L [.ref 146] (xs d2 2 1 0) e3 (fun r2 d3 e4 => 0 = r2 ∧ Inv iR b d3 e4)))) L 51 [.ref 111, .double 0, .double 0, .double 0, .double 0] [] d2 e := fun r er hx => by
      have pl := pw_len (k := 0) s1.2.1 s1.1
      rw [er] at pl
      simp only [List.length_nil] at pl
      refine yk_34_51 ?_
      refine yV_of rfl rfl rfl (by omega) (sq_43 (by omega) (by omega) s1.2.1 s1.1 d2 x1 x2 x3 x4 x11 (by omega) (fun d4 g1 g2 g3 g4 g5 g6 g7 g8 => ?_))
      rw [er] at g3 g4
      refine ⟨by decide, fun z => absurd rfl z, fun _ => hx _ (fun p h1 h2 h3 h4 h5 h6 => ?_) xs_eq ?_ ?_⟩
      · rw [xs_fn, if_neg h1, xs_fn, if_neg h2]
        funext i
        rw [show xcp d4 113 112 40 p i = d4 p i from if_neg (fun w => h3 w.1), g1 p h2 h4, f2.1 p h2 h4 h5 h6]
      · rw [xs_np (by decide), xs_eq, g3]
      · refine cR_c r 0 (fun j a c => ?_) g4
        rw [xs_np (by decide), xs_np (by decide)]
        exact if_pos ⟨rfl, by omega, by omega⟩
    refine yk_34_9 (by omega) ?_
    rw [c2, eN, x9, x5]
    refine ⟨by omega, by omega, fun _ => ⟨by omega, fun n40 => ?_, fun n40 => ?_⟩, fun z => by omega⟩
    · have lN : lim = N := by omega
      by_cases hN0 : N = 0
      · -- no text
        have l0 : lim = 0 := by omega
        rw [l0] at a1
        have es1 : s1 = s0 := (Option.some.inj a1).symm
        have g51 := take [] (by rw [es1, es0]; rfl) (fun dx fx h21 h6 _ => by
          have c146 : ∀ i, dx 146 i = d 146 i := fun i => by rw [fx 146 (by decide) (by decide) (by decide) (by decide) (by decide) (by decide)]
          refine yC_of rfl rfl rfl (by omega) (yk_209_0 (by omega) ?_)
          rw [c146 5, t2, eN, hN0]
          refine ⟨by decide, fun _ => yk_209_42 ⟨by decide, by decide, fun _ => ⟨rfl, ?_⟩, fun z => absurd (Int.le_refl _) z⟩, fun z => absurd (Int.le_refl _) z⟩
          refine Inv_ru hI0 (fun p h1 h2 h3 h4 h5 h6 h7 h8 => by rw [xs_fn, if_neg h7, xs_fn, if_neg h7, xs_fn, if_neg h7, xs_fn, if_neg h7, xs_fn, if_neg h7, xs_fn, if_neg h7, xs_fn, if_neg h7, xs_fn, if_neg h7, xs_fn, if_neg h7, fx p h1 h2 h3 h4 h5 h6]) (fun i h1 h2 => by rw [xs_ni (by omega), xs_ni (by omega), xs_ni h1, xs_ni (by omega), xs_ni (by omega), xs_ni (by omega), xs_ni (by omega), xs_ni (by omega), xs_ni (by omega), c146 i]) (iT_0 (by simp only [xs_app]; simp [h21]) (by simp only [xs_app]; simp)) ?_
          rw [xs_eq, xs_np (by decide), xs_np (by decide), xs_np (by decide), xs_np (by decide), xs_np (by decide), xs_np (by decide), xs_np (by decide), xs_np (by decide), xs_np (by decide), h6]
          exact iR_0)
        have g45 := yk_34_45 (D := 150 - 1 - 1) (L := L) (P := fun (x1 : Int) (d2 : xh_D) (e3 : xd_E) => yR x1 ∧ (¬ x1 = -1 → yC 150 209 L [.ref 146] (xs d2 2 1 0) e3 (fun r2 d3 e4 => -1 - x1 = r2 ∧ Inv iR b d3 e4)) ∧ (x1 = -1 → yC 150 209 L [.ref 146] (xs d2 2 1 0) e3 (fun r2 d3 e4 => 0 = r2 ∧ Inv iR b d3 e4))) (d := d2) (e := e) (by rw [c2, eN, hN0]; exact ⟨by decide, fun _ => g51, fun z => absurd (Int.le_refl _) z⟩)
        rw [es1, es0]
        exact ⟨by decide, fun _ => g45, fun z => absurd z (by decide)⟩
      · have g45 : (v = .inl N) → yB (150 - 1 - 1) xm_c34 (yQi L (fun (x1 : Int) (d2 : xh_D) (e3 : xd_E) => yR x1 ∧ (¬ x1 = -1 → yC 150 209 L [.ref 146] (xs d2 2 1 0) e3 (fun r2 d3 e4 => -1 - x1 = r2 ∧ Inv iR b d3 e4)) ∧ (x1 = -1 → yC 150 209 L [.ref 146] (xs d2 2 1 0) e3 (fun r2 d3 e4 => 0 = r2 ∧ Inv iR b d3 e4)))) L 45 [.ref 111, .ref 2, .double 0, .double 0, .double 0] [] d2 e := fun hv => yk_34_45 (by
          rw [c2, eN]
          exact ⟨by omega, fun z => by omega, fun _ => failx N d2 (by omega) f2 (by omega) (Or.inl hv)⟩)
        cases v with
        | inl q =>
          obtain ⟨_, s2, b1, b2⟩ := okc
          rw [Nat.sub_zero] at b1
          have hq : q = lim := by
            by_cases z : q < lim
            · have := prc_st b1 (by rw [Nat.zero_add]; exact b2.1) z
              rw [this] at a1; exact absurd a1 (by simp)
            · dsimp only at hvb; omega
          rw [hq] at b1 b2
          have e1 : s1 = s2 := Option.some.inj (a1.symm.trans b1)
          have rj := b2.2 (cE lim (Nat.le_refl _))
          rw [← e1] at rj
          have gg := g45 (by rw [hq, lN])
          cases hw : s1.2.2.2.2.1
          · rw [hw] at rj
            refine ⟨by decide, fun z => absurd rfl z, fun _ => ⟨by omega, fun z => ?_, fun _ => gg⟩⟩
            rcases rj with w | w
            · exact absurd w (by decide)
            · omega
          · exact ⟨by decide, fun _ => gg, fun z => absurd z (by decide)⟩
        | inr w =>
          obtain ⟨p', r⟩ := w
          obtain ⟨_, s2, b1, b2, b3, b4, b5, b6⟩ := okc
          rw [Nat.sub_zero] at b1
          have hq : p' = lim := by
            by_cases z : p' < lim
            · have := prc_st b1 (by rw [Nat.zero_add]; exact rej_end b3 (cr p').2 b4 b5 b6 (fun _ => rfl)) z
              rw [this] at a1; exact absurd a1 (by simp)
            · dsimp only at hvb; omega
          subst hq
          have e1 : s1 = s2 := Option.some.inj (a1.symm.trans b1)
          rw [← e1] at b3 b6
          obtain ⟨⟨dd, pend, m1, m2, m3, m4⟩, m5, m6, m7, m8⟩ := b3
          have gd := prs_gd (fun p => (cr p).2) 300 3 0 0 [] p' r (fun z => by omega) ev
          have er : pw 0 s1.1 s1.2.1 = (r, []) := by
            rw [m1, m2, es0]
            show pw 0 ([] ++ dd) (pend ++ []) = _
            rw [pw_all (Or.inl rfl) pend _ (fun x hx => ⟨(m4 x hx).1, by have := (m4 x hx).2; omega⟩), List.nil_append, m3]
          have pl := pw_len (k := 0) s1.2.1 s1.1
          rw [er] at pl
          simp only [List.length_nil] at pl
          have r0 : 0 < r.length := by
            obtain ⟨v, _, hv⟩ := gd.1 (fun _ => 0) (fun _ _ _ => (show yR 0 by decide))
            cases r with
            | nil => have := hv []; exact absurd this (by simp [run])
            | cons a l => rw [List.length_cons]; omega
          have g51 := take r er (fun dx fx h21 h6 hcR => ref dx e _ (by omega) fx (fun x d3 g1 g2 g3 g4 => by
            rcases g4 with ⟨q', y1, _⟩ | ⟨p2, r2, y0, y1, _⟩ | ⟨r2, y1, y2, y3, y4, y5⟩
            · exact absurd y1 (by simp)
            · have : (p', r) = (p2, r2) := Sum.inr.inj y0
              have e2 : p' = p2 := congrArg Prod.fst this
              omega
            · have : (p', r) = (N, r2) := Sum.inr.inj y1
              have e2 : p' = N := congrArg Prod.fst this
              refine ⟨y3.symm, Inv_ru hI0 (fun p h1 h2 h3 h4 h5 h6 h7 h8 => by rw [g1 p h7 h8, fx p h1 h2 h3 h4 h5 h6]) (fun i h1 h2 => by rw [g2 i h1 h2, fx 146 (by decide) (by decide) (by decide) (by decide) (by decide) (by decide)]) (iT_0 (by rw [g1 2 (by decide) (by decide), h21]) g3) ?_⟩
              rw [g1 111 (by decide) (by decide), g1 112 (by decide) (by decide), h6, y5]
              exact iR_r gd ⟨r0, by omega⟩ hcR (by omega) (fun j a c => ⟨tr j a c, y4 j a c⟩) (by rw [← e2]; exact e2 ▸ ev)))
          rw [m6, m5]
          exact ⟨by decide, fun z => absurd rfl z, fun _ => ⟨by decide, fun _ => g51, fun z => absurd (Int.le_refl _) z⟩⟩
    · have l40 : lim = 40 := by omega
      refine failx 40 d2 (by omega) f2 (by omega) ?_
      cases v with
      | inl q =>
        obtain ⟨_, s2, b1, b2⟩ := okc
        rw [Nat.sub_zero] at b1
        left
        by_cases z : q < lim
        · have := prc_st b1 (by rw [Nat.zero_add]; exact b2.1) z
          rw [this] at a1; exact absurd a1 (by simp)
        · dsimp only at hvb; rw [show q = 40 by omega]
      | inr w =>
        obtain ⟨p', r⟩ := w
        obtain ⟨_, s2, b1, b2, b3, b4, b5, b6⟩ := okc
        rw [Nat.sub_zero] at b1
        right
        by_cases z : p' < lim
        · have := prc_st b1 (by rw [Nat.zero_add]; exact rej_end b3 (cr p').2 b4 b5 b6 (fun _ => rfl)) z
          rw [this] at a1; exact absurd a1 (by simp)
        · dsimp only at hvb; exact ⟨r, by rw [show p' = 40 by omega], by omega⟩
end RZ2
