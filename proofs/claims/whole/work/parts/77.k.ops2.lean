/-! TASKS: newcomer, needed. -/
section TSB
variable {R : xR} {b : Int} {L D : Nat} {d dx : xh_D} {e e' : xd_E} {m n : Int} {T c tr sk hd : Int → Int} {P : Int → xh_D → xd_E → Prop}
theorem wA_2 {cr : Int → Bool} (hm : 0 ≤ m ∧ m ≤ 6) : 0 ≤ wA m n T c tr cr hd ∧ wA m n T c tr cr hd ≤ 162 := by
  have := wA_r (n := n) (T := T) (c := c) (tr := tr) (cr := cr) (hd := hd) (i := 9) hm (by omega)
  unfold wA
  omega
theorem sI_upd {f : Int → Int} {h v n : Int} (hh : 0 ≤ h ∧ h < n) : sI (fun k => if k = h then v else f k) n = sI f n - f h + v := by
  have key : ∀ k : Nat, sI (fun k => if k = h then v else f k) k = if h < k then sI f k - f h + v else sI f k := fun k => by
    induction k with
    | zero => rw [if_neg (by omega)]; rfl
    | succ k ih =>
      rw [show ((k + 1 : Nat) : Int) = (k : Int) + 1 from rfl, sI_s _ (by omega), sI_s _ (by omega), ih]
      try dsimp only
      by_cases z : (k : Int) = h
      · rw [if_neg (show ¬ h < (k : Int) by omega), if_pos z, if_pos (show h < (k : Int) + 1 by omega), z]; omega
      · by_cases y : h < (k : Int)
        · rw [if_pos y, if_neg z, if_pos (show h < (k : Int) + 1 by omega)]; omega
        · rw [if_neg y, if_neg z, if_neg (show ¬ h < (k : Int) + 1 by omega)]
  have := key n.toNat
  rw [show ((n.toNat : Nat) : Int) = n by omega, if_pos hh.2] at this
  exact this
theorem exU_c {tr' : Int → Int} {U : Int → Bool} {q : Int} (h : tr q = tr' q) : exU m T tr U q = exU m T tr' U q := by
  unfold exU hsB
  rw [h]
theorem exU_0 {U : Int → Bool} {q : Int} (hm : 0 ≤ m) (hT : ∀ j, 0 ≤ j → j < m → 0 ≤ T j ∧ T j < 6) (h : tr q = 0) : exU m T tr U q = false := by
  cases z : exU m T tr U q
  · rfl
  · obtain ⟨j, a, b, _, w⟩ := (exU_t hm).mp z
    rw [hs_tb (by omega) (hT j a b), h] at w
    simp [tb] at w
theorem nw_w {a h k : Int} {see : Int → Bool} (hn : 0 ≤ n) (hh : ∀ q, 0 ≤ q → q < n → sk q = tr q) (ha : sk n = a) : WN m (n + 1) T c sk (fun q => (fun _ => true) q && !decide (upI hd n h q = k)) = if k = h then WN m n T c tr (fun q => (fun _ => true) q && !decide (hd q = k)) else WN m (n + 1) T c (upI tr n a) (fun q => decide (q = n) || ((fun _ => true) q && !decide (hd q = k))) := by
  by_cases z : k = h
  · rw [if_pos z]
    refine WN_c fun U => ?_
    unfold whU
    rw [cI_s _ hn]
    have : (((fun _ => true) n && !decide (upI hd n h n = k)) && exU m T sk U n) = false := by
      rw [upI_app, if_pos rfl, decide_eq_true z.symm]; rfl
    try dsimp only at this ⊢
    rw [this]
    simp only [Bool.false_eq_true, if_false, Int.add_zero]
    refine cI_congr fun q x y => ?_
    rw [upI_app, if_neg (by omega), exU_c (hh q x y)]
  · rw [if_neg z]
    refine WN_cc fun q x y => ?_
    by_cases w : q = n
    · rw [w, upI_app, if_pos rfl, upI_app, if_pos rfl, decide_eq_false (fun u => z u.symm), decide_eq_true rfl]
      exact ⟨rfl, ha⟩
    · rw [upI_app, if_neg w, upI_app, if_neg w, decide_eq_false w, Bool.false_or]
      exact ⟨rfl, hh q x (by omega)⟩
def amF (G : Int → Int) (i : Int) : Int × Int := fI (fun h x => if G h < x.2 then (h, G h) else x) (0, 1000000) i
theorem amF_s {G : Int → Int} {i : Int} (h : 0 ≤ i) : amF G (i + 1) = if G i < (amF G i).2 then (i, G i) else amF G i := fI_s _ _ h
theorem amF_r {G : Int → Int} (hG : ∀ h, 0 ≤ h → h < 9 → -1000 ≤ G h ∧ G h ≤ 1000) {i : Int} (hi : 0 ≤ i ∧ i ≤ 9) : (0 ≤ (amF G i).1 ∧ (amF G i).1 < 9) ∧ (-1000 ≤ (amF G i).2 ∧ (amF G i).2 ≤ 1000000) := by
  refine fI_inv (α := Int × Int) (I := fun (_ : Int) (x : Int × Int) => (0 ≤ x.1 ∧ x.1 < 9) ∧ (-1000 ≤ x.2 ∧ x.2 ≤ 1000000)) (by simp) ?_ hi.1
  intro k x a b h
  have := hG k a (by omega)
  try dsimp only
  split
  · exact ⟨⟨a, by omega⟩, by try dsimp only; omega⟩
  · exact h
theorem op_newcomer {a1 : Int} (r1 : yR a1) (hI : Inv R b d e) : Op R b b L 140 253 [.int (xJ a1)] d e := by
  have tp := tkP_I hI
  have hI0 := hI
  obtain ⟨hP, hT, hW, hL, hS, hU, hK, hR, hQ, hV, hH, hG⟩ := hI
  have p1 := hP.1
  have p2 := hP.2.1
  have no : ¬ (0 ≤ a1 ∧ a1 ≤ 63) → yC 150 253 L [.ref 146, .int (xJ a1)] d e (fun r2 d2 e2 => -1 = r2 ∧ Inv R b d2 e2) := fun z => by
    refine yC_of rfl rfl rfl (by omega) (yk_253_0 (by omega) ⟨r1, fun w => absurd w z, fun _ => ⟨rfl, Inv_fk hI0 (Fk_xs Fk_refl rfl) Ek_refl (iW_fk hW ?_ ?_ ?_ ?_)⟩⟩)
    · rw [xs_np (by decide)]
    · rw [xs_ni (by decide)]
    · rw [xs_fn, if_neg (by decide)]
    · rw [xs_fn, if_neg (by decide)]
  refine yC_of rfl rfl rfl (by omega) (yk_140_0 ⟨r1, fun z => no (by omega), fun z => ⟨fun z2 => ?_, fun z2 => no (by omega)⟩⟩)
  obtain ⟨W1, e1⟩ : ∃ W1 : Int → Int, W1 = fun k => WN (d 127 8) (d 6 4 + 1) (d 128) (d 129) (upI (d 14) (d 6 4) a1) (fun q => decide (q = d 6 4) || ((fun _ => true) q && !decide (d 12 q = k))) := ⟨_, rfl⟩
  obtain ⟨W0, e0⟩ : ∃ W0 : Int → Int, W0 = fun k => WN (d 127 8) (d 6 4) (d 128) (d 129) (d 14) (fun q => (fun _ => true) q && !decide (d 12 q = k)) := ⟨_, rfl⟩
  have r1' : ∀ h, 0 ≤ W1 h ∧ W1 h ≤ 18 := fun h => by rw [e1]; exact WN_18 tp.1
  have r0' : ∀ h, 0 ≤ W0 h ∧ W0 h ≤ 18 := fun h => by rw [e0]; exact WN_18 tp.1
  have rs : 0 ≤ sI W1 9 ∧ sI W1 9 ≤ 162 := by have := sI_b (f := W1) (n := 9) (lo := 0) (hi := 18) (by omega) (fun i _ _ => r1' i); omega
  obtain ⟨G, eG⟩ : ∃ G : Int → Int, G = fun h => sI W1 9 - W1 h + W0 h := ⟨_, rfl⟩
  have hG : ∀ h, 0 ≤ h → h < 9 → -1000 ≤ G h ∧ G h ≤ 1000 := fun h _ _ => by rw [eG]; have := r1' h; have := r0' h; try dsimp only; omega
  have ref : ∀ d3 : xh_D, Fk sr d d3 → d3 4 1 = 1 → d3 5 0 = (amF G 9).2 → yC 150 253 L [.ref 146, .int (xJ a1)] d3 e (fun r2 d2 e2 => (amF G 9).1 = r2 ∧ Inv R b d2 e2) := by
    intro d3 f3 w4 w5
    refine yC_of rfl rfl rfl (by omega) (yk_253_0 (by omega) ⟨r1, fun _ => ?_, fun w => by omega⟩)
    refine sq_ask (by omega) hI0 (dx := xs d3 146 8 0) (fxM_k (Fk_xs f3 rfl)) fun d5 k1 k2 k3 k4 k5 => ?_
    have g5 : Fk sr d d5 := Fk_trans (Fk_xs f3 rfl) (Fk_m k1)
    have c1 : d5 146 1 = d 6 4 := by rw [g5 146 1 rfl, p2]
    rw [c1]
    refine ⟨by omega, ?_⟩
    obtain ⟨dS, eS⟩ : ∃ dS, dS = xs (xs d5 165 (d 6 4) a1) 146 41 (d 6 4 + 1) := ⟨_, rfl⟩
    rw [← eS]
    have gS : Fk sr d dS := by rw [eS]; exact Fk_xs (Fk_xs g5 rfl) rfl
    refine lp_up (n := 9) (X := fun i => ∀ d', (∀ q, ¬ q = 146 → ¬ q = 164 → ¬ q = 166 → d' q = dS q) → (∀ j, ¬ j = 43 → d' 146 j = dS 146 j) → (∀ q, 0 ≤ q → q < d 6 4 → d' 164 q = d 12 q) → yB (150 - 1) xm_c253 (yQi L (fun r2 d2 e2 => (amF G 9).1 = r2 ∧ Inv R b d2 e2)) L 30 [.ref 146, .double 0, .int (xJ (amF G i).1), .int (xJ (amF G i).2), .int (xJ i), .double 0] [] d' e) (by omega) ?_ ?_ dS (fun _ _ _ _ => rfl) (fun _ _ => rfl) (fun q x y => by rw [eS, xs_np (by decide), xs_np (by decide)]; exact (k4.2.2 q x y).1)
    · intro i x y ih d' f1 f2 f3
      have c1' : d' 146 1 = d 6 4 := by rw [f2 1 (by decide), gS 146 1 rfl, p2]
      have am := amF_r hG (i := i) (by omega)
      have kk : askM (d 127 8) (d 6 4 + 1) (d 128) (d 129) (dS 165) (upI (d 12) (d 6 4) i) (xs d' 164 (d 6 4) i) := by
        refine ⟨⟨k4.1.1, ?_, fun j a c => ?_, fun q _ _ => ?_⟩, ?_, fun q a c => ?_⟩
        · rw [xs_np (by decide), f2 38 (by decide), eS, xs_ni (by decide), xs_np (by decide)]; exact k4.1.2.1
        · rw [xs_np (by decide), xs_np (by decide), f1 163 (by decide) (by decide) (by decide), eS, xs_np (by decide), xs_np (by decide), xs_np (by decide), xs_np (by decide)]; exact k4.1.2.2.1 j a c
        · rw [xs_np (by decide), f1 165 (by decide) (by decide) (by decide)]
        · rw [xs_np (by decide), f2 41 (by decide), eS, xs_eq]
        · by_cases v : q = d 6 4
          · rw [v, xs_eq, upI_app, if_pos rfl]; exact ⟨rfl, by omega⟩
          · have := iS_h hS q a (by omega)
            rw [xs_ni v, upI_app, if_neg v, f3 q a (by omega)]; exact ⟨rfl, by omega⟩
      have ev : wA (d 127 8) (d 6 4 + 1) (d 128) (d 129) (dS 165) (fun _ => true) (upI (d 12) (d 6 4) i) = G i := by
        unfold wA
        rw [eG]
        try dsimp only
        rw [← sI_upd ⟨x, y⟩ (f := W1) (v := W0 i)]
        refine sI_congr fun k x' y' => ?_
        have := nw_w (m := d 127 8) (T := d 128) (c := d 129) (tr := d 14) (sk := dS 165) (hd := d 12) (a := a1) (h := i) (k := k) (see := fun _ => true) p1.1 (fun q u v => by rw [eS, xs_np (by decide), xs_ni (by omega)]; exact k5 q u v) (by rw [eS, xs_np (by decide), xs_eq])
        rw [this]
        by_cases v : k = i
        · rw [if_pos v, if_pos v, v, e0]
        · rw [if_neg v, if_neg v, e1]
      have hg := hG i x y
      refine yk_253_30 (by omega) ⟨by omega, fun z => by omega, fun _ => ?_⟩
      rw [c1']
      refine ⟨by omega, sq_244 (by omega) kk (by omega) fun d6 f6 => ?_⟩
      rw [ev]
      have i2 := ih d6 (fun q h1 h2 h3 => by rw [f6.1 q h1 h3, xs_fn, if_neg h2, f1 q h1 h2 h3]) (fun j h => by rw [f6.2 j h, xs_np (by decide), f2 j h]) (fun q h1 h2 => by rw [f6.1 164 (by decide) (by decide), xs_ni (by omega)]; exact f3 q h1 h2)
      rw [amF_s x] at i2
      refine ⟨by omega, by omega, fun z => ?_, fun z => ?_⟩
      · rw [if_pos z] at i2; exact i2
      · rw [if_neg z] at i2; exact i2
    · intro d' f1 f2 f3
      have g6 : Fk sr d d' := fun p i s => by
        by_cases h1 : p = 146
        · rw [h1] at s ⊢
          rw [f2 i (fun w => by rw [w] at s; exact absurd s (by decide))]; exact gS 146 i s
        · by_cases h2 : p = 164
          · rw [h2] at s; exact absurd (show true = false from s) (by decide)
          · by_cases h3 : p = 166
            · rw [h3] at s; exact absurd (show true = false from s) (by decide)
            · rw [f1 p h1 h2 h3]; exact gS p i s
      refine yk_253_30 (by omega) ⟨by omega, fun _ => ⟨rfl, Inv_fk hI0 (Fk_xs (Fk_xs (Fk_xs g6 rfl) rfl) rfl) Ek_refl (iW1 ?_ ?_ ?_)⟩, fun z => by omega⟩
      · rw [xs_np (by decide), xs_np (by decide), xs_np (by decide), f1 4 (by decide) (by decide) (by decide), eS, xs_np (by decide), xs_np (by decide), k3 4 (by decide) (by decide) (by decide), xs_np (by decide), w4]
      · rw [xs_eq]; rfl
      · rw [xs_np (by decide), xs_eq, xs_np (by decide), xs_np (by decide), xs_np (by decide), f1 5 (by decide) (by decide) (by decide), eS, xs_np (by decide), xs_np (by decide), k3 5 (by decide) (by decide) (by decide), xs_np (by decide), w5]
  refine sq_look (by omega) hI0 Fk_refl fun d1 f1 tk1 hc1 => ?_
  refine lp_up (n := 9) (X := fun i => yB (150 - 1) xm_c140 (yQi L (fun r1 d1 e1 => yC 150 253 L [.ref 146, .int (xJ a1)] d1 e1 (fun r2 d2 e2 => r1 = r2 ∧ Inv R b d2 e2))) L 19 [.ref 1, .int (xJ a1), .int (xJ (sI W1 i)), .int (xJ i), .double 0, .double 0, .double 0, .double 0] [] d1 e) (by omega) ?_ ?_
  · intro i x y ih
    refine yk_140_19 (by omega) ⟨by omega, fun z => by omega, fun _ => ⟨by omega, ?_⟩⟩
    rw [see_b p1.2 hc1 ⟨x, y⟩]
    refine sq_66b (by omega) tp tk1 ⟨by omega, z2⟩ ?_
    rw [sI_s _ x, e1] at ih
    rw [e1]
    exact ih
  refine yk_140_19 (by omega) ⟨by omega, fun _ => ?_, fun z => by omega⟩
  refine lp_up (n := 9) (X := fun i => ∀ d' l3 l4, tkC (d 127 8) (d 6 4) (d 128) (d 129) (d 14) d' → (∀ q, ¬ q = 132 → d' q = d1 q) → ((i = 0 ∧ l3 = -1 ∧ l4 = 0) ∨ (1 ≤ i ∧ l3 = (amF G i).1 ∧ l4 = (amF G i).2)) → yB (150 - 1) xm_c140 (yQi L (fun r1 d1 e1 => yC 150 253 L [.ref 146, .int (xJ a1)] d1 e1 (fun r2 d2 e2 => r1 = r2 ∧ Inv R b d2 e2))) L 41 [.ref 1, .int (xJ a1), .int (xJ (sI W1 9)), .int (xJ l3), .int (xJ l4), .int (xJ i), .double 0, .double 0] [] d' e) (by omega) ?_ ?_ d1 (-1) 0 tk1 (fun _ _ => rfl) (Or.inl ⟨rfl, rfl, rfl⟩)
  · intro i x y ih d' l3 l4 tk' f' hl
    have hc' : hdC (d 6 4) (fun _ => true) (d 12) d' := by unfold hdC at hc1 ⊢; rw [f' 127 (by decide), f' 133 (by decide)]; exact hc1
    refine yk_140_41 (by omega) ⟨by omega, fun z => by omega, fun _ => ⟨by omega, fun v3 e3 => ?_⟩⟩
    rw [see_b p1.2 hc' ⟨x, y⟩] at e3
    rw [e3]
    refine sq_66b (by omega) tp tk' ⟨by omega, z2⟩ (sq_65 (by omega) tp tk' fun d2 tk2 f2 => ?_)
    have eg : sI W1 9 - WN (d 127 8) (d 6 4 + 1) (d 128) (d 129) (upI (d 14) (d 6 4) a1) (fun q => decide (q = d 6 4) || ((fun _ => true) q && !decide (d 12 q = i))) + WN (d 127 8) (d 6 4) (d 128) (d 129) (d 14) (fun q => (fun _ => true) q && !decide (d 12 q = i)) = G i := by rw [eG, e1, e0]
    try dsimp only at eg ⊢
    rw [eg]
    have hg := hG i x y
    have am := amF_r hG (i := i) (by omega)
    have ff : ∀ q, ¬ q = 132 → d2 q = d1 q := fun q hq => by rw [f2 q hq, f' q hq]
    rcases hl with ⟨i0, h3, h4⟩ | ⟨i1, h3, h4⟩
    · have a0 : amF G (i + 1) = (i, G i) := by
        rw [amF_s x, if_pos]
        rw [i0]
        show G 0 < 1000000
        rw [i0] at hg
        omega
      refine ⟨by omega, fun _ => ih d2 _ _ tk2 ff (Or.inr ⟨by omega, by rw [a0], by rw [a0]⟩), fun w => absurd h3 w⟩
    · refine ⟨by omega, fun w => by omega, fun _ => ⟨by omega, by omega, fun w => ?_, fun w => ?_⟩⟩
      · refine ih d2 _ _ tk2 ff (Or.inr ⟨by omega, ?_, ?_⟩) <;> rw [amF_s x, if_neg (by omega)] <;> assumption
      · refine ih d2 _ _ tk2 ff (Or.inr ⟨by omega, ?_, ?_⟩) <;> rw [amF_s x, if_pos (by omega)]
  · intro d' l3 l4 tk' f' hl
    rcases hl with w | ⟨_, h3, h4⟩
    · omega
    · refine yk_140_41 (by omega) ⟨by omega, fun _ => ?_, fun z => by omega⟩
      rw [h3, h4]
      exact ref _ (Fk_xs (Fk_xs (Fk_xs (Fk_trans (Fk_x f1) (Fk_132 f')) rfl) rfl) rfl) (by rw [xs_eq]) (by rw [xs_np (by decide), xs_eq])
theorem op_needed (hI : Inv R b d e) : Op R b b L 141 254 [] d e := by
  have tp := tkP_I hI
  have hI0 := hI
  obtain ⟨hP, hT, hW, hL, hS, hU, hK, hR, hQ, hV, hH, hG⟩ := hI
  have p1 := hP.1
  have p2 := hP.2.1
  obtain ⟨w0, e0⟩ : ∃ w0 : Int, w0 = wA (d 127 8) (d 6 4) (d 128) (d 129) (d 14) (fun _ => true) (d 12) := ⟨_, rfl⟩
  obtain ⟨w, ew⟩ : ∃ w : Int → Int, w = fun p => wA (d 127 8) (d 6 4) (d 128) (d 129) (d 14) (fun q => if q = p then !true else true) (d 12) := ⟨_, rfl⟩
  have r0 : 0 ≤ w0 ∧ w0 ≤ 162 := by rw [e0]; exact wA_2 tp.1
  have rw' : ∀ p, 0 ≤ w p ∧ w p ≤ 162 := fun p => by rw [ew]; exact wA_2 tp.1
  have ref : ∀ d3 : xh_D, Fk sr d d3 → iW d3 → yC 150 254 L [.ref 146] d3 e (fun r2 d2 e2 => bI (fun p => decide (w0 < w p)) (d 6 4) = r2 ∧ Inv R b d2 e2) := by
    intro d3 f3 hw
    refine yC_of rfl rfl rfl (by omega) (yk_254_0 ?_)
    refine sq_ask (by omega) hI0 (dx := xs d3 146 8 0) (fxM_k (Fk_xs f3 rfl)) fun d5 k1 k2 k3 k4 k5 => sq_244 (by omega) k4 (by omega) fun d6 f6 => ?_
    have g5 : Fk sr d d5 := Fk_trans (Fk_xs f3 rfl) (Fk_m k1)
    have ev : wA (d 127 8) (d 6 4) (d 128) (d 129) (d5 165) (fun _ => true) (d 12) = w0 := by
      rw [e0]
      unfold wA
      exact sI_congr fun k _ _ => WN_cc fun q x y => ⟨rfl, k5 q x y⟩
    rw [ev]
    refine lp_up (n := d 6 4) (X := fun i => ∀ d', (∀ q, ¬ q = 146 → ¬ q = 165 → ¬ q = 166 → d' q = d5 q) → (∀ j, ¬ j = 43 → d' 146 j = d5 146 j) → (∀ q, 0 ≤ q → q < 10 → d' 165 q = d5 165 q) → yB (150 - 1) xm_c254 (yQi L (fun r2 d2 e2 => bI (fun p => decide (w0 < w p)) (d 6 4) = r2 ∧ Inv R b d2 e2)) L 12 [.ref 146, .int (xJ w0), .int (xJ (bI (fun p => decide (w0 < w p)) i)), .int (xJ i), .double 0] [] d' e) p1.1 ?_ ?_ d6 (fun q h1 _ h3 => f6.1 q h1 h3) f6.2 (fun q _ _ => by rw [f6.1 165 (by decide) (by decide)])
    · intro i x y ih d' f1 f2 f3'
      have c1' : d' 146 1 = d 6 4 := by rw [f2 1 (by decide), g5 146 1 rfl, p2]
      have kk : askM (d 127 8) (d 6 4) (d 128) (d 129) (upI (d5 165) i 0) (d 12) (xs d' 165 i 0) := by
        refine ⟨⟨k4.1.1, ?_, fun j a c => ?_, fun q a c => ?_⟩, ?_, fun q a c => ?_⟩
        · rw [xs_np (by decide), f2 38 (by decide)]; exact k4.1.2.1
        · rw [xs_np (by decide), xs_np (by decide), f1 163 (by decide) (by decide) (by decide)]; exact k4.1.2.2.1 j a c
        · rw [upI_app]
          by_cases v : q = i
          · rw [v, xs_eq, if_pos rfl]
          · rw [xs_ni v, if_neg v]; exact f3' q a c
        · rw [xs_np (by decide), f2 41 (by decide)]; exact k4.2.1
        · rw [xs_np (by decide), f1 164 (by decide) (by decide) (by decide)]; exact k4.2.2 q a c
      have ev : wA (d 127 8) (d 6 4) (d 128) (d 129) (upI (d5 165) i 0) (fun _ => true) (d 12) = w i := by
        rw [ew]
        unfold wA
        refine sI_congr fun k _ _ => WN_c fun U => ?_
        unfold whU
        refine cI_congr fun q x' y' => ?_
        by_cases v : q = i
        · rw [exU_0 (tr := upI (d5 165) i 0) tp.1.1 tp.2.2.1 (by rw [upI_app, if_pos v]), Bool.and_false]
          dsimp only
          rw [if_pos v]
          rfl
        · rw [exU_c (tr := upI (d5 165) i 0) (tr' := d 14) (by rw [upI_app, if_neg v]; exact k5 q x' y')]
          dsimp only
          rw [if_neg v]
      have hr := rw' i
      refine yk_254_12 ?_
      rw [c1']
      refine ⟨by omega, by omega, fun z => by omega, fun _ => ⟨by omega, sq_244 (by omega) kk (by omega) fun d7 f7 => ?_⟩⟩
      rw [ev]
      have i2 := ih (xs d7 165 i (d' 165 i)) (fun q h1 h2 h3 => by rw [xs_fn, if_neg h2, f7.1 q h1 h3, xs_fn, if_neg h2, f1 q h1 h2 h3]) (fun j h => by rw [xs_np (by decide), f7.2 j h, xs_np (by decide), f2 j h]) (fun q h1 h2 => by
        by_cases v : q = i
        · rw [v, xs_eq]; exact f3' i x (by omega)
        · rw [xs_ni v, f7.1 165 (by decide) (by decide), xs_ni v]; exact f3' q h1 h2)
      refine ⟨by omega, by omega, fun z => ?_, fun z => ?_⟩
      · rw [bI_f (by omega) (by simp; omega)]; exact i2
      · rw [bI_t (by omega) (by simp; omega)]; exact i2
    · intro d' f1 f2 f3'
      have c1' : d' 146 1 = d 6 4 := by rw [f2 1 (by decide), g5 146 1 rfl, p2]
      have g6 : Fk sr d d' := fun p i s => by
        by_cases h1 : p = 146
        · rw [h1] at s ⊢
          rw [f2 i (fun w => by rw [w] at s; exact absurd s (by decide))]; exact g5 146 i s
        · by_cases h2 : p = 165
          · rw [h2] at s; exact absurd (show true = false from s) (by decide)
          · by_cases h3 : p = 166
            · rw [h3] at s; exact absurd (show true = false from s) (by decide)
            · rw [f1 p h1 h2 h3]; exact g5 p i s
      refine yk_254_12 ?_
      rw [c1']
      refine ⟨by omega, by omega, fun _ => ⟨rfl, Inv_fk hI0 g6 Ek_refl (iW_fk hw ?_ ?_ ?_ ?_)⟩, fun z => by omega⟩
      · rw [f1 4 (by decide) (by decide) (by decide), k3 4 (by decide) (by decide) (by decide), xs_np (by decide)]
      · rw [f2 7 (by decide), k2 7 (by decide), xs_ni (by decide)]
      · rw [f1 5 (by decide) (by decide) (by decide), k3 5 (by decide) (by decide) (by decide), xs_fn, if_neg (by decide)]
      · rw [f1 151 (by decide) (by decide) (by decide), k3 151 (by decide) (by decide) (by decide), xs_fn, if_neg (by decide)]
  refine yC_of rfl rfl rfl (by omega) (yk_141_0 ?_)
  refine sq_look (by omega) hI0 Fk_refl fun d1 f1 tk1 hc1 => sq_67 (by omega) tp tk1 hc1 fun d2 tk2 f2 => ?_
  rw [← e0]
  have c127 : ∀ (da : xh_D), (∀ p i, sx p i = false → da p i = d p i) → da 6 4 = d 6 4 := fun da h => h 6 4 rfl
  refine lp_up (n := d 6 4) (X := fun i => ∀ d', Fk sx d d' → tkC (d 127 8) (d 6 4) (d 128) (d 129) (d 14) d' → hdC (d 6 4) (fun _ => true) (d 12) d' → yB (150 - 1) xm_c141 (yQi L (fun r1 d1 e1 => yC 150 254 L [.ref 146] d1 e1 (fun r2 d2 e2 => r1 = r2 ∧ Inv R b d2 e2))) L 16 [.ref 1, .int (xJ w0), .int (xJ (bI (fun p => decide (w0 < w p)) i)), .int (xJ i)] [] d' e) p1.1 ?_ ?_ d2 (Fk_trans f1 (fun p i s => by rw [f2 p (fun w => by rw [w] at s; exact absurd (show true = false from s) (by decide))])) tk2 (by unfold hdC at hc1 ⊢; rw [f2 127 (by decide), f2 133 (by decide)]; exact hc1)
  · intro i x y ih d' f' tk' hc'
    have h6 : d' 6 4 = d 6 4 := f' 6 4 rfl
    have hr := rw' i
    refine yk_141_16 ?_
    rw [h6, hc'.1, bI_flip (by omega) ⟨x, y⟩]
    refine ⟨by omega, by omega, fun z => by omega, fun _ => ?_⟩
    refine sq_67 (cr := fun q => if q = i then !true else true) (hd := d 12) (by omega) tp (tkC_c tk' (by rw [xs_ni (by decide)]) (by rw [xs_fn, if_neg (by decide)]) (by rw [xs_fn, if_neg (by decide)]) (by rw [xs_fn, if_neg (by decide)])) ⟨by rw [xs_eq], by rw [xs_fn, if_neg (by decide)]; exact hc'.2⟩ fun d3 tk3 f3 => ?_
    have e9 : d3 127 9 = bI (fun q => if q = i then !true else true) (d 6 4) := by rw [f3 127 (by decide), xs_eq]
    have ev : wA (d 127 8) (d 6 4) (d 128) (d 129) (d 14) (fun q => if q = i then !true else true) (d 12) = w i := by rw [ew]
    rw [ev, e9, bI_flip (by omega) ⟨x, y⟩, bI_congr (f := fun j => if j = i then !(if j = i then !true else true) else if j = i then !true else true) (g := fun _ => true) (fun q _ _ => by by_cases v : q = i <;> simp [v])]
    have i2 := ih (xs d3 127 9 (bI (fun _ => true) (d 6 4))) (fun p j s => by
        by_cases h1 : p = 127
        · rw [h1] at s ⊢
          have : ¬ j = 9 := fun w => by rw [w] at s; exact absurd s (by decide)
          rw [xs_ni this, f3 127 (by decide), xs_ni this]; exact f' 127 j s
        · by_cases h2 : p = 132
          · rw [h2] at s; exact absurd (show true = false from s) (by decide)
          · rw [xs_np h1, f3 p h2, xs_np h1]; exact f' p j s) (tkC_c tk3 (by rw [xs_ni (by decide)]) (by rw [xs_fn, if_neg (by decide)]) (by rw [xs_fn, if_neg (by decide)]) (by rw [xs_fn, if_neg (by decide)])) ⟨by rw [xs_eq], by rw [xs_fn, if_neg (by decide), f3 133 (by decide), xs_fn, if_neg (by decide)]; exact hc'.2⟩
    refine ⟨by omega, by omega, fun z => ?_, fun z => ?_⟩
    · rw [bI_f (by omega) (by simp; omega)]; exact i2
    · rw [bI_t (by omega) (by simp; omega)]; exact i2
  · intro d' f' tk' hc'
    have h6 : d' 6 4 = d 6 4 := f' 6 4 rfl
    refine yk_141_16 ?_
    rw [h6]
    refine ⟨by omega, by omega, fun _ => ref d' (Fk_x f') (iW_fk hW (f' 4 1 rfl) (f' 146 7 rfl) (Fk_p f' (fun _ => rfl)) (Fk_p f' (fun _ => rfl))), fun z => by omega⟩
end TSB
