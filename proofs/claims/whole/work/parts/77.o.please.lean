/-! TASKS: please. -/
section TSF
variable {R : xR} {b : Int} {L D : Nat} {d dx : xh_D} {e e' : xd_E} {m n : Int} {T c tr sk hd H : Int → Int}
theorem hdC_bk {cr : Int → Bool} {p own h : Int} (hn : n ≤ 9) (hp : 0 ≤ p ∧ p < n) (ho : 0 ≤ own ∧ own < 9) (hh : 0 ≤ h ∧ h < 9) (hc : hdC n cr (upI hd p h) d) (e0 : hd p = own) : hdC n cr hd (xs (xs d 133 h (xi_xor (d 133 h) (xi_shl 1 p))) 133 own (xi_xor (xs d 133 h (xi_xor (d 133 h) (xi_shl 1 p)) 133 own) (xi_shl 1 p))) := by
  have := hdC_mv hn (own := h) (h := own) hp hh ho hc (by rw [upI_app, if_pos rfl]) rfl rfl
  refine hdC_c this rfl rfl (fun q c1 c2 => ?_)
  rw [upI_app]
  by_cases v : q = p
  · rw [if_pos v, v, e0]
  · rw [if_neg v, upI_app, if_neg v]
/-- how many wishes are met -/
def mtN (A B S : Int → Int) (k : Int) (hd : Int → Int) : Int := cI (wm hd A B S) k
def psF (mt W : (Int → Int) → Int) (H : Int → Int) (w0 p h : Int) (x : Int × Int × Int) : Int × Int × Int := if x.1 < mt (upI H p h) ∧ W (upI H p h) ≤ w0 then (mt (upI H p h), p, h) else x
def psI (mt W : (Int → Int) → Int) (H : Int → Int) (w0 p : Int) (x : Int × Int × Int) (i : Int) : Int × Int × Int := fI (psF mt W H w0 p) x i
def psA (mt W : (Int → Int) → Int) (H : Int → Int) (w0 i : Int) : Int × Int × Int := fI (fun p x => psI mt W H w0 p x 9) (mt H, -1, -1) i
theorem psI_s {mt W : (Int → Int) → Int} {w0 p i : Int} {x : Int × Int × Int} (h : 0 ≤ i) : psI mt W H w0 p x (i + 1) = psF mt W H w0 p i (psI mt W H w0 p x i) := fI_s _ _ h
theorem psA_s {mt W : (Int → Int) → Int} {w0 i : Int} (h : 0 ≤ i) : psA mt W H w0 (i + 1) = psI mt W H w0 i (psA mt W H w0 i) 9 := fI_s _ _ h
theorem psI_r {mt W : (Int → Int) → Int} {w0 p i : Int} {x : Int × Int × Int} (hm : ∀ hd, 0 ≤ mt hd ∧ mt hd ≤ 12) (hx : 0 ≤ x.1 ∧ x.1 ≤ 12) (hi : 0 ≤ i) : 0 ≤ (psI mt W H w0 p x i).1 ∧ (psI mt W H w0 p x i).1 ≤ 12 := by
  refine fI_inv (α := Int × Int × Int) (I := fun (_ : Int) (x : Int × Int × Int) => 0 ≤ x.1 ∧ x.1 ≤ 12) hx ?_ hi
  intro k x a b h
  unfold psF
  split
  · exact hm _
  · exact h
theorem psA_r {mt W : (Int → Int) → Int} {w0 i : Int} (hm : ∀ hd, 0 ≤ mt hd ∧ mt hd ≤ 12) (hi : 0 ≤ i) : 0 ≤ (psA mt W H w0 i).1 ∧ (psA mt W H w0 i).1 ≤ 12 := by
  refine fI_inv (α := Int × Int × Int) (I := fun (_ : Int) (x : Int × Int × Int) => 0 ≤ x.1 ∧ x.1 ≤ 12) (hm H) ?_ hi
  intro k x a b h
  exact psI_r hm h (by omega)
theorem op_please (hI : Inv R b d e) : Op R b b L 147 261 [] d e := by
  have tp := tkP_I hI
  have hI0 := hI
  obtain ⟨hP, hT, hW, hL, hS, hU, hK, hR, hQ, hV, hH, hG⟩ := hI
  have p1 := hP.1
  have p2 := hP.2.1
  have v1 := hV.1
  have hH := iS_h hS
  obtain ⟨W, eW⟩ : ∃ W : (Int → Int) → Int, W = fun hd => wA (d 127 8) (d 6 4) (d 128) (d 129) (d 14) (fun _ => true) hd := ⟨_, rfl⟩
  have eW' : ∀ hd, wA (d 127 8) (d 6 4) (d 128) (d 129) (d 14) (fun _ => true) hd = W hd := fun hd => by rw [eW]
  have wr : ∀ hd, 0 ≤ W hd ∧ W hd ≤ 162 := fun hd => by rw [eW]; exact wA_2 tp.1
  obtain ⟨mt, em⟩ : ∃ mt : (Int → Int) → Int, mt = mtN (d 137) (d 138) (d 139) (d 136 5) := ⟨_, rfl⟩
  have mr : ∀ hd, 0 ≤ mt hd ∧ mt hd ≤ 12 := fun hd => by rw [em]; unfold mtN; have := cI_r (wm hd (d 137) (d 138) (d 139)) v1.1; omega
  have mbc : ∀ hd, xp_bc (bI (wm hd (d 137) (d 138) (d 139)) (d 136 5)) = mt hd := fun hd => by rw [em, bI_bc v1.2]; rfl
  have wmc : ∀ hd hd' : Int → Int, (∀ q, 0 ≤ q → q < d 6 4 → hd q = hd' q) → bI (wm hd (d 137) (d 138) (d 139)) (d 136 5) = bI (wm hd' (d 137) (d 138) (d 139)) (d 136 5) := fun hd hd' h => bI_congr fun i a c => by
    have := hV.2.2 i a c
    unfold wm
    rw [h _ this.2.2.2.1.1 this.2.2.2.1.2, h _ this.2.2.2.2.1.1 this.2.2.2.2.1.2]
  obtain ⟨w0, e0⟩ : ∃ w0, w0 = W (d 12) := ⟨_, rfl⟩
  have r0 : 0 ≤ w0 ∧ w0 ≤ 162 := by rw [e0]; exact wr _
  have ref : ∀ (d3 : xh_D) (e3 : xd_E), Fk sr d d3 → Ek e e3 → d3 4 1 = 2 → d3 5 0 = (psA mt W (d 12) w0 (d 6 4)).2.2 → d3 5 1 = (psA mt W (d 12) w0 (d 6 4)).1 → yC 150 261 L [.ref 146] d3 e3 (fun r2 d2 e2 => (psA mt W (d 12) w0 (d 6 4)).2.1 = r2 ∧ Inv R b d2 e2) := by
    intro d3 e3 f3 ke w4 w5 w51
    refine yC_of rfl rfl rfl (by omega) (yk_261_0 (by omega) ?_)
    refine sq_ask (by omega) hI0 (dx := xs d3 146 8 0) (fxM_k (Fk_xs f3 rfl)) fun d5 k1 k2 k3 k4 k5 => sq_244 (by omega) k4 (by omega) fun d6 f6 => ?_
    have g5 : Fk sr d d5 := Fk_trans (Fk_xs f3 rfl) (Fk_m k1)
    have sk2 : ∀ d7, mdG d5 d7 → Fk sr d d7 := fun d7 f7 => Fk_trans g5 (Fk_m (fun p i s => by
      by_cases h1 : p = 146
      · rw [h1] at s ⊢
        exact f7.2 i (fun w => by rw [w] at s; exact absurd s (by decide))
      · by_cases w : p = 164 ∨ p = 166 ∨ p = 167
        · rcases w with rfl | rfl | rfl <;> exact absurd (show true = false from s) (by decide)
        · rw [f7.1 p h1 (by omega) (by omega) (by omega)]))
    have ev : ∀ hd, wA (d 127 8) (d 6 4) (d 128) (d 129) (d5 165) (fun _ => true) hd = W hd := fun hd => by rw [wA_tr k5, eW']
    have g6 : Fk sr d d6 := sk2 d6 (mdG_p f6)
    have s168 : ∀ d7, mdG d5 d7 → d7 168 = d 168 := fun d7 f7 => Fk_p (sk2 d7 f7) (fun _ => rfl)
    have s46 : ∀ d7, mdG d5 d7 → d7 146 46 = d 146 46 := fun d7 f7 => sk2 d7 f7 146 46 rfl
    have m147 : ∀ d7, mdG d5 d7 → d7 147 = d 147 := fun d7 f7 => Fk_p (sk2 d7 f7) (fun _ => rfl)
    have m1 : ∀ d7, mdG d5 d7 → d7 146 1 = d 6 4 := fun d7 f7 => by rw [sk2 d7 f7 146 1 rfl, p2]
    have v46 : 0 ≤ d 146 46 ∧ d 146 46 ≤ 12 := by rw [hV.2.1]; exact v1
    rw [ev, ← e0]
    refine sq_259_147 (by omega) (by rw [s46 d6 (mdG_p f6)]; exact v46) (by rw [s46 d6 (mdG_p f6), s168 d6 (mdG_p f6), m147 d6 (mdG_p f6)]; exact iV_m hP hV hS) ?_
    rw [s46 d6 (mdG_p f6), s168 d6 (mdG_p f6), m147 d6 (mdG_p f6), iV_eq hV (h := d 12) (fun p a c => (hS.1 p a c).2.2.2.1), mbc]
    refine lp_up (n := d 6 4) (X := fun p => ∀ d7, mdG d5 d7 → (∀ r, 0 ≤ r → r < d 6 4 → d7 164 r = d 12 r) → yB (150 - 1) xm_c261 (yQi L (fun r2 d2 e2 => (psA mt W (d 12) w0 (d 6 4)).2.1 = r2 ∧ Inv R b d2 e2)) L 20 [.ref 146, .int (xJ w0), .int (xJ (psA mt W (d 12) w0 p).2.1), .int (xJ (psA mt W (d 12) w0 p).2.2), .int (xJ (psA mt W (d 12) w0 p).1), .int (xJ p), .double 0, .double 0] [] d7 e3) p1.1 ?_ ?_ d6 (mdG_p f6) (fun r x y => by rw [f6.1 164 (by decide) (by decide)]; exact (k4.2.2 r x y).1)
    · intro p a1 a2 ihp d7 f7 h7
      refine yk_261_20 (by omega) ?_
      rw [m1 d7 f7]
      refine ⟨by omega, by omega, fun z => by omega, fun _ => ?_⟩
      have ar := psA_r (mt := mt) (W := W) (H := d 12) (w0 := w0) mr a1
      rw [psA_s a1] at ihp
      generalize psA mt W (d 12) w0 p = x0 at ihp ar ⊢
      refine lp_up (n := 9) (X := fun h => ∀ d7, mdG d5 d7 → (∀ r, 0 ≤ r → r < d 6 4 → ¬ r = p → d7 164 r = d 12 r) → yB (150 - 1) xm_c261 (yQi L (fun r2 d2 e2 => (psA mt W (d 12) w0 (d 6 4)).2.1 = r2 ∧ Inv R b d2 e2)) L 26 [.ref 146, .int (xJ w0), .int (xJ (psI mt W (d 12) w0 p x0 h).2.1), .int (xJ (psI mt W (d 12) w0 p x0 h).2.2), .int (xJ (psI mt W (d 12) w0 p x0 h).1), .int (xJ p), .int (xJ h), .double 0] [] d7 e3) (by omega) ?_ ?_ d7 f7 (fun r x y _ => h7 r x y)
      · intro h b1 b2 ihh d7 f7 h7
        have f8 : mdG d5 (xs d7 164 p h) := mdG_x f7
        have h8 : ∀ r, 0 ≤ r → r < d 6 4 → xs d7 164 p h 164 r = upI (d 12) p h r := fun r u v => by
          rw [upI_app]
          by_cases w : r = p
          · rw [w, xs_eq, if_pos rfl]
          · rw [xs_ni w, if_neg w, h7 r u v w]
        have rr : ∀ r, 0 ≤ r → r < d 6 4 → yR (upI (d 12) p h r) := fun r u v => by rw [upI_app]; have := hH r u v; split <;> omega
        have kk : askM (d 127 8) (d 6 4) (d 128) (d 129) (d5 165) (upI (d 12) p h) (xs d7 164 p h) := askM_h k4 f8 (fun r u v => ⟨h8 r u v, rr r u v⟩)
        have ir := psI_r (W := W) (H := d 12) (w0 := w0) (p := p) (x := x0) mr ar b1
        have mm := mr (upI (d 12) p h)
        have ww := wr (upI (d 12) p h)
        rw [psI_s b1] at ihh
        generalize psI mt W (d 12) w0 p x0 h = x1 at ihh ir ⊢
        refine yk_261_26 (by omega) ⟨by omega, fun z => by omega, fun _ => ⟨by omega, ?_⟩⟩
        refine sq_259_164 (by omega) (by rw [s46 _ f8]; exact v46) (fun i a c => ?_) ?_
        · rw [s46 _ f8] at c
          rw [s168 _ f8]
          have t := iV_m hP hV hS i a c
          have u := hV.2.2 i a (by rw [← hV.2.1]; exact c)
          rw [h8 _ (by rw [u.1]; exact u.2.2.2.1.1) (by rw [u.1]; exact u.2.2.2.1.2), h8 _ (by rw [u.2.1]; exact u.2.2.2.2.1.1) (by rw [u.2.1]; exact u.2.2.2.2.1.2)]
          exact ⟨t.1, t.2.1, t.2.2.1, rr _ (by rw [u.1]; exact u.2.2.2.1.1) (by rw [u.1]; exact u.2.2.2.1.2), rr _ (by rw [u.2.1]; exact u.2.2.2.2.1.1) (by rw [u.2.1]; exact u.2.2.2.2.1.2)⟩
        · rw [s46 _ f8, s168 _ f8, iV_eq hV h8, mbc]
          unfold psF at ihh
          refine ⟨by omega, fun z => ?_, fun z => ?_⟩
          · rw [if_neg (by omega)] at ihh
            exact ihh _ f8 (fun r u v w => by rw [xs_ni w, h7 r u v w])
          · refine sq_244 (by omega) kk (by omega) fun d9 f9 => ?_
            rw [ev]
            have h9 : ∀ r, 0 ≤ r → r < d 6 4 → ¬ r = p → d9 164 r = d 12 r := fun r u v w => by rw [f9.1 164 (by decide) (by decide), xs_ni w, h7 r u v w]
            refine ⟨by omega, by omega, fun y => ?_, fun y => ?_⟩
            · rw [if_pos ⟨by omega, y⟩] at ihh
              exact ihh d9 (mdG_t f8 (mdG_p f9)) h9
            · rw [if_neg (fun w => y w.2)] at ihh
              exact ihh d9 (mdG_t f8 (mdG_p f9)) h9
      · intro d7 f7 h7
        refine yk_261_26 (by omega) ⟨by omega, fun _ => ⟨by omega, by omega, ihp _ (mdG_x f7) (fun r u v => ?_)⟩, fun z => by omega⟩
        by_cases w : r = p
        · rw [w, xs_eq, m147 d7 f7, (hS.1 p a1 a2).2.2.2.1]
        · rw [xs_ni w, h7 r u v w]
    · intro d7 f7 h7
      refine yk_261_20 (by omega) ?_
      rw [m1 d7 f7]
      have q4 : d7 4 = d3 4 := by rw [f7.1 4 (by decide) (by decide) (by decide) (by decide), k3 4 (by decide) (by decide) (by decide), xs_fn, if_neg (by decide)]
      have q5 : d7 5 = d3 5 := by rw [f7.1 5 (by decide) (by decide) (by decide) (by decide), k3 5 (by decide) (by decide) (by decide), xs_fn, if_neg (by decide)]
      refine ⟨by omega, by omega, fun _ => ⟨rfl, Inv_fk hI0 (Fk_xs (Fk_xs (Fk_xs (Fk_xs (Fk_xs (sk2 d7 f7) rfl) rfl) rfl) rfl) rfl) ke (iW2 ?_ ?_ ?_ ?_)⟩, fun z => by omega⟩
      · rw [xs_np (by decide), xs_np (by decide), xs_np (by decide), xs_np (by decide), xs_np (by decide), q4, w4]
      · rw [xs_eq]; rfl
      · rw [xs_np (by decide), xs_ni (by decide), xs_np (by decide), xs_eq, xs_np (by decide), xs_np (by decide), xs_np (by decide), xs_np (by decide), xs_np (by decide), q5, w5]
      · rw [xs_np (by decide), show (0 + 1 : Int) = 1 from rfl, xs_eq, xs_np (by decide), xs_np (by decide), xs_np (by decide), xs_np (by decide), xs_np (by decide), q5, w51]
  refine yC_of rfl rfl rfl (by omega) (yk_147_0 (by omega) ?_)
  refine sc_50 rfl rfl (by decide) (by omega) (fun d1 e1 x => ?_)
  have z1 : ∀ p, (p < 17 ∨ 21 < p) → d1 p = d p := fun p h => x.1 p (by omega)
  have ke : Ek e e1 := fun p h1 _ => x.2.1 p (by omega)
  have f1 : Fk sr d d1 := fun p i s => by
    by_cases h : p < 17 ∨ 21 < p
    · rw [z1 p h]
    · have : p = 17 ∨ p = 18 ∨ p = 19 ∨ p = 20 ∨ p = 21 := by omega
      rcases this with rfl | rfl | rfl | rfl | rfl <;> exact absurd (show true = false from s) (by decide)
  rw [show d1 6 4 = d 6 4 from f1 6 4 rfl]
  refine sq_lookl (by omega) hI0 f1 fun d2 f2 tk2 hc2 => sq_67 (by omega) tp tk2 hc2 fun d3 tk3 f3 => ?_
  have f18 : d3 18 = d1 18 := by
    rw [f3 18 (by decide)]
    exact Fk_p f2 (fun _ => rfl)
  have g3 : Fk sr d d3 := Fk_trans (Fk_trans f1 (Fk_x (sl_x f2))) (Fk_132 f3)
  have hc3 : hdC (d 6 4) (fun _ => true) (d 12) d3 := hdC_c hc2 (by rw [f3 127 (by decide)]) (f3 133 (by decide)) (fun _ _ _ => rfl)
  have c136 : ∀ d', Fk sr d d' → d' 136 = d 136 := fun d' f => Fk_p f (fun _ => rfl)
  have c137 : ∀ d', Fk sr d d' → d' 137 = d 137 := fun d' f => Fk_p f (fun _ => rfl)
  have c138 : ∀ d', Fk sr d d' → d' 138 = d 138 := fun d' f => Fk_p f (fun _ => rfl)
  have c139 : ∀ d', Fk sr d d' → d' 139 = d 139 := fun d' f => Fk_p f (fun _ => rfl)
  have c12 : ∀ d', Fk sr d d' → d' 12 = d 12 := fun d' f => Fk_p f (fun _ => rfl)
  rw [eW', ← e0]
  refine sq_90_12 (by omega) (by rw [c136 d3 g3]; exact v1) (by rw [c136 d3 g3, c137 d3 g3, c138 d3 g3, c139 d3 g3, c12 d3 g3]; exact iV_x hP hV hS) ?_
  rw [c136 d3 g3, c137 d3 g3, c138 d3 g3, c139 d3 g3, c12 d3 g3, mbc]
  refine lp_up (n := d 6 4) (X := fun p => ∀ d7, Fk sr d d7 → tkC (d 127 8) (d 6 4) (d 128) (d 129) (d 14) d7 → hdC (d 6 4) (fun _ => true) (d 12) d7 → (∀ r, 0 ≤ r → r < d 6 4 → d7 18 r = d 12 r) → yB (150 - 1) xm_c147 (yQi L (fun r1 d1 e1 => yC 150 261 L [.ref 146] d1 e1 (fun r2 d2 e2 => r1 = r2 ∧ Inv R b d2 e2))) L 31 [.ref 1, .int (xJ w0), .int (xJ (psA mt W (d 12) w0 p).1), .int (xJ (psA mt W (d 12) w0 p).2.1), .int (xJ (psA mt W (d 12) w0 p).2.2), .int (xJ p), .double 0, .double 0, .double 0] [] d7 e1) p1.1 ?_ ?_ d3 g3 tk3 hc3 (fun r u v => by rw [f18]; exact x.2.2.1 r u (by omega))
  · intro p a1 a2 ihp d7 g7 tk7 hc7 h7
    have hp := hH p a1 a2
    refine yk_147_31 (by omega) ?_
    rw [g7 6 4 rfl, c12 d7 g7]
    refine ⟨by omega, by omega, fun z => by omega, fun _ => ⟨by omega, ?_⟩⟩
    have ar := psA_r (mt := mt) (W := W) (H := d 12) (w0 := w0) mr a1
    rw [psA_s a1] at ihp
    generalize psA mt W (d 12) w0 p = x0 at ihp ar ⊢
    refine lp_up (n := 9) (X := fun h => ∀ d7, Fk sr d d7 → tkC (d 127 8) (d 6 4) (d 128) (d 129) (d 14) d7 → hdC (d 6 4) (fun _ => true) (d 12) d7 → (∀ r, 0 ≤ r → r < d 6 4 → ¬ r = p → d7 18 r = d 12 r) → yB (150 - 1) xm_c147 (yQi L (fun r1 d1 e1 => yC 150 261 L [.ref 146] d1 e1 (fun r2 d2 e2 => r1 = r2 ∧ Inv R b d2 e2))) L 44 [.ref 1, .int (xJ w0), .int (xJ (psI mt W (d 12) w0 p x0 h).1), .int (xJ (psI mt W (d 12) w0 p x0 h).2.1), .int (xJ (psI mt W (d 12) w0 p x0 h).2.2), .int (xJ p), .int (xJ (d 12 p)), .int (xJ h), .double 0] [] d7 e1) (by omega) ?_ ?_ d7 g7 tk7 hc7 (fun r x y _ => h7 r x y)
    · intro h b1 b2 ihh d7 g7 tk7 hc7 h7
      have ir := psI_r (W := W) (H := d 12) (w0 := w0) (p := p) (x := x0) mr ar b1
      have mm := mr (upI (d 12) p h)
      have ww := wr (upI (d 12) p h)
      rw [psI_s b1] at ihh
      generalize psI mt W (d 12) w0 p x0 h = x1 at ihh ir ⊢
      refine yk_147_44 (by omega) ⟨by omega, fun z => by omega, fun _ => ⟨by omega, by omega, by omega, ?_⟩⟩
      obtain ⟨dM, eM⟩ : ∃ dM, dM = xs (xs (xs d7 18 p h) 133 (d 12 p) (xi_xor (d7 133 (d 12 p)) (xi_shl 1 p))) 133 h (xi_xor (xs (xs d7 18 p h) 133 (d 12 p) (xi_xor (d7 133 (d 12 p)) (xi_shl 1 p)) 133 h) (xi_shl 1 p)) := ⟨_, rfl⟩
      rw [← eM]
      have gM : Fk sr d dM := by rw [eM]; exact Fk_xs (Fk_xs (Fk_xs g7 rfl) rfl) rfl
      have hcM : hdC (d 6 4) (fun _ => true) (upI (d 12) p h) dM := by
        rw [eM]
        exact hdC_mv p1.2 ⟨a1, a2⟩ hp ⟨b1, b2⟩ (hdC_c hc7 (by rw [xs_np (by decide)]) (by rw [xs_fn, if_neg (by decide)]) (fun _ _ _ => rfl)) rfl (by rw [xs_np (by decide)]) rfl
      have qM : ∀ q, ¬ q = 18 → ¬ q = 133 → dM q = d7 q := fun q h1 h2 => by rw [eM, xs_fn, if_neg h2, xs_fn, if_neg h2, xs_fn, if_neg h1]
      have tkM' : tkC (d 127 8) (d 6 4) (d 128) (d 129) (d 14) dM := tkC_c tk7 (by rw [qM 127 (by decide) (by decide)]) (qM 130 (by decide) (by decide)) (qM 131 (by decide) (by decide)) (qM 132 (by decide) (by decide))
      have h18 : ∀ r, 0 ≤ r → r < d 6 4 → dM 18 r = upI (d 12) p h r := fun r u v => by
        rw [eM, xs_np (by decide), xs_np (by decide), upI_app]
        by_cases w : r = p
        · rw [w, xs_eq, if_pos rfl]
        · rw [xs_ni w, if_neg w, h7 r u v w]
      have rr : ∀ r, 0 ≤ r → r < d 6 4 → yR (upI (d 12) p h r) := fun r u v => by rw [upI_app]; have := hH r u v; split <;> omega
      -- moved back
      have back : ∀ d8 : xh_D, Fk sr d d8 → tkC (d 127 8) (d 6 4) (d 128) (d 129) (d 14) d8 → hdC (d 6 4) (fun _ => true) (upI (d 12) p h) d8 → d8 18 = dM 18 → Fk sr d (xs (xs d8 133 h (xi_xor (d8 133 h) (xi_shl 1 p))) 133 (d 12 p) (xi_xor (xs d8 133 h (xi_xor (d8 133 h) (xi_shl 1 p)) 133 (d 12 p)) (xi_shl 1 p))) ∧ tkC (d 127 8) (d 6 4) (d 128) (d 129) (d 14) (xs (xs d8 133 h (xi_xor (d8 133 h) (xi_shl 1 p))) 133 (d 12 p) (xi_xor (xs d8 133 h (xi_xor (d8 133 h) (xi_shl 1 p)) 133 (d 12 p)) (xi_shl 1 p))) ∧ hdC (d 6 4) (fun _ => true) (d 12) (xs (xs d8 133 h (xi_xor (d8 133 h) (xi_shl 1 p))) 133 (d 12 p) (xi_xor (xs d8 133 h (xi_xor (d8 133 h) (xi_shl 1 p)) 133 (d 12 p)) (xi_shl 1 p))) ∧ ∀ r, 0 ≤ r → r < d 6 4 → ¬ r = p → xs (xs d8 133 h (xi_xor (d8 133 h) (xi_shl 1 p))) 133 (d 12 p) (xi_xor (xs d8 133 h (xi_xor (d8 133 h) (xi_shl 1 p)) 133 (d 12 p)) (xi_shl 1 p)) 18 r = d 12 r := fun d8 g8 tk8 hc8 e8 => by
        refine ⟨Fk_xs (Fk_xs g8 rfl) rfl, tkC_c tk8 (by rw [xs_np (by decide), xs_np (by decide)]) (by rw [xs_fn, if_neg (by decide), xs_fn, if_neg (by decide)]) (by rw [xs_fn, if_neg (by decide), xs_fn, if_neg (by decide)]) (by rw [xs_fn, if_neg (by decide), xs_fn, if_neg (by decide)]), hdC_bk p1.2 ⟨a1, a2⟩ hp ⟨b1, b2⟩ hc8 rfl, fun r u v w => ?_⟩
        rw [xs_np (by decide), xs_np (by decide), e8, h18 r u v, upI_app, if_neg w]
      refine sq_90_18 (by omega) (by rw [c136 dM gM]; exact v1) (fun i a c => ?_) ?_
      · rw [c136 dM gM] at c
        rw [c137 dM gM, c138 dM gM, c139 dM gM]
        have t := iV_x hP hV hS i a c
        have u := hV.2.2 i a c
        rw [h18 _ u.2.2.2.1.1 u.2.2.2.1.2, h18 _ u.2.2.2.2.1.1 u.2.2.2.2.1.2]
        exact ⟨t.1, t.2.1, t.2.2.1, rr _ u.2.2.2.1.1 u.2.2.2.1.2, rr _ u.2.2.2.2.1.1 u.2.2.2.2.1.2⟩
      · rw [c136 dM gM, c137 dM gM, c138 dM gM, c139 dM gM, wmc _ _ h18, mbc]
        unfold psF at ihh
        refine ⟨by omega, fun z => ?_, fun z => ?_⟩
        · rw [if_neg (by omega)] at ihh
          obtain ⟨q1, q2, q3, q4⟩ := back dM gM tkM' hcM rfl
          exact ihh _ q1 q2 q3 q4
        · refine sq_67 (by omega) tp tkM' hcM fun d9 tk9 f9 => ?_
          rw [eW']
          obtain ⟨q1, q2, q3, q4⟩ := back d9 (Fk_trans gM (Fk_132 f9)) tk9 (hdC_c hcM (by rw [f9 127 (by decide)]) (f9 133 (by decide)) (fun _ _ _ => rfl)) (f9 18 (by decide))
          refine ⟨by omega, by omega, fun y => ?_, fun y => ?_⟩
          · rw [if_neg (fun w => by omega)] at ihh
            exact ihh _ q1 q2 q3 q4
          · rw [if_pos ⟨by omega, by omega⟩] at ihh
            exact ihh _ q1 q2 q3 q4
    · intro d7 g7 tk7 hc7 h7
      refine yk_147_44 (by omega) ⟨by omega, fun _ => ⟨by omega, ihp _ (Fk_xs g7 rfl) (tkC_c tk7 (by rw [xs_np (by decide)]) (by rw [xs_fn, if_neg (by decide)]) (by rw [xs_fn, if_neg (by decide)]) (by rw [xs_fn, if_neg (by decide)])) (hdC_c hc7 (by rw [xs_np (by decide)]) (by rw [xs_fn, if_neg (by decide)]) (fun _ _ _ => rfl)) (fun r u v => ?_)⟩, fun z => by omega⟩
      by_cases w : r = p
      · rw [w, xs_eq]
      · rw [xs_ni w, h7 r u v w]
  · intro d7 g7 tk7 hc7 h7
    refine yk_147_31 (by omega) ?_
    rw [g7 6 4 rfl]
    refine ⟨by omega, by omega, fun _ => ref _ e1 (Fk_xs (Fk_xs (Fk_xs (Fk_xs (Fk_xs g7 rfl) rfl) rfl) rfl) rfl) ke (by rw [xs_eq]) (by rw [xs_np (by decide), xs_ni (by decide), xs_np (by decide), xs_eq]) (by rw [xs_np (by decide), xs_eq]), fun z => by omega⟩
end TSF
