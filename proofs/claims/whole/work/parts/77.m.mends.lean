/-! TASKS: mends. -/
def fmR (A : (Int → Int) → Bool) (H : Int → Int) (n : Int) : Option (Int × List (Int × Int)) := fT (fun k => (mb A H n k.toNat H 0).map (fun l => (k, l))) 0 3
section TSD
variable {R : xR} {b : Int} {L D : Nat} {d dx : xh_D} {e e' : xd_E} {m n : Int} {T c tr sk hd H : Int → Int} {P : Int → xh_D → xd_E → Prop} {A : (Int → Int) → Bool}
theorem mb_ok : ∀ (k : Nat) (hd : Int → Int) (f : Int) (l : List (Int × Int)), 0 ≤ f → mb A H n k hd f = some l → l.length = k ∧ ∀ x ∈ l, (0 ≤ x.1 ∧ x.1 < n) ∧ (0 ≤ x.2 ∧ x.2 < 9) := by
  intro k
  induction k with
  | zero =>
    intro hd f l _ h
    unfold mb at h
    by_cases z : A hd = true
    · rw [if_pos z] at h
      have := Option.some.inj h
      rw [← this]
      exact ⟨rfl, fun x hx => by simp at hx⟩
    · rw [if_neg z] at h
      exact absurd h (by simp)
  | succ k ih =>
    intro hd f l hf h
    unfold mb at h
    obtain ⟨p, a1, a2, h⟩ := fT_some h
    obtain ⟨q, b1, b2, h⟩ := fT_some h
    by_cases z : q = H p
    · rw [if_pos z] at h; exact absurd h (by simp)
    · rw [if_neg z] at h
      cases w : mb A H n k (upI hd p q) (p + 1) with
      | none => rw [w] at h; exact absurd h (by simp)
      | some l' =>
        rw [w] at h
        have h' : (p, q) :: l' = l := Option.some.inj h
        have i := ih _ _ l' (by omega) w
        rw [← h']
        refine ⟨by rw [List.length_cons, i.1], fun x hx => ?_⟩
        rcases List.mem_cons.mp hx with v | v
        · rw [v]; exact ⟨⟨by omega, a2⟩, b1, b2⟩
        · exact i.2 x v
theorem fmR_ok {k : Int} {l : List (Int × Int)} (h : fmR A H n = some (k, l)) : (0 ≤ k ∧ k ≤ 2) ∧ (l.length : Int) = k ∧ ∀ x ∈ l, (0 ≤ x.1 ∧ x.1 < n) ∧ (0 ≤ x.2 ∧ x.2 < 9) := by
  unfold fmR at h
  obtain ⟨j, a1, a2, h⟩ := fT_some h
  cases w : mb A H n j.toNat H 0 with
  | none => rw [w] at h; exact absurd h (by simp)
  | some l' =>
    rw [w] at h
    have h' : (j, l') = (k, l) := Option.some.inj h
    have e1 : j = k := congrArg Prod.fst h'
    have e2 : l' = l := congrArg Prod.snd h'
    have := mb_ok j.toNat H 0 l' (by omega) w
    rw [← e1, ← e2, this.1]
    exact ⟨by omega, by omega, this.2⟩
theorem sq_70 (hD : 14 ≤ D) (hI : Inv R b d e) (h1 : ∀ k l d2, fmR (fun hd => decide (wA (d 127 8) (d 6 4) (d 128) (d 129) (d 14) (fun _ => true) hd = 0)) (d 12) (d 6 4) = some (k, l) → Fk sx d d2 → arC d2 0 l → P k d2 e) (h0 : fmR (fun hd => decide (wA (d 127 8) (d 6 4) (d 128) (d 129) (d 14) (fun _ => true) hd = 0)) (d 12) (d 6 4) = none → ∀ d2, Fk sx d d2 → P (-2) d2 e) : yC D 70 L [.ref 127, .ref 11, .int (xJ (d 6 4))] d e P := by
  have tp := tkP_I hI
  have hI0 := hI
  obtain ⟨hP, hT, hW, hL, hS, hU, hK, hR, hQ, hV, hH, hG⟩ := hI
  obtain ⟨A, eA⟩ : ∃ A : (Int → Int) → Bool, A = fun hd => decide (wA (d 127 8) (d 6 4) (d 128) (d 129) (d 14) (fun _ => true) hd = 0) := ⟨_, rfl⟩
  rw [← eA] at h1 h0
  refine yC_of rfl rfl rfl (by omega) (yk_70_11_0 ?_)
  refine sq_look (by omega) hI0 Fk_refl fun d1 f1 tk1 hc1 => ?_
  have c12 : d1 12 = d 12 := Fk_p f1 (fun _ => rfl)
  have fm : ∀ d2, mvF 0 d1 d2 → Fk sx d d2 := fun d2 f2 p i s => by
    by_cases w : p = 132 ∨ p = 133 ∨ p = 134 ∨ p = 135
    · rcases w with rfl | rfl | rfl | rfl <;> exact absurd (show true = false from s) (by decide)
    · rw [f2.1 p (by omega) (by omega) (by omega) (by omega)]; exact f1 p i s
  refine lp_up (n := 3) (X := fun k => fmR A (d 12) (d 6 4) = fT (fun k => (mb A (d 12) (d 6 4) k.toNat (d 12) 0).map (fun l => (k, l))) k 3 → ∀ d2, mvF 0 d1 d2 → tkC (d 127 8) (d 6 4) (d 128) (d 129) (d 14) d2 → hdC (d 6 4) (fun _ => true) (d 12) d2 → yB (D - 1) xm_c70 (yQi L P) L 6 [.ref 127, .ref 11, .int (xJ (d 6 4)), .int (xJ k)] [] d2 e) (by omega) ?_ ?_ rfl d1 ⟨fun _ _ _ _ _ => rfl, fun _ _ => ⟨rfl, rfl⟩⟩ tk1 hc1
  · intro k x y ih ek d2 f2 tk2 hc2
    refine yk_70_11_6 ⟨by omega, fun z => by omega, fun _ => ?_⟩
    refine sq_71 (H := d 12) tp (iS_h hS) k.toNat (D - 1) 0 0 k (d 12) d2 _ _ (by omega) (by omega) (by omega) (by have := hP.1; omega) (by rw [f2.1 12 (by decide) (by decide) (by decide) (by decide), c12]) tk2 hc2 (fun _ _ _ => rfl) (fun l d3 el f3 ar => ?_) (fun el d3 f3 tk3 hc3 => ?_)
    · rw [← eA] at el
      refine h1 k l d3 ?_ (fm d3 (mvF_t f2 f3)) ar
      rw [ek]
      refine fT_y y ?_
      try dsimp only
      rw [el]
      rfl
    · rw [← eA] at el
      refine ih ?_ d3 (mvF_t f2 f3) tk3 hc3
      rw [ek]
      refine fT_n y ?_
      try dsimp only
      rw [el]
      rfl
  · intro ek d2 f2 tk2 hc2
    refine yk_70_11_6 ⟨by omega, fun _ => h0 ?_ d2 (fm d2 f2), fun z => by omega⟩
    rw [ek]
    exact fT_e (by omega)
/-! the reference's search -/
def mdG (d d' : xh_D) : Prop := (∀ q, ¬ q = 146 → ¬ q = 164 → ¬ q = 166 → ¬ q = 167 → d' q = d q) ∧ ∀ j, ¬ j = 43 → d' 146 j = d 146 j
theorem mdG_t {d1 d2 : xh_D} (h : mdG d d1) (h2 : mdG d1 d2) : mdG d d2 := ⟨fun q a1 a2 a3 a4 => by rw [h2.1 q a1 a2 a3 a4, h.1 q a1 a2 a3 a4], fun j a => by rw [h2.2 j a, h.2 j a]⟩
theorem mdG_p {d1 : xh_D} (h : plF d d1) : mdG d d1 := ⟨fun q a1 _ a3 _ => h.1 q a1 a3, h.2⟩
theorem mdG_x {d1 : xh_D} {i v : Int} (h : mdG d d1) : mdG d (xs d1 164 i v) := ⟨fun q a1 a2 a3 a4 => by rw [xs_fn, if_neg a2, h.1 q a1 a2 a3 a4], fun j a => by rw [xs_np (by decide), h.2 j a]⟩
theorem mdG_y {d1 : xh_D} {i v : Int} (h : mdG d d1) : mdG d (xs d1 167 i v) := ⟨fun q a1 a2 a3 a4 => by rw [xs_fn, if_neg a4, h.1 q a1 a2 a3 a4], fun j a => by rw [xs_np (by decide), h.2 j a]⟩
theorem mdG_r : mdG d d := ⟨fun _ _ _ _ _ => rfl, fun _ _ => rfl⟩
theorem askM_h {hd' : Int → Int} {d' : xh_D} (a : askM m n T c sk hd d) (f : mdG d d') (h : ∀ q, 0 ≤ q → q < n → d' 164 q = hd' q ∧ yR (hd' q)) : askM m n T c sk hd' d' := by
  refine ⟨⟨a.1.1, ?_, ?_, ?_⟩, ?_, h⟩
  · rw [f.2 38 (by decide)]; exact a.1.2.1
  · rw [f.1 163 (by decide) (by decide) (by decide) (by decide)]; exact a.1.2.2.1
  · rw [f.1 165 (by decide) (by decide) (by decide) (by decide)]; exact a.1.2.2.2
  · rw [f.2 41 (by decide)]; exact a.2.1
def gOne (A : (Int → Int) → Bool) (H hd : Int → Int) (n p h : Int) : Option (List (Int × Int)) := if h = H p then none else (mb A H n 0 (upI hd p h) (p + 1)).map (fun l => (p, h) :: l)
theorem gOne_y {p h : Int} (z : ¬ h = H p) (w : A (upI hd p h) = true) : gOne A H hd n p h = some [(p, h)] := by
  unfold gOne mb
  rw [if_neg z, if_pos w]
  rfl
theorem gOne_n {p h : Int} (z : ¬ h = H p) (w : ¬ A (upI hd p h) = true) : gOne A H hd n p h = none := by
  unfold gOne mb
  rw [if_neg z, if_neg w]
  rfl
theorem sq_249 {q : Int} {P1 P0 : xh_D → xd_E → Prop} (hD : 18 ≤ D) (eA : A = fun hd => decide (wA m n T c tr (fun _ => true) hd = 0)) (hm : 0 ≤ m ∧ m ≤ 6) (hn : 0 ≤ n ∧ n ≤ 9) (hs : ∀ q, 0 ≤ q → q < n → sk q = tr q) (hH : ∀ q, 0 ≤ q → q < n → d 147 q = H q ∧ 0 ≤ H q ∧ H q < 9) (hq : 0 ≤ q ∧ q < n) (a : askM m n T c sk hd d) (e0 : hd q = H q) (y1 : ∀ l d2, fT (gOne A H hd n q) 0 9 = some l → mdG d d2 → d2 167 0 = d 167 0 → d2 167 1 = d 167 1 → arM d2 1 l → P1 d2 e) (y0 : fT (gOne A H hd n q) 0 9 = none → ∀ d2, mdG d d2 → d2 167 0 = d 167 0 → d2 167 1 = d 167 1 → (∀ r, 0 ≤ r → r < n → d2 164 r = hd r) → P0 d2 e) : yZ D 249 L [.ref 146, .int (xJ q)] d e P1 P0 := by
  have hq' := hH q hq.1 hq.2
  refine yZ_of rfl rfl rfl (by omega) (yk_249_0 ?_)
  refine lp_up (n := 9) (X := fun h => fT (gOne A H hd n q) 0 9 = fT (gOne A H hd n q) h 9 → ∀ d2, mdG d d2 → d2 167 0 = d 167 0 → d2 167 1 = d 167 1 → (∀ r, 0 ≤ r → r < n → ¬ r = q → d2 164 r = hd r) → yB (D - 1) xm_c249 (yQz L P1 P0) L 2 [.ref 146, .int (xJ q), .int (xJ h)] [] d2 e) (by omega) ?_ ?_ rfl d mdG_r rfl rfl (fun r x y _ => (a.2.2 r x y).1)
  · intro h x y ih eh d2 f2 k0 k1 hr
    have c147 : d2 147 q = H q := by rw [f2.1 147 (by decide) (by decide) (by decide) (by decide), hq'.1]
    refine yk_249_2 ?_
    rw [c147]
    refine ⟨by omega, fun z => by omega, fun _ => ⟨by omega, by omega, fun z => ⟨by omega, ?_⟩, fun z => ?_⟩⟩
    · have f3 : mdG d (xs (xs (xs d2 164 q h) 167 2 q) 167 3 h) := mdG_y (mdG_y (mdG_x f2))
      have kk : askM m n T c sk (upI hd q h) (xs (xs (xs d2 164 q h) 167 2 q) 167 3 h) := askM_h a f3 (fun r u v => by
        rw [xs_np (by decide), xs_np (by decide), upI_app]
        by_cases w : r = q
        · rw [w, xs_eq, if_pos rfl]; exact ⟨rfl, by omega⟩
        · rw [xs_ni w, if_neg w, hr r u v w]; exact ⟨rfl, (a.2.2 r u v).2⟩)
      refine sq_244 (by omega) kk (by omega) fun d4 f4 => ?_
      have g4 : mdG d d4 := mdG_t f3 (mdG_p f4)
      have c167 : d4 167 = xs (xs (xs d2 164 q h) 167 2 q) 167 3 h 167 := f4.1 167 (by decide) (by decide)
      have z0 : d4 167 0 = d 167 0 := by rw [c167, xs_ni (by decide), xs_ni (by decide), xs_np (by decide), k0]
      have z1 : d4 167 1 = d 167 1 := by rw [c167, xs_ni (by decide), xs_ni (by decide), xs_np (by decide), k1]
      have wr := wA_2 (n := n) (T := T) (c := c) (tr := sk) (cr := fun _ => true) (hd := upI hd q h) hm
      have wt := wA_tr (m := m) (T := T) (c := c) (cr := fun _ => true) (hd := upI hd q h) hs
      refine ⟨by omega, fun w => ?_, fun w => ?_⟩
      · refine ih ?_ d4 g4 z0 z1 (fun r u v w => ?_)
        · rw [eh]
          refine fT_n y (gOne_n z ?_)
          rw [eA]
          try dsimp only
          rw [← wt]
          simp [w]
        · rw [f4.1 164 (by decide) (by decide), xs_np (by decide), xs_np (by decide), xs_ni w, hr r u v w]
      · refine y1 [(q, h)] d4 ?_ g4 z0 z1 ⟨?_, ?_, trivial⟩
        · rw [eh]
          refine fT_y y (gOne_y z ?_)
          rw [eA]
          try dsimp only
          rw [← wt]
          simp [w]
        · rw [c167, show (2 * 1 : Int) = 2 from rfl, xs_ni (by decide), xs_eq]
        · rw [c167, show (2 * 1 + 1 : Int) = 3 from rfl, xs_eq]
    · refine ih ?_ d2 f2 k0 k1 hr
      rw [eh]
      refine fT_n y ?_
      unfold gOne
      rw [if_pos z]
  · intro eh d2 f2 k0 k1 hr
    have c147 : d2 147 q = H q := by rw [f2.1 147 (by decide) (by decide) (by decide) (by decide), hq'.1]
    refine yk_249_2 ⟨by omega, fun _ => ⟨by omega, by omega, y0 (by rw [eh]; exact fT_e (by omega)) _ (mdG_x f2) (by rw [xs_np (by decide), k0]) (by rw [xs_np (by decide), k1]) (fun r u v => ?_)⟩, fun z => by omega⟩
    by_cases w : r = q
    · rw [w, xs_eq, c147, e0]
    · rw [xs_ni w, hr r u v w]
theorem sq_248 (hD : 20 ≤ D) (hI : Inv R b d e) (fx : fxM d dx) (y1 : ∀ k l d2, fmR (fun hd => decide (wA (d 127 8) (d 6 4) (d 128) (d 129) (d 14) (fun _ => true) hd = 0)) (d 12) (d 6 4) = some (k, l) → Fk sm dx d2 → arM d2 0 l → P k d2 e') (y0 : fmR (fun hd => decide (wA (d 127 8) (d 6 4) (d 128) (d 129) (d 14) (fun _ => true) hd = 0)) (d 12) (d 6 4) = none → ∀ d2, Fk sm dx d2 → P (-2) d2 e') : yC D 248 L [.ref 146] dx e' P := by
  have tp := tkP_I hI
  have hI0 := hI
  obtain ⟨hP, hT, hW, hL, hS, hU, hK, hR, hQ, hV, hH, hG⟩ := hI
  have p1 := hP.1
  have p2 := hP.2.1
  have hm := hQ.1
  obtain ⟨A, eA⟩ : ∃ A : (Int → Int) → Bool, A = fun hd => decide (wA (d 127 8) (d 6 4) (d 128) (d 129) (d 14) (fun _ => true) hd = 0) := ⟨_, rfl⟩
  rw [← eA] at y1 y0
  refine yC_of rfl rfl rfl (by omega) (yk_248_0 ?_)
  refine sq_ask (by omega) hI0 fx fun d1 k1 k2 k3 k4 k5 => sq_244 (by omega) k4 (by omega) fun d2 f2 => ?_
  have hH : ∀ q, 0 ≤ q → q < d 6 4 → 0 ≤ d 12 q ∧ d 12 q < 9 := iS_h hS
  have sk2 : ∀ d3, mdG d1 d3 → Fk sm dx d3 := fun d3 f3 => Fk_trans k1 (fun p i s => by
    by_cases h1 : p = 146
    · rw [h1] at s ⊢
      exact f3.2 i (fun w => by rw [w] at s; exact absurd s (by decide))
    · by_cases w : p = 164 ∨ p = 166 ∨ p = 167
      · rcases w with rfl | rfl | rfl <;> exact absurd (show true = false from s) (by decide)
      · rw [f3.1 p h1 (by omega) (by omega) (by omega)])
  have m1 : ∀ d3, mdG d1 d3 → d3 146 1 = d 6 4 := fun d3 f3 => by rw [f3.2 1 (by decide), k2 1 (by decide), fx.2.2.1, p2]
  have m147 : ∀ d3, mdG d1 d3 → ∀ q, 0 ≤ q → q < d 6 4 → d3 147 q = d 12 q := fun d3 f3 q a c => by
    rw [f3.1 147 (by decide) (by decide) (by decide) (by decide), k3 147 (by decide) (by decide) (by decide), fx.1, (hS.1 q a c).2.2.2.1]
  have wr : ∀ hd, 0 ≤ wA (d 127 8) (d 6 4) (d 128) (d 129) (d1 165) (fun _ => true) hd ∧ wA (d 127 8) (d 6 4) (d 128) (d 129) (d1 165) (fun _ => true) hd ≤ 162 := fun hd => by
    exact wA_2 hm
  have wt : ∀ hd, (A hd = true) ↔ wA (d 127 8) (d 6 4) (d 128) (d 129) (d1 165) (fun _ => true) hd = 0 := fun hd => by
    rw [eA]
    try dsimp only
    rw [decide_eq_true_eq, wA_tr k5]
  have fm0 : A (d 12) = true → fmR A (d 12) (d 6 4) = some (0, []) := fun w => by
    unfold fmR
    refine fT_y (by omega) ?_
    show (mb A (d 12) (d 6 4) 0 (d 12) 0).map _ = _
    unfold mb
    rw [if_pos w]
    rfl
  have m0 : ¬ A (d 12) = true → mb A (d 12) (d 6 4) 0 (d 12) 0 = none := fun w => by unfold mb; rw [if_neg w]
  have e1 : mb A (d 12) (d 6 4) 1 (d 12) 0 = fT (fun p => fT (gOne A (d 12) (d 12) (d 6 4) p) 0 9) 0 (d 6 4) := rfl
  have e2 : mb A (d 12) (d 6 4) 2 (d 12) 0 = fT (fun p => fT (fun h => if h = d 12 p then none else (fT (fun q => fT (gOne A (d 12) (upI (d 12) p h) (d 6 4) q) 0 9) (p + 1) (d 6 4)).map (fun l => (p, h) :: l)) 0 9) 0 (d 6 4) := rfl
  have w0 := wr (d 12)
  refine ⟨by omega, fun z => ?_, fun z => y1 0 [] d2 (fm0 ((wt _).mpr z)) (sk2 d2 (mdG_p f2)) trivial⟩
  have nA : ¬ A (d 12) = true := fun w => z ((wt _).mp w)
  have z0 := m0 nA
  have fm1 : fmR A (d 12) (d 6 4) = fT (fun k => (mb A (d 12) (d 6 4) k.toNat (d 12) 0).map (fun l => (k, l))) 1 3 := by
    unfold fmR
    refine fT_n (by omega) ?_
    show (mb A (d 12) (d 6 4) 0 (d 12) 0).map _ = none
    rw [z0]
    rfl
  -- one
  refine lp_up (n := d 6 4) (X := fun p => fT (fun p => fT (gOne A (d 12) (d 12) (d 6 4) p) 0 9) 0 (d 6 4) = fT (fun p => fT (gOne A (d 12) (d 12) (d 6 4) p) 0 9) p (d 6 4) → ∀ d3, mdG d1 d3 → (∀ r, 0 ≤ r → r < d 6 4 → d3 164 r = d 12 r) → yB (D - 1) xm_c248 (yQi L P) L 9 [.ref 146, .int (xJ p), .double 0, .double 0] [] d3 e') p1.1 ?_ ?_ rfl d2 (mdG_p f2) (fun r x y => by rw [f2.1 164 (by decide) (by decide)]; exact (k4.2.2 r x y).1)
  · intro p a1 a2 ihp ep d3 f3 h3
    have hp := hH p a1 a2
    refine yk_248_9 ?_
    rw [m1 d3 f3]
    refine ⟨by omega, by omega, fun z => by omega, fun _ => ?_⟩
    refine lp_up (n := 9) (X := fun h => fT (gOne A (d 12) (d 12) (d 6 4) p) 0 9 = fT (gOne A (d 12) (d 12) (d 6 4) p) h 9 → ∀ d3, mdG d1 d3 → (∀ r, 0 ≤ r → r < d 6 4 → ¬ r = p → d3 164 r = d 12 r) → yB (D - 1) xm_c248 (yQi L P) L 15 [.ref 146, .int (xJ p), .int (xJ h), .double 0] [] d3 e') (by omega) ?_ ?_ rfl d3 f3 (fun r x y _ => h3 r x y)
    · intro h b1 b2 ihh eh d3 f3 h3
      refine yk_248_15 ?_
      rw [m147 d3 f3 p a1 a2]
      refine ⟨by omega, fun z => by omega, fun _ => ⟨by omega, by omega, fun z => ⟨by omega, ?_⟩, fun z => ?_⟩⟩
      · have f4 : mdG d1 (xs (xs (xs d3 164 p h) 167 0 p) 167 1 h) := mdG_y (mdG_y (mdG_x f3))
        have kk : askM (d 127 8) (d 6 4) (d 128) (d 129) (d1 165) (upI (d 12) p h) (xs (xs (xs d3 164 p h) 167 0 p) 167 1 h) := askM_h k4 f4 (fun r u v => by
          rw [xs_np (by decide), xs_np (by decide), upI_app]
          by_cases w : r = p
          · rw [w, xs_eq, if_pos rfl]; exact ⟨rfl, by omega⟩
          · have := hH r u v
            rw [xs_ni w, if_neg w, h3 r u v w]; exact ⟨rfl, by omega⟩)
        refine sq_244 (by omega) kk (by omega) fun d5 f5 => ?_
        have w1 := wr (upI (d 12) p h)
        refine ⟨by omega, fun w => ?_, fun w => ?_⟩
        · refine ihh ?_ d5 (mdG_t f4 (mdG_p f5)) (fun r u v w => by rw [f5.1 164 (by decide) (by decide), xs_np (by decide), xs_np (by decide), xs_ni w, h3 r u v w])
          rw [eh]
          exact fT_n b2 (gOne_n z (fun u => w ((wt _).mp u)))
        · refine y1 1 [(p, h)] d5 ?_ (sk2 d5 (mdG_t f4 (mdG_p f5))) ⟨?_, ?_, trivial⟩
          · rw [fm1]
            refine fT_y (by omega) ?_
            show (mb A (d 12) (d 6 4) 1 (d 12) 0).map _ = _
            rw [e1, ep, fT_y a2 (show fT (gOne A (d 12) (d 12) (d 6 4) p) 0 9 = some [(p, h)] by rw [eh]; exact fT_y b2 (gOne_y z ((wt _).mpr w)))]
            rfl
          · rw [f5.1 167 (by decide) (by decide), show (2 * 0 : Int) = 0 from rfl, xs_ni (by decide), xs_eq]
          · rw [f5.1 167 (by decide) (by decide), show (2 * 0 + 1 : Int) = 1 from rfl, xs_eq]
      · refine ihh ?_ d3 f3 h3
        rw [eh]
        refine fT_n b2 ?_
        unfold gOne
        rw [if_pos z]
    · intro eh d3 f3 h3
      refine yk_248_15 ⟨by omega, fun _ => ⟨by omega, by omega, ?_⟩, fun z => by omega⟩
      rw [m147 d3 f3 p a1 a2]
      refine ihp ?_ _ (mdG_x f3) (fun r u v => ?_)
      · rw [ep]
        refine fT_n a2 ?_
        try dsimp only
        rw [eh]
        exact fT_e (by omega)
      · by_cases w : r = p
        · rw [w, xs_eq]
        · rw [xs_ni w, h3 r u v w]
  intro ep1 d3 f3 h3
  rw [fT_e (Int.le_refl _)] at ep1
  have fm2 : fmR A (d 12) (d 6 4) = fT (fun k => (mb A (d 12) (d 6 4) k.toNat (d 12) 0).map (fun l => (k, l))) 2 3 := by
    rw [fm1]
    refine fT_n (by omega) ?_
    show (mb A (d 12) (d 6 4) 1 (d 12) 0).map _ = none
    rw [e1, ep1]
    rfl
  refine yk_248_9 ?_
  rw [m1 d3 f3]
  refine ⟨by omega, by omega, fun _ => ?_, fun z => by omega⟩
  obtain ⟨G, eG⟩ : ∃ G : Int → Int → Option (List (Int × Int)), G = fun p h => if h = d 12 p then none else (fT (fun q => fT (gOne A (d 12) (upI (d 12) p h) (d 6 4) q) 0 9) (p + 1) (d 6 4)).map (fun l => (p, h) :: l) := ⟨_, rfl⟩
  have e2' : mb A (d 12) (d 6 4) 2 (d 12) 0 = fT (fun p => fT (G p) 0 9) 0 (d 6 4) := by rw [e2, eG]
  -- two
  refine lp_up (n := d 6 4) (X := fun p => fT (fun p => fT (G p) 0 9) 0 (d 6 4) = fT (fun p => fT (G p) 0 9) p (d 6 4) → ∀ d3, mdG d1 d3 → (∀ r, 0 ≤ r → r < d 6 4 → d3 164 r = d 12 r) → yB (D - 1) xm_c248 (yQi L P) L 59 [.ref 146, .int (xJ p), .double 0, .double 0] [] d3 e') p1.1 ?_ ?_ rfl d3 f3 h3
  · intro p a1 a2 ihp ep d3 f3 h3
    have hp := hH p a1 a2
    refine yk_248_59 ?_
    rw [m1 d3 f3]
    refine ⟨by omega, by omega, fun z => by omega, fun _ => ?_⟩
    refine lp_up (n := 9) (X := fun h => fT (G p) 0 9 = fT (G p) h 9 → ∀ d3, mdG d1 d3 → (∀ r, 0 ≤ r → r < d 6 4 → ¬ r = p → d3 164 r = d 12 r) → yB (D - 1) xm_c248 (yQi L P) L 65 [.ref 146, .int (xJ p), .int (xJ h), .double 0] [] d3 e') (by omega) ?_ ?_ rfl d3 f3 (fun r x y _ => h3 r x y)
    · intro h b1 b2 ihh eh d3 f3 h3
      refine yk_248_65 ?_
      rw [m147 d3 f3 p a1 a2]
      refine ⟨by omega, fun z => by omega, fun _ => ⟨by omega, by omega, fun z => ⟨by omega, ?_⟩, fun z => ?_⟩⟩
      · have f4 : mdG d1 (xs (xs (xs d3 164 p h) 167 0 p) 167 1 h) := mdG_y (mdG_y (mdG_x f3))
        have q0 : xs (xs (xs d3 164 p h) 167 0 p) 167 1 h 167 0 = p := by rw [xs_ni (by decide), xs_eq]
        have q1 : xs (xs (xs d3 164 p h) 167 0 p) 167 1 h 167 1 = h := by rw [xs_eq]
        have eg : G p h = (fT (fun q => fT (gOne A (d 12) (upI (d 12) p h) (d 6 4) q) 0 9) (p + 1) (d 6 4)).map (fun l => (p, h) :: l) := by rw [eG]; try dsimp only; rw [if_neg z]
        refine lp_from (m := p + 1) (n := d 6 4) (X := fun q => fT (fun q => fT (gOne A (d 12) (upI (d 12) p h) (d 6 4) q) 0 9) (p + 1) (d 6 4) = fT (fun q => fT (gOne A (d 12) (upI (d 12) p h) (d 6 4) q) 0 9) q (d 6 4) → ∀ d4, mdG d1 d4 → d4 167 0 = p → d4 167 1 = h → (∀ r, 0 ≤ r → r < d 6 4 → d4 164 r = upI (d 12) p h r) → yB (D - 1) xm_c248 (yQi L P) L 94 [.ref 146, .int (xJ p), .int (xJ h), .int (xJ q)] [] d4 e') (by omega) ?_ ?_ rfl _ f4 q0 q1 (fun r u v => by
          rw [xs_np (by decide), xs_np (by decide), upI_app]
          by_cases w : r = p
          · rw [w, xs_eq, if_pos rfl]
          · rw [xs_ni w, if_neg w, h3 r u v w])
        · intro q c1 c2 ihq eq d4 f4 q0 q1 h4
          refine yk_248_94 ?_
          rw [m1 d4 f4]
          refine ⟨by omega, by omega, fun z => by omega, fun _ => ?_⟩
          refine sq_249 (m := d 127 8) (T := d 128) (c := d 129) (tr := d 14) (sk := d1 165) (H := d 12) (hd := upI (d 12) p h) (n := d 6 4) (by omega) eA hm p1 k5 (fun r u v => ⟨m147 d4 f4 r u v, hH r u v⟩) ⟨by omega, c2⟩ (askM_h k4 f4 (fun r u v => ⟨h4 r u v, by rw [upI_app]; have := hH r u v; split <;> omega⟩)) (by rw [upI_app, if_neg (by omega)]) (fun l d5 el f5 u0 u1 ar => ?_) (fun el d5 f5 u0 u1 h5 => ?_)
          · refine y1 2 ((p, h) :: l) d5 ?_ (sk2 d5 (mdG_t f4 f5)) ⟨?_, ?_, ar⟩
            · rw [fm2]
              refine fT_y (by omega) ?_
              show (mb A (d 12) (d 6 4) 2 (d 12) 0).map _ = _
              rw [e2', ep, fT_y a2 (show fT (G p) 0 9 = some ((p, h) :: l) by rw [eh]; refine fT_y b2 ?_; rw [eg, eq, fT_y c2 el]; rfl)]
              rfl
            · rw [show (2 * 0 : Int) = 0 from rfl, u0, q0]
            · rw [show (2 * 0 + 1 : Int) = 1 from rfl, u1, q1]
          · refine ihq ?_ d5 (mdG_t f4 f5) (by rw [u0, q0]) (by rw [u1, q1]) h5
            rw [eq]
            exact fT_n c2 el
        · intro eq d4 f4 q0 q1 h4
          refine yk_248_94 ?_
          rw [m1 d4 f4]
          refine ⟨by omega, by omega, fun _ => ihh ?_ d4 f4 (fun r u v w => by rw [h4 r u v, upI_app, if_neg w]), fun z => by omega⟩
          rw [eh]
          refine fT_n b2 ?_
          rw [eg, eq, fT_e (Int.le_refl _)]
          rfl
      · refine ihh ?_ d3 f3 h3
        rw [eh]
        refine fT_n b2 ?_
        rw [eG]
        exact if_pos z
    · intro eh d3 f3 h3
      refine yk_248_65 ⟨by omega, fun _ => ⟨by omega, by omega, ?_⟩, fun z => by omega⟩
      rw [m147 d3 f3 p a1 a2]
      refine ihp ?_ _ (mdG_x f3) (fun r u v => ?_)
      · rw [ep]
        refine fT_n a2 ?_
        try dsimp only
        rw [eh]
        exact fT_e (by omega)
      · by_cases w : r = p
        · rw [w, xs_eq]
        · rw [xs_ni w, h3 r u v w]
  · intro ep d3 f3 h3
    refine yk_248_59 ?_
    rw [m1 d3 f3]
    refine ⟨by omega, by omega, fun _ => y0 ?_ d3 (sk2 d3 f3), fun z => by omega⟩
    rw [fm2, fT_n (by omega) (show (mb A (d 12) (d 6 4) 2 (d 12) 0).map (fun l => ((2 : Int), l)) = none by rw [e2', ep, fT_e (Int.le_refl _)]; rfl)]
    exact fT_e (by omega)
end TSD
