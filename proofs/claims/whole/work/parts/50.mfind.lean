/-! GUIDES of a day, as the reference finds them. -/
def cvF (hf : Int → Bool) (ch : Int → Int) : Int → Int := fun p => if hf p = true then (if ch (cI hf p) = -1 then 9 else ch (cI hf p)) else 10
def sI' (p : Nat) (i : Int) : Bool := p == 154 || p == 155 || p == 156 || (p == 146 && (decide (i = 26) || decide (i = 27)))
/-- the best row so far -/
def stM (hf : Int → Bool) (n k : Int) (st : Int × (Int → Int)) (d : xh_D) : Prop := (d 146 26 = 1000000 ∧ d 146 27 = 1000000 ∧ st.1 = k * 1000 + 1) ∨ (st.1 = d 146 26 * 1000 + d 146 27 ∧ (0 ≤ d 146 26 ∧ d 146 26 ≤ 9) ∧ (0 ≤ d 146 27 ∧ d 146 27 ≤ 891) ∧ ∀ p, 0 ≤ p → p < n → d 155 p = cvF hf st.2 p)
theorem stM_c {hf : Int → Bool} {n k : Int} {st : Int × (Int → Int)} {d d' : xh_D} (h : stM hf n k st d) (e1 : d' 146 26 = d 146 26) (e2 : d' 146 27 = d 146 27) (e3 : d' 155 = d 155) : stM hf n k st d' := by
  unfold stM at h ⊢
  rw [e1, e2, e3]
  exact h
section MFD
variable {L D : Nat} {d : xh_D} {e : xd_E} {n : Int}
/-- what the search needs -/
def gmX (hf : Int → Bool) (tr : Int → Int) (pr : Int → Int → Int) (n : Int) (d : xh_D) : Prop := d 146 1 = n ∧ d 146 25 = bI hf n ∧ (∀ p g, 0 ≤ p → p < n → 0 ≤ g → g < n → d 148 (9 * p + g) = tr (p * 9 + g) ∧ 0 ≤ tr (p * 9 + g) ∧ tr (p * 9 + g) ≤ 9) ∧ (∀ p g, 0 ≤ p → p < n → 0 ≤ g → g < n → hf p = true → (pr (cI hf p) g = -1 ↔ hf g = true ∨ tr (p * 9 + g) = 0) ∧ (¬ pr (cI hf p) g = -1 → d 157 (9 * p + g) = pr (cI hf p) g))
theorem gmX_fk {hf : Int → Bool} {tr : Int → Int} {pr : Int → Int → Int} {d' : xh_D} (h : gmX hf tr pr n d) (f : Fk sI' d d') : gmX hf tr pr n d' := by
  unfold gmX at h ⊢
  rw [f 146 1 rfl, f 146 25 rfl, Fk_p f (p := 148) (fun _ => rfl), Fk_p f (p := 157) (fun _ => rfl)]
  exact h
theorem sq_218_147 {hf : Int → Bool} {tr : Int → Int} {pr : Int → Int → Int} {k : Int} (hn : 0 ≤ n ∧ n ≤ 9) (hk : cI hf n = k) (hr : ∀ i g, -1 ≤ pr i g ∧ pr i g ≤ 99) : ∀ (q : Nat) {D : Nat} {d : xh_D} {alone cost : Int} {lead ch : Int → Int} {st : Int × (Int → Int)} {P : xh_D → xd_E → Prop}, (q : Int) ≤ n → q + 2 ≤ D → gmX hf tr pr n d → (∀ g, 0 ≤ g → g < n → d 156 g = lead g ∧ 0 ≤ lead g ∧ lead g ≤ 2) → (∀ p, 0 ≤ p → p < n - q → d 154 p = cvF hf ch p) → stM hf n k st d → (0 ≤ alone ∧ alone ≤ cI hf (n - q)) → (0 ≤ cost ∧ cost ≤ 99 * (cI hf (n - q) - alone)) → (∀ d', Fk sI' d d' → d' 156 = d 156 → (∀ p, 0 ≤ p → p < n - q → d' 154 p = cvF hf ch p) → stM hf n k (gdD pr n k (k - cI hf (n - q)).toNat (alone * 1000 + cost) lead ch st) d' → P d' e) → yV D 218 L [.ref 146, .ref 147, .int (xJ (n - q)), .int (xJ alone), .int (xJ cost)] d e P := by
  have kr := cI_r hf hn.1
  rw [hk] at kr
  have ge : ∀ (m : Nat), (m : Int) ≤ k → ∀ (sum : Int) (lead ch : Int → Int) (st : Int × (Int → Int)), st.1 ≤ sum → gdD pr n k m sum lead ch st = st := fun m hm sum lead ch st h => gdD_ge (al := fun _ => 0) hn.1 (Int.le_refl _) (fun i g _ _ _ _ q => by have := hr i g; omega) (fun i _ _ => by omega) m hm sum lead ch st (by omega) rfl
  intro q
  induction q with
  | zero =>
    intro D d alone cost lead ch st P hq hD hx hld hch hst ha hc hP
    rw [show n - ((0 : Nat) : Int) = n by omega, hk] at ha hc hP
    rw [show n - ((0 : Nat) : Int) = n by omega] at hch ⊢
    rw [show (k - k).toNat = 0 by omega, gdD_0] at hP
    have x1 := hx.1
    have kn := cI_r hf hn.1
    -- the end of a row that is better
    have fin : (alone * 1000 + cost < st.1) → yB (D - 1) xm_c218 (yQv L P) L 34 [.ref 146, .double 0, .double 0, .double 0, .double 0, .int (xJ 0)] [] (xs (xs d 146 26 alone) 146 27 cost) e := by
      intro hlt
      rw [if_pos hlt] at hP
      have w : ∀ o p, ¬ p = 146 → ¬ p = 155 → xwr (xs (xs d 146 26 alone) 146 27 cost) 155 o (d 154) p = d p := fun o p h1 h2 => by rw [xwr_fn h2, xs_fn, if_neg h1, xs_fn, if_neg h1]
      have w1 : ∀ o, xwr (xs (xs d 146 26 alone) 146 27 cost) 155 o (d 154) 146 1 = n := fun o => by rw [xwr_fn (by decide), xs_ni (by decide), xs_ni (by decide), x1]
      have hlp := lp_up (n := n) (X := fun o => yB (D - 1) xm_c218 (yQv L P) L 34 [.ref 146, .double 0, .double 0, .double 0, .double 0, .int (xJ o)] [] (xwr (xs (xs d 146 26 alone) 146 27 cost) 155 o (d 154)) e) hn.1 ?_ ?_
      · rw [xwr_0] at hlp; exact hlp
      · intro o o1 o2 ih
        refine yk_218_147_34 ?_
        rw [w1, w o 154 (by decide) (by decide)]
        rw [← xwr_s o1] at ih
        exact ⟨by omega, by omega, fun c => by omega, fun _ => ⟨by omega, ih⟩⟩
      · refine yk_218_147_34 ?_
        rw [w1]
        refine ⟨by omega, by omega, fun _ => hP _ (Fk_wr (Fk_xs (Fk_xs Fk_refl rfl) rfl) (fun _ => rfl)) (w _ 156 (by decide) (by decide)) (fun p a c => by rw [w _ 154 (by decide) (by decide)]; exact hch p a c) (Or.inr ?_), fun c => by omega⟩
        have w26 : xwr (xs (xs d 146 26 alone) 146 27 cost) 155 n (d 154) 146 26 = alone := by rw [xwr_fn (by decide), xs_ni (by decide), xs_eq]
        have w27 : xwr (xs (xs d 146 26 alone) 146 27 cost) 155 n (d 154) 146 27 = cost := by rw [xwr_fn (by decide), xs_eq]
        rw [w26, w27]
        exact ⟨rfl, by omega, by omega, fun p a c => by rw [xwr_at ⟨a, c⟩]; exact hch p a c⟩
    have stay : ¬ (alone * 1000 + cost < st.1) → P d e := fun hlt => by
      rw [if_neg hlt] at hP
      exact hP d Fk_refl rfl hch hst
    have lr : yR (d 146 26) ∧ yR (d 146 27) := by rcases hst with z | z <;> omega
    refine yV_of rfl rfl rfl (by omega) (yk_218_147_0 ⟨by omega, lr.1, fun c => stay (by rcases hst with z | z <;> omega), fun c => ⟨fun c2 => ?_, fun c2 => ⟨by omega, lr.2, fun c3 => ?_, fun c3 => stay (by rcases hst with z | z <;> omega)⟩⟩⟩)
    · refine yk_218_147_13 (by omega) ⟨by omega, by omega, fun g => absurd x1.symm g, fun _ => ⟨by omega, lr.1, fun _ => fin (by rcases hst with z | z <;> omega), fun g => absurd g c2⟩⟩
    · refine yk_218_147_13 (by omega) ⟨by omega, by omega, fun g => absurd x1.symm g, fun _ => ⟨by omega, lr.1, fun g => absurd c2 g, fun _ => ⟨by omega, lr.2, fun g => fin (by rcases hst with z | z <;> omega), fun g => stay (by rcases hst with z | z <;> omega)⟩⟩⟩
  | succ q ih =>
    intro D d alone cost lead ch st P hq hD hx hld hch hst ha hc hP
    obtain ⟨x1, x2, x3, x4⟩ := id hx
    have ep : n - ((q + 1 : Nat) : Int) + 1 = n - (q : Int) := by omega
    generalize hp : n - ((q + 1 : Nat) : Int) = p at hch ha hc hP ep
    have p1 : 0 ≤ p ∧ p < n := by omega
    have cm : cI hf p ≤ k := by rw [← hk]; exact cI_mono p1.1 (by omega)
    have c0 := cI_r hf p1.1
    have lr : yR (d 146 26) ∧ yR (d 146 27) := by rcases hst with z | z <;> omega
    have stay : st.1 ≤ alone * 1000 + cost → P d e := fun hlt => by
      rw [ge _ (by omega) _ _ _ _ hlt] at hP
      exact hP d Fk_refl rfl hch hst
    have bt : xi_and (xi_shr (d 146 25) p) 1 = if hf p = true then 1 else 0 := by rw [x2]; exact bI_test (by omega) p1
    have go : yB (D - 1) xm_c218 (yQv L P) L 13 [.ref 146, .ref 147, .int (xJ p), .int (xJ alone), .int (xJ cost), .double 0] [] d e := by
      refine yk_218_147_13 (by omega) ?_
      rw [x1, bt]
      refine ⟨by omega, by omega, fun _ => ⟨fun g => ?_, fun g => ⟨by omega, ?_⟩⟩, fun c => by omega⟩
      · have hfp : hf p = true := by
          cases z : hf p
          · rw [z] at g; exact absurd g (by decide)
          · rfl
        have ci : cI hf (p + 1) = cI hf p + 1 := cI_t p1.1 hfp
        have cm2 : cI hf (p + 1) ≤ k := by rw [← hk]; exact cI_mono (by omega) (by omega)
        rw [show (k - cI hf p).toNat = (k - cI hf (p + 1)).toNat + 1 by omega, gdD_s (i := cI hf p) (by omega)] at hP
        generalize hm : (k - cI hf (p + 1)).toNat = m at hP
        generalize hS : gdS pr n k m (cI hf p) (alone * 1000 + cost) lead ch = S at hP
        have hSg : ∀ g s, S g s = if pr (cI hf p) g = -1 ∨ 2 ≤ lead g then s else gdD pr n k m (alone * 1000 + cost + pr (cI hf p) g) (upI lead g (lead g + 1)) (upI ch (cI hf p) g) s := fun g s => by rw [← hS]; rfl
        have cvl : ∀ v o, 0 ≤ o → o < p → cvF hf (upI ch (cI hf p) v) o = cvF hf ch o := fun v o a c => by
          unfold cvF
          by_cases z : hf o = true
          · have : cI hf (o + 1) ≤ cI hf p := cI_mono (by omega) (by omega)
            rw [cI_t a z] at this
            rw [if_pos z, if_pos z, show upI ch (cI hf p) v (cI hf o) = ch (cI hf o) from if_neg (by omega)]
          · rw [if_neg z, if_neg z]
        have cvp : ∀ v, cvF hf (upI ch (cI hf p) v) p = if v = -1 then 9 else v := fun v => by
          unfold cvF
          rw [if_pos hfp, upI_app, if_pos rfl]
        refine lp_up (n := n) (X := fun g => ∀ dc, Fk sI' d dc → dc 156 = d 156 → (∀ o, 0 ≤ o → o < p → dc 154 o = cvF hf ch o) → stM hf n k (fI S st g) dc → yB (D - 1) xm_c218 (yQv L P) L 70 [.ref 146, .ref 147, .int (xJ p), .int (xJ alone), .int (xJ cost), .int (xJ g)] [] dc e) hn.1 ?_ ?_ d Fk_refl rfl hch hst
        · intro g g1 g2 ihg dc f e156 e154 hs
          have xc := gmX_fk hx f
          obtain ⟨y1, y2, y3, y4⟩ := id xc
          have t := y3 p g p1.1 p1.2 g1 g2
          have pp := y4 p g p1.1 p1.2 g1 g2 hfp
          have hl := hld g g1 g2
          have rp := hr (cI hf p) g
          have bg : xi_and (xi_shr (dc 146 25) g) 1 = if hf g = true then 1 else 0 := by rw [y2]; exact bI_test (by omega) ⟨g1, g2⟩
          rw [fI_s _ _ g1, hSg] at ihg
          refine yk_218_147_70 (by omega) ?_
          rw [y1, bg, t.1, e156, hl.1]
          refine ⟨by omega, by omega, fun c => by omega, fun _ => ⟨fun c => ?_, fun c => ⟨by omega, by omega, fun c2 => ?_, fun c2 => ⟨by omega, by omega, fun c3 => ⟨by omega, ?_⟩, fun c3 => ?_⟩⟩⟩⟩
          · have hg : hf g = true := by
              cases z : hf g
              · rw [z] at c; exact absurd c (by decide)
              · rfl
            rw [if_pos (Or.inl (pp.1.mpr (Or.inl hg)))] at ihg
            exact ihg dc f e156 e154 hs
          · rw [if_pos (Or.inl (pp.1.mpr (Or.inr c2)))] at ihg
            exact ihg dc f e156 e154 hs
          · have hg : ¬ hf g = true := fun z => c (by rw [if_pos z])
            have hpr : ¬ pr (cI hf p) g = -1 := fun z => (pp.1.mp z).elim hg c2
            rw [if_neg (by omega)] at ihg
            rw [pp.2 hpr]
            have fx : Fk sI' d (xs (xs dc 154 p g) 156 g (lead g + 1)) := Fk_xs (Fk_xs f rfl) rfl
            have hm2 := @ih (D - 1) (xs (xs dc 154 p g) 156 g (lead g + 1)) alone (cost + pr (cI hf p) g) (upI lead g (lead g + 1)) (upI ch (cI hf p) g) (fI S st g) (fun d11 e12 => yB (D - 1) xm_c218 (yQv L P) L 70 [.ref 146, .ref 147, .int (xJ p), .int (xJ alone), .int (xJ cost), .int (xJ (g + 1))] [] (xs d11 156 g ((d11 156 g) - 1)) e12) (by omega) (by omega) (gmX_fk hx fx) (fun x a c4 => ?_) (fun o a c4 => ?_) (stM_c hs ?_ ?_ ?_) (by rw [← ep]; omega) (by rw [← ep]; omega) (fun d' f' g156 g154 gst => ?_)
            · rw [← ep] at hm2
              exact hm2
            · by_cases z : x = g
              · subst z
                rw [xs_eq, upI_app, if_pos rfl]
                omega
              · rw [xs_ni z, xs_np (by decide), e156, upI_app, if_neg z]
                exact hld x a c4
            · rw [xs_np (by decide)]
              by_cases z : o = p
              · subst z
                rw [xs_eq, cvp, if_neg (by omega)]
              · rw [xs_ni z, cvl g o a (by omega)]
                exact e154 o a (by omega)
            · rw [xs_np (by decide), xs_np (by decide)]
            · rw [xs_np (by decide), xs_np (by decide)]
            · rw [xs_fn, if_neg (by decide), xs_fn, if_neg (by decide)]
            · have z156 : xs d' 156 g (d' 156 g - 1) 156 = d 156 := by
                funext x
                rw [xs_app, g156]
                by_cases z : x = g
                · rw [if_pos ⟨rfl, z⟩, xs_eq, z, hl.1]; omega
                · rw [if_neg (fun w => z w.2), xs_ni z, xs_np (by decide), e156]
              rw [← ep, hm, show alone * 1000 + (cost + pr (cI hf p) g) = alone * 1000 + cost + pr (cI hf p) g by omega] at gst
              refine ihg _ (Fk_xs (Fk_trans fx f') rfl) z156 (fun o a c4 => ?_) (stM_c gst ?_ ?_ ?_)
              · rw [xs_np (by decide), g154 o a (by omega), cvl g o a c4]
              · rw [xs_np (by decide)]
              · rw [xs_np (by decide)]
              · rw [xs_fn, if_neg (by decide)]
          · rw [if_pos (Or.inr (by omega))] at ihg
            exact ihg dc f e156 e154 hs
        · intro dc f e156 e154 hs
          have xc := gmX_fk hx f
          refine yk_218_147_70 (by omega) ?_
          rw [xc.1]
          refine ⟨by omega, by omega, fun _ => ⟨by omega, ?_⟩, fun c => by omega⟩
          have fx : Fk sI' d (xs dc 154 p 9) := Fk_xs f rfl
          have hm2 := @ih (D - 1) (xs dc 154 p 9) (alone + 1) cost lead (upI ch (cI hf p) (-1)) (fI S st n) P (by omega) (by omega) (gmX_fk hx fx) (fun x a c4 => ?_) (fun o a c4 => ?_) (stM_c hs ?_ ?_ ?_) (by rw [← ep]; omega) (by rw [← ep]; omega) (fun d' f' g156 g154 gst => ?_)
          · rw [← ep] at hm2
            exact hm2
          · rw [xs_np (by decide), e156]; exact hld x a c4
          · by_cases z : o = p
            · subst z
              rw [xs_eq, cvp, if_pos rfl]
            · rw [xs_ni z, cvl _ o a (by omega)]
              exact e154 o a (by omega)
          · rw [xs_np (by decide)]
          · rw [xs_np (by decide)]
          · rw [xs_fn, if_neg (by decide)]
          · rw [← ep, hm, show (alone + 1) * 1000 + cost = alone * 1000 + cost + 1000 by omega] at gst
            refine hP d' (Fk_trans fx f') (by rw [g156, xs_fn, if_neg (by decide), e156]) (fun o a c4 => ?_) gst
            rw [g154 o a (by omega), cvl _ o a c4]
      · have hfp : hf p = false := by
          cases z : hf p
          · rfl
          · rw [z] at g; exact absurd rfl g
        have ci : cI hf (p + 1) = cI hf p := by rw [cI_f p1.1 hfp]; omega
        have fx : Fk sI' d (xs d 154 p 10) := Fk_xs Fk_refl rfl
        have hm2 := @ih (D - 1) (xs d 154 p 10) alone cost lead ch st P (by omega) (by omega) (gmX_fk hx fx) (fun x a c4 => ?_) (fun o a c4 => ?_) (stM_c hst ?_ ?_ ?_) (by rw [← ep, ci]; omega) (by rw [← ep, ci]; omega) (fun d' f' g156 g154 gst => ?_)
        · rw [← ep] at hm2
          exact hm2
        · rw [xs_np (by decide)]; exact hld x a c4
        · by_cases z : o = p
          · subst z
            rw [xs_eq]
            unfold cvF
            rw [if_neg (by rw [hfp]; decide)]
          · rw [xs_ni z]
            exact hch o a (by omega)
        · rw [xs_np (by decide)]
        · rw [xs_np (by decide)]
        · rw [xs_fn, if_neg (by decide)]
        · rw [← ep, ci] at gst
          exact hP d' (Fk_trans fx f') (by rw [g156, xs_fn, if_neg (by decide)]) (fun o a c4 => g154 o a (by omega)) gst
    refine yV_of rfl rfl rfl (by omega) (yk_218_147_0 ⟨by omega, lr.1, fun c => stay (by rcases hst with z | z <;> omega), fun c => ⟨fun c2 => go, fun c2 => ⟨by omega, lr.2, fun c3 => go, fun c3 => stay (by rcases hst with z | z <;> omega)⟩⟩⟩)
theorem sq_218_162 {hf : Int → Bool} {tr : Int → Int} {pr : Int → Int → Int} {k : Int} (hn : 0 ≤ n ∧ n ≤ 9) (hk : cI hf n = k) (hr : ∀ i g, -1 ≤ pr i g ∧ pr i g ≤ 99) : ∀ (q : Nat) {D : Nat} {d : xh_D} {alone cost : Int} {lead ch : Int → Int} {st : Int × (Int → Int)} {P : xh_D → xd_E → Prop}, (q : Int) ≤ n → q + 2 ≤ D → gmX hf tr pr n d → (∀ g, 0 ≤ g → g < n → d 156 g = lead g ∧ 0 ≤ lead g ∧ lead g ≤ 2) → (∀ p, 0 ≤ p → p < n - q → d 154 p = cvF hf ch p) → stM hf n k st d → (0 ≤ alone ∧ alone ≤ cI hf (n - q)) → (0 ≤ cost ∧ cost ≤ 99 * (cI hf (n - q) - alone)) → (∀ d', Fk sI' d d' → d' 156 = d 156 → (∀ p, 0 ≤ p → p < n - q → d' 154 p = cvF hf ch p) → stM hf n k (gdD pr n k (k - cI hf (n - q)).toNat (alone * 1000 + cost) lead ch st) d' → P d' e) → yV D 218 L [.ref 146, .ref 162, .int (xJ (n - q)), .int (xJ alone), .int (xJ cost)] d e P := by
  have kr := cI_r hf hn.1
  rw [hk] at kr
  have ge : ∀ (m : Nat), (m : Int) ≤ k → ∀ (sum : Int) (lead ch : Int → Int) (st : Int × (Int → Int)), st.1 ≤ sum → gdD pr n k m sum lead ch st = st := fun m hm sum lead ch st h => gdD_ge (al := fun _ => 0) hn.1 (Int.le_refl _) (fun i g _ _ _ _ q => by have := hr i g; omega) (fun i _ _ => by omega) m hm sum lead ch st (by omega) rfl
  intro q
  induction q with
  | zero =>
    intro D d alone cost lead ch st P hq hD hx hld hch hst ha hc hP
    rw [show n - ((0 : Nat) : Int) = n by omega, hk] at ha hc hP
    rw [show n - ((0 : Nat) : Int) = n by omega] at hch ⊢
    rw [show (k - k).toNat = 0 by omega, gdD_0] at hP
    have x1 := hx.1
    have kn := cI_r hf hn.1
    -- the end of a row that is better
    have fin : (alone * 1000 + cost < st.1) → yB (D - 1) xm_c218 (yQv L P) L 34 [.ref 146, .double 0, .double 0, .double 0, .double 0, .int (xJ 0)] [] (xs (xs d 146 26 alone) 146 27 cost) e := by
      intro hlt
      rw [if_pos hlt] at hP
      have w : ∀ o p, ¬ p = 146 → ¬ p = 155 → xwr (xs (xs d 146 26 alone) 146 27 cost) 155 o (d 154) p = d p := fun o p h1 h2 => by rw [xwr_fn h2, xs_fn, if_neg h1, xs_fn, if_neg h1]
      have w1 : ∀ o, xwr (xs (xs d 146 26 alone) 146 27 cost) 155 o (d 154) 146 1 = n := fun o => by rw [xwr_fn (by decide), xs_ni (by decide), xs_ni (by decide), x1]
      have hlp := lp_up (n := n) (X := fun o => yB (D - 1) xm_c218 (yQv L P) L 34 [.ref 146, .double 0, .double 0, .double 0, .double 0, .int (xJ o)] [] (xwr (xs (xs d 146 26 alone) 146 27 cost) 155 o (d 154)) e) hn.1 ?_ ?_
      · rw [xwr_0] at hlp; exact hlp
      · intro o o1 o2 ih
        refine yk_218_162_34 ?_
        rw [w1, w o 154 (by decide) (by decide)]
        rw [← xwr_s o1] at ih
        exact ⟨by omega, by omega, fun c => by omega, fun _ => ⟨by omega, ih⟩⟩
      · refine yk_218_162_34 ?_
        rw [w1]
        refine ⟨by omega, by omega, fun _ => hP _ (Fk_wr (Fk_xs (Fk_xs Fk_refl rfl) rfl) (fun _ => rfl)) (w _ 156 (by decide) (by decide)) (fun p a c => by rw [w _ 154 (by decide) (by decide)]; exact hch p a c) (Or.inr ?_), fun c => by omega⟩
        have w26 : xwr (xs (xs d 146 26 alone) 146 27 cost) 155 n (d 154) 146 26 = alone := by rw [xwr_fn (by decide), xs_ni (by decide), xs_eq]
        have w27 : xwr (xs (xs d 146 26 alone) 146 27 cost) 155 n (d 154) 146 27 = cost := by rw [xwr_fn (by decide), xs_eq]
        rw [w26, w27]
        exact ⟨rfl, by omega, by omega, fun p a c => by rw [xwr_at ⟨a, c⟩]; exact hch p a c⟩
    have stay : ¬ (alone * 1000 + cost < st.1) → P d e := fun hlt => by
      rw [if_neg hlt] at hP
      exact hP d Fk_refl rfl hch hst
    have lr : yR (d 146 26) ∧ yR (d 146 27) := by rcases hst with z | z <;> omega
    refine yV_of rfl rfl rfl (by omega) (yk_218_162_0 ⟨by omega, lr.1, fun c => stay (by rcases hst with z | z <;> omega), fun c => ⟨fun c2 => ?_, fun c2 => ⟨by omega, lr.2, fun c3 => ?_, fun c3 => stay (by rcases hst with z | z <;> omega)⟩⟩⟩)
    · refine yk_218_162_13 (by omega) ⟨by omega, by omega, fun g => absurd x1.symm g, fun _ => ⟨by omega, lr.1, fun _ => fin (by rcases hst with z | z <;> omega), fun g => absurd g c2⟩⟩
    · refine yk_218_162_13 (by omega) ⟨by omega, by omega, fun g => absurd x1.symm g, fun _ => ⟨by omega, lr.1, fun g => absurd c2 g, fun _ => ⟨by omega, lr.2, fun g => fin (by rcases hst with z | z <;> omega), fun g => stay (by rcases hst with z | z <;> omega)⟩⟩⟩
  | succ q ih =>
    intro D d alone cost lead ch st P hq hD hx hld hch hst ha hc hP
    obtain ⟨x1, x2, x3, x4⟩ := id hx
    have ep : n - ((q + 1 : Nat) : Int) + 1 = n - (q : Int) := by omega
    generalize hp : n - ((q + 1 : Nat) : Int) = p at hch ha hc hP ep
    have p1 : 0 ≤ p ∧ p < n := by omega
    have cm : cI hf p ≤ k := by rw [← hk]; exact cI_mono p1.1 (by omega)
    have c0 := cI_r hf p1.1
    have lr : yR (d 146 26) ∧ yR (d 146 27) := by rcases hst with z | z <;> omega
    have stay : st.1 ≤ alone * 1000 + cost → P d e := fun hlt => by
      rw [ge _ (by omega) _ _ _ _ hlt] at hP
      exact hP d Fk_refl rfl hch hst
    have bt : xi_and (xi_shr (d 146 25) p) 1 = if hf p = true then 1 else 0 := by rw [x2]; exact bI_test (by omega) p1
    have go : yB (D - 1) xm_c218 (yQv L P) L 13 [.ref 146, .ref 162, .int (xJ p), .int (xJ alone), .int (xJ cost), .double 0] [] d e := by
      refine yk_218_162_13 (by omega) ?_
      rw [x1, bt]
      refine ⟨by omega, by omega, fun _ => ⟨fun g => ?_, fun g => ⟨by omega, ?_⟩⟩, fun c => by omega⟩
      · have hfp : hf p = true := by
          cases z : hf p
          · rw [z] at g; exact absurd g (by decide)
          · rfl
        have ci : cI hf (p + 1) = cI hf p + 1 := cI_t p1.1 hfp
        have cm2 : cI hf (p + 1) ≤ k := by rw [← hk]; exact cI_mono (by omega) (by omega)
        rw [show (k - cI hf p).toNat = (k - cI hf (p + 1)).toNat + 1 by omega, gdD_s (i := cI hf p) (by omega)] at hP
        generalize hm : (k - cI hf (p + 1)).toNat = m at hP
        generalize hS : gdS pr n k m (cI hf p) (alone * 1000 + cost) lead ch = S at hP
        have hSg : ∀ g s, S g s = if pr (cI hf p) g = -1 ∨ 2 ≤ lead g then s else gdD pr n k m (alone * 1000 + cost + pr (cI hf p) g) (upI lead g (lead g + 1)) (upI ch (cI hf p) g) s := fun g s => by rw [← hS]; rfl
        have cvl : ∀ v o, 0 ≤ o → o < p → cvF hf (upI ch (cI hf p) v) o = cvF hf ch o := fun v o a c => by
          unfold cvF
          by_cases z : hf o = true
          · have : cI hf (o + 1) ≤ cI hf p := cI_mono (by omega) (by omega)
            rw [cI_t a z] at this
            rw [if_pos z, if_pos z, show upI ch (cI hf p) v (cI hf o) = ch (cI hf o) from if_neg (by omega)]
          · rw [if_neg z, if_neg z]
        have cvp : ∀ v, cvF hf (upI ch (cI hf p) v) p = if v = -1 then 9 else v := fun v => by
          unfold cvF
          rw [if_pos hfp, upI_app, if_pos rfl]
        refine lp_up (n := n) (X := fun g => ∀ dc, Fk sI' d dc → dc 156 = d 156 → (∀ o, 0 ≤ o → o < p → dc 154 o = cvF hf ch o) → stM hf n k (fI S st g) dc → yB (D - 1) xm_c218 (yQv L P) L 70 [.ref 146, .ref 162, .int (xJ p), .int (xJ alone), .int (xJ cost), .int (xJ g)] [] dc e) hn.1 ?_ ?_ d Fk_refl rfl hch hst
        · intro g g1 g2 ihg dc f e156 e154 hs
          have xc := gmX_fk hx f
          obtain ⟨y1, y2, y3, y4⟩ := id xc
          have t := y3 p g p1.1 p1.2 g1 g2
          have pp := y4 p g p1.1 p1.2 g1 g2 hfp
          have hl := hld g g1 g2
          have rp := hr (cI hf p) g
          have bg : xi_and (xi_shr (dc 146 25) g) 1 = if hf g = true then 1 else 0 := by rw [y2]; exact bI_test (by omega) ⟨g1, g2⟩
          rw [fI_s _ _ g1, hSg] at ihg
          refine yk_218_162_70 (by omega) ?_
          rw [y1, bg, t.1, e156, hl.1]
          refine ⟨by omega, by omega, fun c => by omega, fun _ => ⟨fun c => ?_, fun c => ⟨by omega, by omega, fun c2 => ?_, fun c2 => ⟨by omega, by omega, fun c3 => ⟨by omega, ?_⟩, fun c3 => ?_⟩⟩⟩⟩
          · have hg : hf g = true := by
              cases z : hf g
              · rw [z] at c; exact absurd c (by decide)
              · rfl
            rw [if_pos (Or.inl (pp.1.mpr (Or.inl hg)))] at ihg
            exact ihg dc f e156 e154 hs
          · rw [if_pos (Or.inl (pp.1.mpr (Or.inr c2)))] at ihg
            exact ihg dc f e156 e154 hs
          · have hg : ¬ hf g = true := fun z => c (by rw [if_pos z])
            have hpr : ¬ pr (cI hf p) g = -1 := fun z => (pp.1.mp z).elim hg c2
            rw [if_neg (by omega)] at ihg
            rw [pp.2 hpr]
            have fx : Fk sI' d (xs (xs dc 154 p g) 156 g (lead g + 1)) := Fk_xs (Fk_xs f rfl) rfl
            have hm2 := @ih (D - 1) (xs (xs dc 154 p g) 156 g (lead g + 1)) alone (cost + pr (cI hf p) g) (upI lead g (lead g + 1)) (upI ch (cI hf p) g) (fI S st g) (fun d11 e12 => yB (D - 1) xm_c218 (yQv L P) L 70 [.ref 146, .ref 162, .int (xJ p), .int (xJ alone), .int (xJ cost), .int (xJ (g + 1))] [] (xs d11 156 g ((d11 156 g) - 1)) e12) (by omega) (by omega) (gmX_fk hx fx) (fun x a c4 => ?_) (fun o a c4 => ?_) (stM_c hs ?_ ?_ ?_) (by rw [← ep]; omega) (by rw [← ep]; omega) (fun d' f' g156 g154 gst => ?_)
            · rw [← ep] at hm2
              exact hm2
            · by_cases z : x = g
              · subst z
                rw [xs_eq, upI_app, if_pos rfl]
                omega
              · rw [xs_ni z, xs_np (by decide), e156, upI_app, if_neg z]
                exact hld x a c4
            · rw [xs_np (by decide)]
              by_cases z : o = p
              · subst z
                rw [xs_eq, cvp, if_neg (by omega)]
              · rw [xs_ni z, cvl g o a (by omega)]
                exact e154 o a (by omega)
            · rw [xs_np (by decide), xs_np (by decide)]
            · rw [xs_np (by decide), xs_np (by decide)]
            · rw [xs_fn, if_neg (by decide), xs_fn, if_neg (by decide)]
            · have z156 : xs d' 156 g (d' 156 g - 1) 156 = d 156 := by
                funext x
                rw [xs_app, g156]
                by_cases z : x = g
                · rw [if_pos ⟨rfl, z⟩, xs_eq, z, hl.1]; omega
                · rw [if_neg (fun w => z w.2), xs_ni z, xs_np (by decide), e156]
              rw [← ep, hm, show alone * 1000 + (cost + pr (cI hf p) g) = alone * 1000 + cost + pr (cI hf p) g by omega] at gst
              refine ihg _ (Fk_xs (Fk_trans fx f') rfl) z156 (fun o a c4 => ?_) (stM_c gst ?_ ?_ ?_)
              · rw [xs_np (by decide), g154 o a (by omega), cvl g o a c4]
              · rw [xs_np (by decide)]
              · rw [xs_np (by decide)]
              · rw [xs_fn, if_neg (by decide)]
          · rw [if_pos (Or.inr (by omega))] at ihg
            exact ihg dc f e156 e154 hs
        · intro dc f e156 e154 hs
          have xc := gmX_fk hx f
          refine yk_218_162_70 (by omega) ?_
          rw [xc.1]
          refine ⟨by omega, by omega, fun _ => ⟨by omega, ?_⟩, fun c => by omega⟩
          have fx : Fk sI' d (xs dc 154 p 9) := Fk_xs f rfl
          have hm2 := @ih (D - 1) (xs dc 154 p 9) (alone + 1) cost lead (upI ch (cI hf p) (-1)) (fI S st n) P (by omega) (by omega) (gmX_fk hx fx) (fun x a c4 => ?_) (fun o a c4 => ?_) (stM_c hs ?_ ?_ ?_) (by rw [← ep]; omega) (by rw [← ep]; omega) (fun d' f' g156 g154 gst => ?_)
          · rw [← ep] at hm2
            exact hm2
          · rw [xs_np (by decide), e156]; exact hld x a c4
          · by_cases z : o = p
            · subst z
              rw [xs_eq, cvp, if_pos rfl]
            · rw [xs_ni z, cvl _ o a (by omega)]
              exact e154 o a (by omega)
          · rw [xs_np (by decide)]
          · rw [xs_np (by decide)]
          · rw [xs_fn, if_neg (by decide)]
          · rw [← ep, hm, show (alone + 1) * 1000 + cost = alone * 1000 + cost + 1000 by omega] at gst
            refine hP d' (Fk_trans fx f') (by rw [g156, xs_fn, if_neg (by decide), e156]) (fun o a c4 => ?_) gst
            rw [g154 o a (by omega), cvl _ o a c4]
      · have hfp : hf p = false := by
          cases z : hf p
          · rfl
          · rw [z] at g; exact absurd rfl g
        have ci : cI hf (p + 1) = cI hf p := by rw [cI_f p1.1 hfp]; omega
        have fx : Fk sI' d (xs d 154 p 10) := Fk_xs Fk_refl rfl
        have hm2 := @ih (D - 1) (xs d 154 p 10) alone cost lead ch st P (by omega) (by omega) (gmX_fk hx fx) (fun x a c4 => ?_) (fun o a c4 => ?_) (stM_c hst ?_ ?_ ?_) (by rw [← ep, ci]; omega) (by rw [← ep, ci]; omega) (fun d' f' g156 g154 gst => ?_)
        · rw [← ep] at hm2
          exact hm2
        · rw [xs_np (by decide)]; exact hld x a c4
        · by_cases z : o = p
          · subst z
            rw [xs_eq]
            unfold cvF
            rw [if_neg (by rw [hfp]; decide)]
          · rw [xs_ni z]
            exact hch o a (by omega)
        · rw [xs_np (by decide)]
        · rw [xs_np (by decide)]
        · rw [xs_fn, if_neg (by decide)]
        · rw [← ep, ci] at gst
          exact hP d' (Fk_trans fx f') (by rw [g156, xs_fn, if_neg (by decide)]) (fun o a c4 => g154 o a (by omega)) gst
    refine yV_of rfl rfl rfl (by omega) (yk_218_162_0 ⟨by omega, lr.1, fun c => stay (by rcases hst with z | z <;> omega), fun c => ⟨fun c2 => go, fun c2 => ⟨by omega, lr.2, fun c3 => go, fun c3 => stay (by rcases hst with z | z <;> omega)⟩⟩⟩)
def fdM (hf : Int → Bool) (n : Int) (B : Int × (Int → Int)) (d : xh_D) : Prop := d 146 25 = bI hf n ∧ B.1 = d 146 26 * 1000 + d 146 27 ∧ (0 ≤ d 146 26 ∧ d 146 26 ≤ 9) ∧ (0 ≤ d 146 27 ∧ d 146 27 ≤ 891) ∧ ∀ p, 0 ≤ p → p < n → d 155 p = cvF hf B.2 p
/-- of the people: what a look for guides needs, in the reference -/
def okM (n : Int) (a : Nat) (h s t tr : Int → Int) (d : xh_D) : Prop := d 146 1 = n ∧ (0 ≤ n ∧ n ≤ 9) ∧ (∀ p, 0 ≤ p → p < n → (d a p = h p ∧ d a (9 + p) = s p ∧ d a (18 + p) = t p) ∧ (0 ≤ h p ∧ h p < 9) ∧ (0 ≤ s p ∧ s p < 9) ∧ (0 ≤ t p ∧ t p < 64)) ∧ (∀ p g, 0 ≤ p → p < n → 0 ≤ g → g < n → d 148 (p * 9 + g) = tr (p * 9 + g) ∧ 0 ≤ tr (p * 9 + g) ∧ tr (p * 9 + g) ≤ 9)
def sJ (p : Nat) (i : Int) : Bool := p == 157 || sC p i
theorem sJ_m {d d' : xh_D} (f : Fk sJ d d') : Fk sm d d' := Fk_mono f (fun p i q => by
  by_cases z : p = 157
  · subst z; exact absurd (show true = false from q) (by decide)
  · by_cases z2 : p = 146
    · subst z2
      cases w : sJ 146 i
      · rfl
      · exfalso
        have : (9 ≤ i ∧ i ≤ 13) ∨ (17 ≤ i ∧ i ≤ 20) := by simpa [sJ, sC] using w
        have : i = 9 ∨ i = 10 ∨ i = 11 ∨ i = 12 ∨ i = 13 ∨ i = 17 ∨ i = 18 ∨ i = 19 ∨ i = 20 := by omega
        rcases this with rfl | rfl | rfl | rfl | rfl | rfl | rfl | rfl | rfl <;> exact absurd q (by decide)
    · simp [sJ, sC, z, z2])
theorem okM_fk {a : Nat} {h s t tr : Int → Int} {d' : xh_D} (ha : a = 147 ∨ a = 162) (ok : okM n a h s t tr d) (f : Fk sJ d d') : okM n a h s t tr d' := by
  unfold okM at ok ⊢
  rw [f 146 1 rfl, Fk_p f (p := 148) (fun _ => rfl), Fk_p f (p := a) (fun _ => by rcases ha with rfl | rfl <;> rfl)]
  exact ok
theorem sq_219_147 {F : (Int → Int) → Int} {h s t tr hp : Int → Int} {day : Int} {P : xh_D → xd_E → Prop} (hD : 110 ≤ D) (hM : rM F (d 146 16) (d 153)) (ok : okM n 147 h s t tr d) (h156 : ∀ g, 0 ≤ g → g < n → d 156 g = 0) (hd : 0 ≤ day ∧ day < 2147483648) (hpx : hpX (fun p => decide (h p = day % 9)) hp n) (hP : ∀ d', Fk sm d d' → (∀ q, ¬ q = 146 → ¬ q = 154 → ¬ q = 155 → ¬ q = 157 → d' q = d q) → fdM (fun p => decide (h p = day % 9)) n (gdB (prF F tr h s t hp day) n (cI (fun p => decide (h p = day % 9)) n)) d' → P d' e) : yV D 219 L [.ref 146, .ref 147, .int (xJ day)] d e P := by
  obtain ⟨o1, hn, o3, o4⟩ := id ok
  generalize hh : (fun p => decide (h p = day % 9)) = hf at hpx hP
  generalize hpr : prF F tr h s t hp day = pr at hP
  have rr : ∀ i g, -1 ≤ pr i g ∧ pr i g ≤ 99 := fun i g => by rw [← hpr]; exact prF_r
  have kr := cI_r hf hn.1
  have hfg : ∀ g, hf g = true ↔ h g = day % 9 := fun g => by rw [← hh]; simp
  refine yV_of rfl rfl rfl (by omega) (yk_219_147_0 ?_)
  refine sq_217_147 (by omega) hd (by rw [o1]; exact hn) (by rw [o1]; exact fun p a c => by have := o3 p a c; rw [this.1.1]; exact this.2.1) ?_
  have hb : bI (fun p => decide (d 147 p = day % 9)) (d 146 1) = bI hf n := by
    rw [o1, ← hh]
    exact bI_congr (fun p a c => by rw [(o3 p a c).1.1])
  rw [hb]
  generalize hd1 : xs d 146 25 (bI hf n) = d1
  have f1 : Fk (fun p i => p == 146 && decide (i = 25)) d d1 := by rw [← hd1]; exact Fk_xs Fk_refl rfl
  have e25 : d1 146 25 = bI hf n := by rw [← hd1, xs_eq]
  have ok1 : okM n 147 h s t tr d1 := by
    unfold okM at ok ⊢
    rw [f1 146 1 rfl, Fk_p f1 (p := 148) (fun _ => rfl), Fk_p f1 (p := 147) (fun _ => rfl)]
    exact ok
  have hM1 : rM F (d1 146 16) (d1 153) := by rw [f1 146 16 rfl, Fk_p f1 (p := 153) (fun _ => rfl)]; exact hM
  refine lp_up (n := n) (X := fun p => ∀ dc, Fk sJ d1 dc → (∀ q g, 0 ≤ q → q < p → 0 ≤ g → g < n → hf q = true → hf g = false → dc 157 (9 * q + g) = cst F tr s t q g day) → yB (D - 1) xm_c219 (yQv L P) L 8 [.ref 146, .ref 147, .int (xJ day), .int (xJ p), .double 0] [] dc e) hn.1 ?_ ?_ d1 Fk_refl (fun q g a c => by omega)
  · intro p a c ih dc f hc
    refine yk_219_147_8 ?_
    rw [(okM_fk (by simp) ok1 f).1]
    refine ⟨by omega, by omega, fun g => by omega, fun _ => ?_⟩
    refine lp_up (n := n) (X := fun g => ∀ dc, Fk sJ d1 dc → (∀ q g', 0 ≤ q → (q < p ∧ g' < n ∨ q = p ∧ g' < g) → 0 ≤ g' → g' < n → hf q = true → hf g' = false → dc 157 (9 * q + g') = cst F tr s t q g' day) → yB (D - 1) xm_c219 (yQv L P) L 14 [.ref 146, .ref 147, .int (xJ day), .int (xJ p), .int (xJ g)] [] dc e) hn.1 ?_ ?_ dc f (fun q g' a2 c2 a3 c3 => hc q g' a2 (by omega) a3 c3)
    · intro g g1 g2 ihg dc f hc
      have okc := okM_fk (by simp) ok1 f
      have bp : ∀ x, 0 ≤ x → x < n → xi_and (xi_shr (dc 146 25) x) 1 = if hf x = true then 1 else 0 := fun x a c => by rw [f 146 25 rfl, e25]; exact bI_test (by omega) ⟨a, c⟩
      have q1 := okc.2.2.1 p a c
      have q2 := okc.2.2.1 g g1 g2
      have t1 := okc.2.2.2 p g a c g1 g2
      have t2 := okc.2.2.2 g p g1 g2 a c
      refine yk_219_147_14 (by omega) ?_
      rw [okc.1, bp p a c, bp g g1 g2]
      have skip : ¬ (hf p = true ∧ hf g = false) → yB (D - 1) xm_c219 (yQv L P) L 14 [.ref 146, .ref 147, .int (xJ day), .int (xJ p), .int (xJ (g + 1))] [] dc e := fun hz => ihg dc f (fun q g' a2 c2 a3 c3 h1 h2 => by
        by_cases z : q = p ∧ g' = g
        · rw [z.1] at h1; rw [z.2] at h2; exact absurd ⟨h1, h2⟩ hz
        · exact hc q g' a2 (by omega) a3 c3 h1 h2)
      refine ⟨by omega, by omega, fun z => by omega, fun _ => ⟨fun z => ⟨fun z2 => skip ?_, fun z2 => ?_⟩, fun z => skip ?_⟩⟩
      · intro w
        rw [w.2] at z2
        exact absurd z2 (by decide)
      · have hfp : hf p = true := by
          cases w : hf p
          · rw [w] at z; exact absurd z (by decide)
          · rfl
        have hfg' : hf g = false := by
          cases w : hf g
          · rfl
          · rw [w] at z2; exact absurd rfl z2
        refine hM1 147 (by simp) (D - 1) L dc e _ p g day (by omega) (by rw [f 146 16 rfl]) (fun i _ _ => by rw [Fk_p f (p := 153) (fun _ => rfl)]) (by omega) (by omega) hd (by omega) (by omega) (by omega) (by omega) (by omega) (by omega) (fun d' f' => ⟨by omega, ?_⟩)
        have f'J : Fk sJ dc d' := Fk_mono f' (fun p i w => by simp [sJ] at w; exact w.2)
        refine ihg _ (Fk_xs (Fk_trans f f'J) rfl) (fun q g' a2 c2 a3 c3 h1 h2 => ?_)
        by_cases z3 : q = p ∧ g' = g
        · rw [z3.1, z3.2, xs_eq, t1.1, t2.1, q1.1.2.1, q1.1.2.2, q2.1.2.1, q2.1.2.2]
          rfl
        · rw [xs_ni (by omega), Fk_p f' (p := 157) (fun _ => rfl)]
          exact hc q g' a2 (by omega) a3 c3 h1 h2
      · intro w
        rw [w.1] at z
        exact z rfl
    · intro dc f hc
      refine yk_219_147_14 (by omega) ?_
      rw [(okM_fk (by simp) ok1 f).1]
      exact ⟨by omega, by omega, fun _ => ih dc f (fun q g a2 c2 a3 c3 h1 h2 => hc q g a2 (by omega) a3 c3 h1 h2), fun z => by omega⟩
  · intro dc f hc
    have okc := okM_fk (by simp) ok1 f
    refine yk_219_147_8 ?_
    rw [okc.1]
    refine ⟨by omega, by omega, fun _ => ?_, fun g => by omega⟩
    generalize hd2 : xs (xs dc 146 26 1000000) 146 27 1000000 = d2
    have y : ∀ p, ¬ p = 146 → d2 p = dc p := fun p hp => by rw [← hd2, xs_fn, if_neg hp, xs_fn, if_neg hp]
    have ym : ∀ i, ¬ i = 26 → ¬ i = 27 → d2 146 i = dc 146 i := fun i h1 h2 => by rw [← hd2, xs_ni h2, xs_ni h1]
    have hx : gmX hf tr pr n d2 := by
      refine ⟨by rw [ym 1 (by decide) (by decide)]; exact okc.1, by rw [ym 25 (by decide) (by decide), f 146 25 rfl, e25], fun p g a c a2 c2 => ?_, fun p g a c a2 c2 h1 => ?_⟩
      · rw [y 148 (by decide), show 9 * p + g = p * 9 + g by omega]
        exact okc.2.2.2 p g a c a2 c2
      · have hpp := hpx.1 p a c h1
        have hiff : pr (cI hf p) g = -1 ↔ hf g = true ∨ tr (p * 9 + g) = 0 := by
          have cr := cst_r (F := F) (tr := tr) (s := s) (t := t) (p := p) (g := g) (day := day)
          rw [← hpr, hfg]
          unfold prF
          rw [hpp]
          constructor
          · intro z
            by_cases w : h g = day % 9 ∨ tr (p * 9 + g) = 0
            · exact w
            · rw [if_neg w] at z; omega
          · intro z
            rw [if_pos z]
        refine ⟨hiff, fun z => ?_⟩
        have w : ¬ (hf g = true ∨ tr (p * 9 + g) = 0) := fun w => z (hiff.mpr w)
        have hg : hf g = false := by
          cases v : hf g
          · rfl
          · exact absurd (Or.inl v) w
        rw [y 157 (by decide), hc p g a c a2 c2 h1 hg, ← hpr]
        unfold prF
        rw [hpp, if_neg (fun v => w (v.elim (fun v => Or.inl ((hfg g).mpr v)) Or.inr))]
    have hm := @sq_218_147 L e n hf tr pr (cI hf n) hn rfl rr n.toNat (D - 1) d2 0 0 (fun _ => 0) (fun _ => 0) (cI hf n * 1000 + 1, fun _ => 0) P (by omega) (by omega) hx (fun g a c => by rw [y 156 (by decide), Fk_p f (p := 156) (fun _ => rfl), Fk_p f1 (p := 156) (fun _ => rfl)]; exact ⟨h156 g a c, by omega, by omega⟩) (fun p a c => by omega) (Or.inl ⟨by rw [← hd2, xs_ni (by decide), xs_eq], by rw [← hd2, xs_eq], rfl⟩) (by rw [show n - ((n.toNat : Nat) : Int) = 0 by omega, cI_0]; omega) (by rw [show n - ((n.toNat : Nat) : Int) = 0 by omega, cI_0]; omega) (fun d' f' g156 g154 gst => ?_)
    · rw [show n - ((n.toNat : Nat) : Int) = 0 by omega] at hm
      exact hm
    · rw [show n - ((n.toNat : Nat) : Int) = 0 by omega, cI_0, show cI hf n - 0 = cI hf n by omega] at gst
      have gb := (gdB_ok (pr := pr) (n := n) (k := cI hf n) hn.1 kr.1).2
      refine hP d' ?_ (fun q h1 h2 h3 h4 => ?_) ⟨by rw [f' 146 25 rfl, ym 25 (by decide) (by decide), f 146 25 rfl, e25], ?_⟩
      · have fa : Fk sm d d1 := Fk_mono f1 (fun p i w => by
          by_cases z : p = 146 ∧ i = 25
          · rw [z.1, z.2] at w; exact absurd w (by decide)
          · by_cases z3 : p = 146
            · simp [z3]; exact fun c => z ⟨z3, c⟩
            · simp [z3])
        have fb : Fk sm d1 d2 := by rw [← hd2]; exact Fk_xs (Fk_xs (sJ_m f) rfl) rfl
        refine Fk_trans fa (Fk_trans fb (fun p i w => ?_))
        by_cases z : p = 156
        · subst z; rw [g156]
        · refine f' p i ?_
          cases v : sI' p i
          · rfl
          · exfalso
            have : p = 154 ∨ p = 155 ∨ p = 146 ∧ (i = 26 ∨ i = 27) := by
              simp only [sI', Bool.or_eq_true, beq_iff_eq, Bool.and_eq_true, decide_eq_true_eq] at v
              omega
            rcases this with rfl | rfl | ⟨rfl, rfl | rfl⟩
            · exact absurd (show true = false from w) (by decide)
            · exact absurd (show true = false from w) (by decide)
            · exact absurd w (by decide)
            · exact absurd w (by decide)
      · have e0 : d2 q = d q := by rw [y q h1, Fk_p f (fun i => by simp [sJ, sC, h1, h4]), Fk_p f1 (fun i => by simp [h1])]
        by_cases z : q = 156
        · rw [z, g156, ← z, e0]
        · rw [Fk_p f' (fun i => by simp [sI', h1, h2, h3, z]), e0]
      · rcases gst with z | z
        · exfalso
          have : (gdB pr n (cI hf n)).1 = cI hf n * 1000 + 1 := z.2.2
          omega
        · exact z
theorem sq_219_162 {F : (Int → Int) → Int} {h s t tr hp : Int → Int} {day : Int} {P : xh_D → xd_E → Prop} (hD : 110 ≤ D) (hM : rM F (d 146 16) (d 153)) (ok : okM n 162 h s t tr d) (h156 : ∀ g, 0 ≤ g → g < n → d 156 g = 0) (hd : 0 ≤ day ∧ day < 2147483648) (hpx : hpX (fun p => decide (h p = day % 9)) hp n) (hP : ∀ d', Fk sm d d' → (∀ q, ¬ q = 146 → ¬ q = 154 → ¬ q = 155 → ¬ q = 157 → d' q = d q) → fdM (fun p => decide (h p = day % 9)) n (gdB (prF F tr h s t hp day) n (cI (fun p => decide (h p = day % 9)) n)) d' → P d' e) : yV D 219 L [.ref 146, .ref 162, .int (xJ day)] d e P := by
  obtain ⟨o1, hn, o3, o4⟩ := id ok
  generalize hh : (fun p => decide (h p = day % 9)) = hf at hpx hP
  generalize hpr : prF F tr h s t hp day = pr at hP
  have rr : ∀ i g, -1 ≤ pr i g ∧ pr i g ≤ 99 := fun i g => by rw [← hpr]; exact prF_r
  have kr := cI_r hf hn.1
  have hfg : ∀ g, hf g = true ↔ h g = day % 9 := fun g => by rw [← hh]; simp
  refine yV_of rfl rfl rfl (by omega) (yk_219_162_0 ?_)
  refine sq_217_162 (by omega) hd (by rw [o1]; exact hn) (by rw [o1]; exact fun p a c => by have := o3 p a c; rw [this.1.1]; exact this.2.1) ?_
  have hb : bI (fun p => decide (d 162 p = day % 9)) (d 146 1) = bI hf n := by
    rw [o1, ← hh]
    exact bI_congr (fun p a c => by rw [(o3 p a c).1.1])
  rw [hb]
  generalize hd1 : xs d 146 25 (bI hf n) = d1
  have f1 : Fk (fun p i => p == 146 && decide (i = 25)) d d1 := by rw [← hd1]; exact Fk_xs Fk_refl rfl
  have e25 : d1 146 25 = bI hf n := by rw [← hd1, xs_eq]
  have ok1 : okM n 162 h s t tr d1 := by
    unfold okM at ok ⊢
    rw [f1 146 1 rfl, Fk_p f1 (p := 148) (fun _ => rfl), Fk_p f1 (p := 162) (fun _ => rfl)]
    exact ok
  have hM1 : rM F (d1 146 16) (d1 153) := by rw [f1 146 16 rfl, Fk_p f1 (p := 153) (fun _ => rfl)]; exact hM
  refine lp_up (n := n) (X := fun p => ∀ dc, Fk sJ d1 dc → (∀ q g, 0 ≤ q → q < p → 0 ≤ g → g < n → hf q = true → hf g = false → dc 157 (9 * q + g) = cst F tr s t q g day) → yB (D - 1) xm_c219 (yQv L P) L 8 [.ref 146, .ref 162, .int (xJ day), .int (xJ p), .double 0] [] dc e) hn.1 ?_ ?_ d1 Fk_refl (fun q g a c => by omega)
  · intro p a c ih dc f hc
    refine yk_219_162_8 ?_
    rw [(okM_fk (by simp) ok1 f).1]
    refine ⟨by omega, by omega, fun g => by omega, fun _ => ?_⟩
    refine lp_up (n := n) (X := fun g => ∀ dc, Fk sJ d1 dc → (∀ q g', 0 ≤ q → (q < p ∧ g' < n ∨ q = p ∧ g' < g) → 0 ≤ g' → g' < n → hf q = true → hf g' = false → dc 157 (9 * q + g') = cst F tr s t q g' day) → yB (D - 1) xm_c219 (yQv L P) L 14 [.ref 146, .ref 162, .int (xJ day), .int (xJ p), .int (xJ g)] [] dc e) hn.1 ?_ ?_ dc f (fun q g' a2 c2 a3 c3 => hc q g' a2 (by omega) a3 c3)
    · intro g g1 g2 ihg dc f hc
      have okc := okM_fk (by simp) ok1 f
      have bp : ∀ x, 0 ≤ x → x < n → xi_and (xi_shr (dc 146 25) x) 1 = if hf x = true then 1 else 0 := fun x a c => by rw [f 146 25 rfl, e25]; exact bI_test (by omega) ⟨a, c⟩
      have q1 := okc.2.2.1 p a c
      have q2 := okc.2.2.1 g g1 g2
      have t1 := okc.2.2.2 p g a c g1 g2
      have t2 := okc.2.2.2 g p g1 g2 a c
      refine yk_219_162_14 (by omega) ?_
      rw [okc.1, bp p a c, bp g g1 g2]
      have skip : ¬ (hf p = true ∧ hf g = false) → yB (D - 1) xm_c219 (yQv L P) L 14 [.ref 146, .ref 162, .int (xJ day), .int (xJ p), .int (xJ (g + 1))] [] dc e := fun hz => ihg dc f (fun q g' a2 c2 a3 c3 h1 h2 => by
        by_cases z : q = p ∧ g' = g
        · rw [z.1] at h1; rw [z.2] at h2; exact absurd ⟨h1, h2⟩ hz
        · exact hc q g' a2 (by omega) a3 c3 h1 h2)
      refine ⟨by omega, by omega, fun z => by omega, fun _ => ⟨fun z => ⟨fun z2 => skip ?_, fun z2 => ?_⟩, fun z => skip ?_⟩⟩
      · intro w
        rw [w.2] at z2
        exact absurd z2 (by decide)
      · have hfp : hf p = true := by
          cases w : hf p
          · rw [w] at z; exact absurd z (by decide)
          · rfl
        have hfg' : hf g = false := by
          cases w : hf g
          · rfl
          · rw [w] at z2; exact absurd rfl z2
        refine hM1 162 (by simp) (D - 1) L dc e _ p g day (by omega) (by rw [f 146 16 rfl]) (fun i _ _ => by rw [Fk_p f (p := 153) (fun _ => rfl)]) (by omega) (by omega) hd (by omega) (by omega) (by omega) (by omega) (by omega) (by omega) (fun d' f' => ⟨by omega, ?_⟩)
        have f'J : Fk sJ dc d' := Fk_mono f' (fun p i w => by simp [sJ] at w; exact w.2)
        refine ihg _ (Fk_xs (Fk_trans f f'J) rfl) (fun q g' a2 c2 a3 c3 h1 h2 => ?_)
        by_cases z3 : q = p ∧ g' = g
        · rw [z3.1, z3.2, xs_eq, t1.1, t2.1, q1.1.2.1, q1.1.2.2, q2.1.2.1, q2.1.2.2]
          rfl
        · rw [xs_ni (by omega), Fk_p f' (p := 157) (fun _ => rfl)]
          exact hc q g' a2 (by omega) a3 c3 h1 h2
      · intro w
        rw [w.1] at z
        exact z rfl
    · intro dc f hc
      refine yk_219_162_14 (by omega) ?_
      rw [(okM_fk (by simp) ok1 f).1]
      exact ⟨by omega, by omega, fun _ => ih dc f (fun q g a2 c2 a3 c3 h1 h2 => hc q g a2 (by omega) a3 c3 h1 h2), fun z => by omega⟩
  · intro dc f hc
    have okc := okM_fk (by simp) ok1 f
    refine yk_219_162_8 ?_
    rw [okc.1]
    refine ⟨by omega, by omega, fun _ => ?_, fun g => by omega⟩
    generalize hd2 : xs (xs dc 146 26 1000000) 146 27 1000000 = d2
    have y : ∀ p, ¬ p = 146 → d2 p = dc p := fun p hp => by rw [← hd2, xs_fn, if_neg hp, xs_fn, if_neg hp]
    have ym : ∀ i, ¬ i = 26 → ¬ i = 27 → d2 146 i = dc 146 i := fun i h1 h2 => by rw [← hd2, xs_ni h2, xs_ni h1]
    have hx : gmX hf tr pr n d2 := by
      refine ⟨by rw [ym 1 (by decide) (by decide)]; exact okc.1, by rw [ym 25 (by decide) (by decide), f 146 25 rfl, e25], fun p g a c a2 c2 => ?_, fun p g a c a2 c2 h1 => ?_⟩
      · rw [y 148 (by decide), show 9 * p + g = p * 9 + g by omega]
        exact okc.2.2.2 p g a c a2 c2
      · have hpp := hpx.1 p a c h1
        have hiff : pr (cI hf p) g = -1 ↔ hf g = true ∨ tr (p * 9 + g) = 0 := by
          have cr := cst_r (F := F) (tr := tr) (s := s) (t := t) (p := p) (g := g) (day := day)
          rw [← hpr, hfg]
          unfold prF
          rw [hpp]
          constructor
          · intro z
            by_cases w : h g = day % 9 ∨ tr (p * 9 + g) = 0
            · exact w
            · rw [if_neg w] at z; omega
          · intro z
            rw [if_pos z]
        refine ⟨hiff, fun z => ?_⟩
        have w : ¬ (hf g = true ∨ tr (p * 9 + g) = 0) := fun w => z (hiff.mpr w)
        have hg : hf g = false := by
          cases v : hf g
          · rfl
          · exact absurd (Or.inl v) w
        rw [y 157 (by decide), hc p g a c a2 c2 h1 hg, ← hpr]
        unfold prF
        rw [hpp, if_neg (fun v => w (v.elim (fun v => Or.inl ((hfg g).mpr v)) Or.inr))]
    have hm := @sq_218_162 L e n hf tr pr (cI hf n) hn rfl rr n.toNat (D - 1) d2 0 0 (fun _ => 0) (fun _ => 0) (cI hf n * 1000 + 1, fun _ => 0) P (by omega) (by omega) hx (fun g a c => by rw [y 156 (by decide), Fk_p f (p := 156) (fun _ => rfl), Fk_p f1 (p := 156) (fun _ => rfl)]; exact ⟨h156 g a c, by omega, by omega⟩) (fun p a c => by omega) (Or.inl ⟨by rw [← hd2, xs_ni (by decide), xs_eq], by rw [← hd2, xs_eq], rfl⟩) (by rw [show n - ((n.toNat : Nat) : Int) = 0 by omega, cI_0]; omega) (by rw [show n - ((n.toNat : Nat) : Int) = 0 by omega, cI_0]; omega) (fun d' f' g156 g154 gst => ?_)
    · rw [show n - ((n.toNat : Nat) : Int) = 0 by omega] at hm
      exact hm
    · rw [show n - ((n.toNat : Nat) : Int) = 0 by omega, cI_0, show cI hf n - 0 = cI hf n by omega] at gst
      have gb := (gdB_ok (pr := pr) (n := n) (k := cI hf n) hn.1 kr.1).2
      refine hP d' ?_ (fun q h1 h2 h3 h4 => ?_) ⟨by rw [f' 146 25 rfl, ym 25 (by decide) (by decide), f 146 25 rfl, e25], ?_⟩
      · have fa : Fk sm d d1 := Fk_mono f1 (fun p i w => by
          by_cases z : p = 146 ∧ i = 25
          · rw [z.1, z.2] at w; exact absurd w (by decide)
          · by_cases z3 : p = 146
            · simp [z3]; exact fun c => z ⟨z3, c⟩
            · simp [z3])
        have fb : Fk sm d1 d2 := by rw [← hd2]; exact Fk_xs (Fk_xs (sJ_m f) rfl) rfl
        refine Fk_trans fa (Fk_trans fb (fun p i w => ?_))
        by_cases z : p = 156
        · subst z; rw [g156]
        · refine f' p i ?_
          cases v : sI' p i
          · rfl
          · exfalso
            have : p = 154 ∨ p = 155 ∨ p = 146 ∧ (i = 26 ∨ i = 27) := by
              simp only [sI', Bool.or_eq_true, beq_iff_eq, Bool.and_eq_true, decide_eq_true_eq] at v
              omega
            rcases this with rfl | rfl | ⟨rfl, rfl | rfl⟩
            · exact absurd (show true = false from w) (by decide)
            · exact absurd (show true = false from w) (by decide)
            · exact absurd w (by decide)
            · exact absurd w (by decide)
      · have e0 : d2 q = d q := by rw [y q h1, Fk_p f (fun i => by simp [sJ, sC, h1, h4]), Fk_p f1 (fun i => by simp [h1])]
        by_cases z : q = 156
        · rw [z, g156, ← z, e0]
        · rw [Fk_p f' (fun i => by simp [sI', h1, h2, h3, z]), e0]
      · rcases gst with z | z
        · exfalso
          have : (gdB pr n (cI hf n)).1 = cI hf n * 1000 + 1 := z.2.2
          omega
        · exact z
end MFD
