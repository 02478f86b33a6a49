/-! CALLS: guides, who is led by nobody. -/
theorem gdD_congr {pr pr' : Int → Int → Int} {n k : Int} (h : ∀ i g, 0 ≤ i → i < k → 0 ≤ g → g < n → pr i g = pr' i g) : ∀ (m : Nat), (m : Int) ≤ k → ∀ (sum : Int) (lead ch : Int → Int) (st : Int × (Int → Int)), gdD pr n k m sum lead ch st = gdD pr' n k m sum lead ch st := by
  intro m
  induction m with
  | zero => intro _ sum lead ch st; rfl
  | succ m ih =>
    intro hm sum lead ch st
    rw [gdD_s (i := k - ((m + 1 : Nat) : Int)) rfl, gdD_s (pr := pr') (i := k - ((m + 1 : Nat) : Int)) rfl]
    have hf : fI (gdS pr n k m (k - ((m + 1 : Nat) : Int)) sum lead ch) st n = fI (gdS pr' n k m (k - ((m + 1 : Nat) : Int)) sum lead ch) st n := fI_congr (fun g s g1 g2 => by
      unfold gdS
      rw [h _ g (by omega) (by omega) g1 g2, ih (by omega)])
    rw [hf, ih (by omega)]
theorem gdB_congr {pr pr' : Int → Int → Int} {n k : Int} (hk : 0 ≤ k) (h : ∀ i g, 0 ≤ i → i < k → 0 ≤ g → g < n → pr i g = pr' i g) : gdB pr n k = gdB pr' n k := gdD_congr h k.toNat (by omega) _ _ _ _
/-- the i-th that is hooded -/
def hpC (hf : Int → Bool) (n : Int) : Int → Int := fun i => (fT (fun p => if hf p = true ∧ cI hf p = i then some p else none) 0 n).getD 0
theorem fT_none {α : Type} {f : Int → Option α} {m n : Int} (h : fT f m n = none) : ∀ p, m ≤ p → p < n → f p = none := by
  have key : ∀ (k : Nat) (m : Int), (n - m).toNat = k → fT f m n = none → ∀ p, m ≤ p → p < n → f p = none := by
    intro k
    induction k with
    | zero => intro m hk _ p a c; omega
    | succ k ih =>
      intro m hk hm p a c
      cases hf : f m with
      | some b => rw [fT_y (by omega) hf] at hm; exact absurd hm (by simp)
      | none =>
        rw [fT_n (by omega) hf] at hm
        by_cases z : p = m
        · subst z; exact hf
        · exact ih (m + 1) (by omega) hm p (by omega) c
  exact key _ m rfl h
theorem cI_inj {h : Int → Bool} {p q : Int} (h0 : 0 ≤ p) (h1 : 0 ≤ q) (hp : h p = true) (hq : h q = true) (e : cI h p = cI h q) : p = q := by
  by_cases z : p < q
  · have := cI_mono (h := h) (i := p + 1) (j := q) (by omega) (by omega)
    rw [cI_t h0 hp] at this
    omega
  · by_cases z2 : q < p
    · have := cI_mono (h := h) (i := q + 1) (j := p) (by omega) (by omega)
      rw [cI_t h1 hq] at this
      omega
    · omega
theorem cI_ex {h : Int → Bool} {n j : Int} (hn : 0 ≤ n) (hj : 0 ≤ j ∧ j < cI h n) : ∃ p, 0 ≤ p ∧ p < n ∧ h p = true ∧ cI h p = j := by
  have key : ∀ k : Nat, j < cI h k → ∃ p, 0 ≤ p ∧ p < (k : Int) ∧ h p = true ∧ cI h p = j := by
    intro k
    induction k with
    | zero => intro hc; rw [show ((0 : Nat) : Int) = 0 from rfl, cI_0] at hc; omega
    | succ k ih =>
      intro hc
      rw [show ((k + 1 : Nat) : Int) = (k : Int) + 1 from rfl, cI_s _ (by omega)] at hc
      by_cases z : j < cI h k
      · obtain ⟨p, q1, q2, q3⟩ := ih z
        exact ⟨p, q1, by omega, q3⟩
      · cases w : h k
        · rw [w] at hc
          simp at hc
          omega
        · rw [w] at hc
          simp at hc
          exact ⟨k, by omega, by omega, w, by omega⟩
  obtain ⟨p, q1, q2, q3⟩ := key n.toNat (by rw [show ((n.toNat : Nat) : Int) = n by omega]; exact hj.2)
  exact ⟨p, q1, by omega, q3⟩
theorem hpC_ok {hf : Int → Bool} {n : Int} (hn : 0 ≤ n) : hpX hf (hpC hf n) n := by
  have key : ∀ j, 0 ≤ j → j < cI hf n → 0 ≤ hpC hf n j ∧ hpC hf n j < n ∧ hf (hpC hf n j) = true ∧ cI hf (hpC hf n j) = j := by
    intro j a c
    obtain ⟨p, q1, q2, q3, q4⟩ := cI_ex hn ⟨a, c⟩
    unfold hpC
    cases h : fT (fun p => if hf p = true ∧ cI hf p = j then some p else none) 0 n with
    | none =>
      have : (if hf p = true ∧ cI hf p = j then some p else none) = none := fT_none h p q1 q2
      rw [if_pos ⟨q3, q4⟩] at this
      exact absurd this (by simp)
    | some r =>
      obtain ⟨x, x1, x2, x3⟩ := fT_some h
      split at x3
      · rename_i w
        have e1 : x = r := Option.some.inj x3
        subst e1
        exact ⟨x1, x2, w.1, w.2⟩
      · exact absurd x3 (by simp)
  refine ⟨fun p a c h => ?_, key⟩
  have c0 := cI_r hf a
  have c1 := cI_mono (h := hf) (i := p + 1) (j := n) (by omega) (by omega)
  rw [cI_t a h] at c1
  have := key (cI hf p) (by omega) (by omega)
  exact cI_inj this.1 a this.2.2.1 h this.2.2.2
def hfF (h : Int → Int) (day : Int) : Int → Bool := fun p => decide (h p = day % 9)
def prC (F : (Int → Int) → Int) (tr h s t : Int → Int) (n day : Int) : Int → Int → Int := prF F tr h s t (hpC (hfF h day) n) day
/-- the guides of a day -/
def gB (F : (Int → Int) → Int) (tr h s t : Int → Int) (n day : Int) : Int × (Int → Int) := gdB (prC F tr h s t n day) n (cI (hfF h day) n)
theorem hpX_u {hf : Int → Bool} {hp hp' : Int → Int} {n : Int} (h : hpX hf hp n) (h' : hpX hf hp' n) {j : Int} (hj : 0 ≤ j ∧ j < cI hf n) : hp j = hp' j := by
  have a := h.2 j hj.1 hj.2
  have b := h'.2 j hj.1 hj.2
  exact cI_inj a.1 b.1 a.2.2.1 b.2.2.1 (by rw [a.2.2.2, b.2.2.2])
section GOP
variable {b : Int} {L D : Nat} {d : xh_D} {e : xd_E} {n : Int}
theorem sg_8_11 {F : (Int → Int) → Int} {day : Int} {P : xh_D → xd_E → Prop} (hD : 12 ≤ D) (hX : rX F (d 111 6) (d 112)) (ok : okX n 12 13 14 d) (hd : 0 ≤ day ∧ day < 2147483648) (h : ∀ (d' : xh_D), Fk sF d d' → d' 119 6 = cI (hfF (d 12) day) n → d' 119 7 = n → d' 119 8 = (gB F (d 7) (d 12) (d 13) (d 14) n day).1 → (∀ j, 0 ≤ j → j < cI (hfF (d 12) day) n → d' 120 j = hpC (hfF (d 12) day) n j) → (∀ j, 0 ≤ j → j < cI (hfF (d 12) day) n → d' 121 j = (gB F (d 7) (d 12) (d 13) (d 14) n day).2 j) → (∀ i g, 0 ≤ i → i < cI (hfF (d 12) day) n → 0 ≤ g → g < n → d' 124 (i * 9 + g) = prC F (d 7) (d 12) (d 13) (d 14) n day i g) → P d' e) : yV D 8 L [.ref 119, .ref 6, .ref 111, .ref 11, .int (xJ day)] d e P := by
  refine sq_8_11 (F := F) hD hX ok hd (fun d' hp f hx hy => ?_)
  have hn := ok.2.1
  have kr := cI_r (hfF (d 12) day) hn.1
  have hc := hpC_ok (hf := hfF (d 12) day) hn.1
  have hpr : ∀ i g, 0 ≤ i → i < cI (hfF (d 12) day) n → 0 ≤ g → g < n → prF F (d 7) (d 12) (d 13) (d 14) hp day i g = prC F (d 7) (d 12) (d 13) (d 14) n day i g := fun i g a c _ _ => by
    unfold prC prF
    rw [hpX_u hx hc ⟨a, c⟩]
  have hb : gdB (prF F (d 7) (d 12) (d 13) (d 14) hp day) n (cI (hfF (d 12) day) n) = gB F (d 7) (d 12) (d 13) (d 14) n day := gdB_congr kr.1 hpr
  obtain ⟨y1, y2, y3, y4, y5, y6⟩ := hy
  refine h d' f y1 y2 (by rw [← hb]; exact y3) (fun j a c => by rw [y4 j a c]; exact hpX_u hx hc ⟨a, c⟩) (fun j a c => by rw [← hb]; exact y5 j a c) (fun i g a c a2 c2 => by rw [← hpr i g a c a2 c2]; exact y6 i g a c a2 c2)
theorem sg_8_17 {F : (Int → Int) → Int} {day : Int} {P : xh_D → xd_E → Prop} (hD : 12 ≤ D) (hX : rX F (d 111 6) (d 112)) (ok : okX n 18 19 20 d) (hd : 0 ≤ day ∧ day < 2147483648) (h : ∀ (d' : xh_D), Fk sF d d' → d' 119 6 = cI (hfF (d 18) day) n → d' 119 7 = n → d' 119 8 = (gB F (d 7) (d 18) (d 19) (d 20) n day).1 → (∀ j, 0 ≤ j → j < cI (hfF (d 18) day) n → d' 120 j = hpC (hfF (d 18) day) n j) → (∀ j, 0 ≤ j → j < cI (hfF (d 18) day) n → d' 121 j = (gB F (d 7) (d 18) (d 19) (d 20) n day).2 j) → (∀ i g, 0 ≤ i → i < cI (hfF (d 18) day) n → 0 ≤ g → g < n → d' 124 (i * 9 + g) = prC F (d 7) (d 18) (d 19) (d 20) n day i g) → P d' e) : yV D 8 L [.ref 119, .ref 6, .ref 111, .ref 17, .int (xJ day)] d e P := by
  refine sq_8_17 (F := F) hD hX ok hd (fun d' hp f hx hy => ?_)
  have hn := ok.2.1
  have kr := cI_r (hfF (d 18) day) hn.1
  have hc := hpC_ok (hf := hfF (d 18) day) hn.1
  have hpr : ∀ i g, 0 ≤ i → i < cI (hfF (d 18) day) n → 0 ≤ g → g < n → prF F (d 7) (d 18) (d 19) (d 20) hp day i g = prC F (d 7) (d 18) (d 19) (d 20) n day i g := fun i g a c _ _ => by
    unfold prC prF
    rw [hpX_u hx hc ⟨a, c⟩]
  have hb : gdB (prF F (d 7) (d 18) (d 19) (d 20) hp day) n (cI (hfF (d 18) day) n) = gB F (d 7) (d 18) (d 19) (d 20) n day := gdB_congr kr.1 hpr
  obtain ⟨y1, y2, y3, y4, y5, y6⟩ := hy
  refine h d' f y1 y2 (by rw [← hb]; exact y3) (fun j a c => by rw [y4 j a c]; exact hpX_u hx hc ⟨a, c⟩) (fun j a c => by rw [← hb]; exact y5 j a c) (fun i g a c a2 c2 => by rw [← hpr i g a c a2 c2]; exact y6 i g a c a2 c2)
theorem sg_219_147 {F : (Int → Int) → Int} {h s t tr : Int → Int} {day : Int} {P : xh_D → xd_E → Prop} (hD : 110 ≤ D) (hM : rM F (d 146 16) (d 153)) (ok : okM n 147 h s t tr d) (h156 : ∀ g, 0 ≤ g → g < n → d 156 g = 0) (hd : 0 ≤ day ∧ day < 2147483648) (hP : ∀ d', Fk sm d d' → fdM (hfF h day) n (gB F tr h s t n day) d' → P d' e) : yV D 219 L [.ref 146, .ref 147, .int (xJ day)] d e P := sq_219_147 (F := F) hD hM ok h156 hd (hpC_ok ok.2.1.1) (fun d' f _ m => hP d' f m)
theorem sh_219_147 {F : (Int → Int) → Int} {h s t tr : Int → Int} {day : Int} {P : xh_D → xd_E → Prop} (hD : 110 ≤ D) (hM : rM F (d 146 16) (d 153)) (ok : okM n 147 h s t tr d) (h156 : ∀ g, 0 ≤ g → g < n → d 156 g = 0) (hd : 0 ≤ day ∧ day < 2147483648) (hP : ∀ d', Fk sm d d' → (∀ q, ¬ q = 146 → ¬ q = 154 → ¬ q = 155 → ¬ q = 157 → d' q = d q) → fdM (hfF h day) n (gB F tr h s t n day) d' → P d' e) : yV D 219 L [.ref 146, .ref 147, .int (xJ day)] d e P := sq_219_147 (F := F) hD hM ok h156 hd (hpC_ok ok.2.1.1) hP
theorem sg_219_162 {F : (Int → Int) → Int} {h s t tr : Int → Int} {day : Int} {P : xh_D → xd_E → Prop} (hD : 110 ≤ D) (hM : rM F (d 146 16) (d 153)) (ok : okM n 162 h s t tr d) (h156 : ∀ g, 0 ≤ g → g < n → d 156 g = 0) (hd : 0 ≤ day ∧ day < 2147483648) (hP : ∀ d', Fk sm d d' → fdM (hfF h day) n (gB F tr h s t n day) d' → P d' e) : yV D 219 L [.ref 146, .ref 162, .int (xJ day)] d e P := sq_219_162 (F := F) hD hM ok h156 hd (hpC_ok ok.2.1.1) (fun d' f _ m => hP d' f m)
theorem sh_219_162 {F : (Int → Int) → Int} {h s t tr : Int → Int} {day : Int} {P : xh_D → xd_E → Prop} (hD : 110 ≤ D) (hM : rM F (d 146 16) (d 153)) (ok : okM n 162 h s t tr d) (h156 : ∀ g, 0 ≤ g → g < n → d 156 g = 0) (hd : 0 ≤ day ∧ day < 2147483648) (hP : ∀ d', Fk sm d d' → (∀ q, ¬ q = 146 → ¬ q = 154 → ¬ q = 155 → ¬ q = 157 → d' q = d q) → fdM (hfF h day) n (gB F tr h s t n day) d' → P d' e) : yV D 219 L [.ref 146, .ref 162, .int (xJ day)] d e P := sq_219_162 (F := F) hD hM ok h156 hd (hpC_ok ok.2.1.1) hP
theorem okX_i (hP : iP d) (hL : iL d) (hS : iS b d e) : okX (d 6 4) 12 13 14 d := ⟨rfl, hP.1, fun p a c => ⟨(hS.1 p a c).1, (hS.1 p a c).2.1, (hS.1 p a c).2.2.1⟩, iL_t hL⟩
theorem okM_i (hP : iP d) (hL : iL d) (hS : iS b d e) : okM (d 6 4) 147 (d 12) (d 13) (d 14) (d 7) d := by
  have p1 := hP.1
  refine ⟨hP.2.1, hP.1, fun p a c => ⟨(hS.1 p a c).2.2.2, (hS.1 p a c).1, (hS.1 p a c).2.1, (hS.1 p a c).2.2.1⟩, fun p g a c a2 c2 => ?_⟩
  have := hL (p * 9 + g) (by omega) (by omega)
  exact ⟨this.2.2.1 ⟨by omega, by omega⟩, this.1⟩
theorem okM_c {a : Nat} {h s t tr : Int → Int} {d' : xh_D} (ok : okM n a h s t tr d) (e1 : d' 146 1 = d 146 1) (e2 : d' 148 = d 148) (e3 : d' a = d a) : okM n a h s t tr d' := by
  unfold okM at ok ⊢
  rw [e1, e2, e3]
  exact ok
theorem okX_c {hp sp tp : Nat} {d' : xh_D} (ok : okX n hp sp tp d) (e1 : d' 6 4 = d 6 4) (e2 : d' 7 = d 7) (e3 : d' hp = d hp) (e4 : d' sp = d sp) (e5 : d' tp = d tp) : okX n hp sp tp d' := by
  unfold okX at ok ⊢
  rw [e1, e2, e3, e4, e5]
  exact ok
theorem gB_ok {F : (Int → Int) → Int} {tr h s t : Int → Int} {day : Int} (hn : 0 ≤ n ∧ n ≤ 9) : (0 ≤ (gB F tr h s t n day).1 ∧ (gB F tr h s t n day).1 ≤ 9900) ∧ (gB F tr h s t n day).1 / 1000 = cI (fun j => decide ((gB F tr h s t n day).2 j = -1)) (cI (hfF h day) n) ∧ (∀ j, 0 ≤ j → j < cI (hfF h day) n → (gB F tr h s t n day).2 j = -1 ∨ (0 ≤ (gB F tr h s t n day).2 j ∧ (gB F tr h s t n day).2 j < n)) := by
  have kr := cI_r (hfF h day) hn.1
  have h1 := (gdB_ok (pr := prC F tr h s t n day) hn.1 kr.1).1
  have h2 := gdG_w (by omega) (fun i g _ _ _ _ => prF_r) h1
  exact ⟨h2.2, h2.1, fun j a c => (h1.2 j a c).elim Or.inl (fun q => Or.inr ⟨q.1, q.2.1⟩)⟩
/-- what the reference has found, in the class's words -/
theorem fdM_w {hf : Int → Bool} {B : Int × (Int → Int)} (h : fdM hf n B d) : d 146 26 = B.1 / 1000 ∧ d 146 27 = B.1 % 1000 := by
  obtain ⟨-, h1, h2, h3, -⟩ := h
  omega
theorem op_guides {a1 : Int} (r1 : yR a1) (hI : Inv iR b d e) : Op iR b b L 115 220 [.int (xJ a1)] d e := by
  have hI0 := hI
  obtain ⟨hP, hT, hW, hL, hS, hU, hK, hR, hQ, hV, hH, hG⟩ := hI
  have p1 := hP.1
  have p2 := hP.2.1
  obtain ⟨F, hX, hM⟩ := id hR
  have hh := iS_h hS
  have f0 : ¬ (0 ≤ a1 ∧ a1 ≤ 999) → yC 150 220 L [.ref 146, .int (xJ a1)] d e (fun r2 d2 e2 => -1 = r2 ∧ Inv iR b d2 e2) := fun c => by
    refine yC_of rfl rfl rfl (by omega) (yk_220_0 (by omega) ⟨r1, fun c2 => absurd c2 c, fun c2 => ⟨rfl, hP, hT, hW, hL, hS, (iU_c hU (by repeat' (first | exact Fz_refl | refine Fz_xs ?_ (by decide))) rfl rfl rfl rfl rfl), (iK_c hK (by repeat' (first | exact Fz_refl | refine Fz_xs ?_ (by decide))) rfl rfl rfl rfl), hR, hQ, hV, hH, hG⟩⟩)
  refine yC_of rfl rfl rfl (by omega) (yk_115_0 (by omega) ⟨r1, fun c => ?_, f0⟩)
  generalize hB : gB F (d 7) (d 12) (d 13) (d 14) (d 6 4) a1 = B
  have gok := gB_ok (F := F) (tr := d 7) (h := d 12) (s := d 13) (t := d 14) (day := a1) p1
  rw [hB] at gok
  have kr := cI_r (hfF (d 12) a1) p1.1
  generalize hk : cI (hfF (d 12) a1) (d 6 4) = k at gok kr
  refine sg_8_11 (F := F) (by omega) hX (okX_i hP hL hS) (by omega) (fun d1 f1 y6 y7 y8 y120 y121 _ => ?_)
  rw [hB] at y8 y121
  rw [hk] at y6 y121
  have q6 : d1 6 4 = d 6 4 := by rw [Fk_p f1 (p := 6) (fun _ => rfl)]
  have q12 : d1 12 = d 12 := Fk_p f1 (p := 12) (fun _ => rfl)
  rw [y8, q6]
  refine ⟨by omega, ?_⟩
  refine sq_51 (by omega) (by omega) p1 (by (try simp only [xs_fn, upI_app, Nat.reduceEqDiff, Int.reduceEq, eq_self, false_and, true_and, and_false, and_true, if_false, if_true, ↓reduceIte]); rw [q12]; exact hh) ⟨by (try simp only [xs_fn, upI_app, Nat.reduceEqDiff, Int.reduceEq, eq_self, false_and, true_and, and_false, and_true, if_false, if_true, ↓reduceIte]); omega, ?_⟩
  (try simp only [xs_fn, upI_app, Nat.reduceEqDiff, Int.reduceEq, eq_self, false_and, true_and, and_false, and_true, if_false, if_true, ↓reduceIte])
  rw [q12, show (fun p => decide (d 12 p = a1 % 9)) = hfF (d 12) a1 from rfl]
  generalize hH : bI (hfF (d 12) a1) (d 6 4) = H
  generalize hd2 : xs (xs (xs (xs (xs d1 4 1 0) 5 0 (B.1 % 1000)) 4 1 1) 5 1 H) 4 1 (1 + 1) = d2
  have z : ∀ p, ¬ p = 4 → ¬ p = 5 → d2 p = d1 p := fun p h1 h2 => by rw [← hd2]; funext i; rw [xs_np h1, xs_np h2, xs_np h1, xs_np h2, xs_np h1]
  have z50 : d2 5 0 = B.1 % 1000 := by rw [← hd2]; rfl
  have z51 : d2 5 1 = H := by rw [← hd2]; rfl
  have z41 : d2 4 1 = 2 := by rw [← hd2]; rfl
  have f2 : Fk sr d d2 := by rw [← hd2]; exact Fk_xs (Fk_xs (Fk_xs (Fk_xs (Fk_xs (Fk_x (sF_sx f1)) rfl) rfl) rfl) rfl) rfl
  -- the reference
  have mm : ∀ dx : xh_D, Fk (fun p _ => p == 4 || p == 5) d2 dx → dx 4 1 = 2 + k → dx 5 0 = B.1 % 1000 → dx 5 1 = H → (∀ j, 0 ≤ j → j < k → dx 5 (2 + j) = B.2 j) → yC 150 220 L [.ref 146, .int (xJ a1)] dx e (fun r2 d2 e2 => B.1 / 1000 = r2 ∧ Inv iR b d2 e2) := by
    intro dx fx w4 w50 w51 w5
    have fd : Fk sr d dx := Fk_trans f2 (Fk_mono fx (fun p i q => by
      by_cases z : p = 4
      · subst z; exact absurd (show true = false from q) (by decide)
      · by_cases z2 : p = 5
        · subst z2; exact absurd (show true = false from q) (by decide)
        · simp [z, z2]))
    have fm : ∀ p, 128 ≤ p → dx p = d p := fun p hp => by
      have h1 : sF p 0 = false := by
        have : ∀ q, [115, 116, 119, 120, 121, 122, 123, 124, 125].contains q = true → q < 128 := by
          intro q hq
          have : q = 115 ∨ q = 116 ∨ q = 119 ∨ q = 120 ∨ q = 121 ∨ q = 122 ∨ q = 123 ∨ q = 124 ∨ q = 125 := by simpa using hq
          omega
        cases w : sF p 0
        · rfl
        · have := this p w; omega
      rw [Fk_p fx (fun _ => by simp; omega), z p (by omega) (by omega), Fk_p f1 (fun _ => h1)]
    refine yC_of rfl rfl rfl (by omega) (yk_220_0 (by omega) ⟨r1, fun _ => ?_, fun c2 => absurd c c2⟩)
    refine sg_219_147 (F := F) (n := d 6 4) (by omega) (by (try simp only [xs_fn, upI_app, Nat.reduceEqDiff, Int.reduceEq, eq_self, false_and, true_and, and_false, and_true, if_false, if_true, ↓reduceIte]); rw [fm 146 (by decide), fm 153 (by decide)]; exact hM) (okM_c (okM_i hP hL hS) (by (try simp only [xs_fn, upI_app, Nat.reduceEqDiff, Int.reduceEq, eq_self, false_and, true_and, and_false, and_true, if_false, if_true, ↓reduceIte]); rw [fm 146 (by decide)]) (by (try simp only [xs_fn, upI_app, Nat.reduceEqDiff, Int.reduceEq, eq_self, false_and, true_and, and_false, and_true, if_false, if_true, ↓reduceIte]); exact fm 148 (by decide)) (by (try simp only [xs_fn, upI_app, Nat.reduceEqDiff, Int.reduceEq, eq_self, false_and, true_and, and_false, and_true, if_false, if_true, ↓reduceIte]); exact fm 147 (by decide))) (by (try simp only [xs_fn, upI_app, Nat.reduceEqDiff, Int.reduceEq, eq_self, false_and, true_and, and_false, and_true, if_false, if_true, ↓reduceIte]); rw [fm 156 (by decide)]; exact fun g a c => hG.2 g a (by omega)) (by omega) (fun d3 f3 m => ?_)
    have mw := fdM_w m
    rw [hB] at m mw
    have m25 := m.1
    rw [hH] at m25
    have m155 := m.2.2.2.2
    have n1 : d3 146 1 = d 6 4 := by rw [f3 146 1 rfl]; (try simp only [xs_fn, upI_app, Nat.reduceEqDiff, Int.reduceEq, eq_self, false_and, true_and, and_false, and_true, if_false, if_true, ↓reduceIte]); rw [fm 146 (by decide), p2]
    generalize hd4 : xs (xs (xs (xs (xs d3 146 7 0) 151 0 (d3 146 27)) 146 7 (0 + 1)) 151 (0 + 1) (d3 146 25)) 146 7 (0 + 1 + 1) = d4
    have v : ∀ p, ¬ p = 146 → ¬ p = 151 → d4 p = d3 p := fun p h1 h2 => by rw [← hd4]; funext i; rw [xs_np h1, xs_np h2, xs_np h1, xs_np h2, xs_np h1]
    have vm : ∀ i, ¬ i = 7 → d4 146 i = d3 146 i := fun i h1 => by rw [← hd4, xs_ni h1, xs_np (by decide), xs_ni h1, xs_np (by decide), xs_ni h1]
    have v0 : d4 151 0 = B.1 % 1000 := by rw [← mw.2, ← hd4]; rfl
    have v1 : d4 151 1 = H := by rw [← m25, ← hd4]; rfl
    have v7 : d4 146 7 = 2 := by rw [← hd4]; rfl
    refine lp_up (n := d 6 4) (X := fun p => ∀ dc, Fk (fun p i => p == 151 || (p == 146 && decide (i = 7))) d4 dc → dc 146 7 = 2 + cI (hfF (d 12) a1) p → dc 151 0 = B.1 % 1000 → dc 151 1 = H → (∀ j, 0 ≤ j → j < cI (hfF (d 12) a1) p → dc 151 (2 + j) = B.2 j) → yB (150 - 1) xm_c220 (yQi L (fun r2 d2 e2 => B.1 / 1000 = r2 ∧ Inv iR b d2 e2)) L 28 [.ref 146, .double 0, .int (xJ p)] [] dc e) p1.1 ?_ ?_ d4 Fk_refl (by rw [v7, cI_0]; rfl) v0 v1 (fun j a c => by rw [cI_0] at c; omega)
    · intro p a cp ih dc fc c7 c0 c1 cj
      have bt : xi_and (xi_shr (dc 146 25) p) 1 = if hfF (d 12) a1 p = true then 1 else 0 := by rw [fc 146 25 rfl, vm 25 (by decide), m25, ← hH]; exact bI_test (by omega) ⟨a, cp⟩
      have e155 : dc 155 p = cvF (hfF (d 12) a1) B.2 p := by rw [Fk_p fc (p := 155) (fun _ => rfl), v 155 (by decide) (by decide)]; exact m155 p a cp
      have ci := cI_r (hfF (d 12) a1) a
      refine yk_220_28 (by omega) ?_
      rw [fc 146 1 rfl, vm 1 (by decide), n1, bt, e155, c7]
      refine ⟨by omega, by omega, fun g => by omega, fun _ => ⟨fun g => ⟨by omega, ?_⟩, fun g => ?_⟩⟩
      · have hfp : hfF (d 12) a1 p = true := by
          cases w : hfF (d 12) a1 p
          · rw [w] at g; exact absurd g (by decide)
          · rfl
        have e1 := cI_t a hfp
        have cm := cI_mono (h := hfF (d 12) a1) (i := p + 1) (j := d 6 4) (by omega) (by omega)
        rw [e1, hk] at cm
        have gb := gok.2.2 (cI (hfF (d 12) a1) p) (by omega) (by omega)
        have ev : cvF (hfF (d 12) a1) B.2 p = if B.2 (cI (hfF (d 12) a1) p) = -1 then 9 else B.2 (cI (hfF (d 12) a1) p) := by unfold cvF; rw [if_pos hfp]
        have nx : ∀ x, x = B.2 (cI (hfF (d 12) a1) p) → yB (150 - 1) xm_c220 (yQi L (fun r2 d2 e2 => B.1 / 1000 = r2 ∧ Inv iR b d2 e2)) L 28 [.ref 146, .double 0, .int (xJ (p + 1))] [] (xs (xs dc 151 (2 + cI (hfF (d 12) a1) p) x) 146 7 (2 + cI (hfF (d 12) a1) p + 1)) e := fun x hx => by
          refine ih _ (Fk_xs (Fk_xs fc rfl) rfl) (by rw [xs_eq, e1]; omega) (by rw [xs_np (by decide), xs_ni (by omega)]; exact c0) (by rw [xs_np (by decide), xs_ni (by omega)]; exact c1) (fun j a2 c2 => ?_)
          rw [xs_np (by decide)]
          by_cases w : j = cI (hfF (d 12) a1) p
          · subst w; rw [xs_eq, hx]
          · rw [xs_ni (by omega)]; exact cj j a2 (by omega)
        rw [ev]
        refine ⟨by split <;> omega, fun g2 => ⟨by omega, nx _ ?_⟩, fun g2 => ⟨by omega, nx _ ?_⟩⟩
        · split at g2
          · exact absurd rfl g2
          · rename_i w; rw [if_neg w]
        · split at g2
          · rename_i w; exact w.symm
          · omega
      · have hfp : hfF (d 12) a1 p = false := by
          cases w : hfF (d 12) a1 p
          · rfl
          · rw [w] at g; exact absurd rfl g
        have e1 : cI (hfF (d 12) a1) (p + 1) = cI (hfF (d 12) a1) p := by rw [cI_f a hfp]; omega
        exact ih dc fc (by rw [e1]; exact c7) c0 c1 (by rw [e1]; exact cj)
    · intro dc fc c7 c0 c1 cj
      rw [hk] at c7 cj
      refine yk_220_28 (by omega) ?_
      rw [fc 146 1 rfl, vm 1 (by decide), n1, fc 146 26 rfl, vm 26 (by decide), mw.1]
      refine ⟨by omega, by omega, fun _ => ⟨rfl, ?_⟩, fun g => by omega⟩
      have f4 : Fk sr d d4 := by
        rw [← hd4]
        exact Fk_xs (Fk_xs (Fk_xs (Fk_xs (Fk_xs (Fk_trans (Fk_xs fd rfl) (Fk_m f3)) rfl) rfl) rfl) rfl) rfl
      refine Inv_fk hI0 (Fk_trans f4 (Fk_mono fc (fun p i q => ?_))) Ek_refl ?_
      · by_cases w : p = 151
        · subst w; exact absurd (show true = false from q) (by decide)
        · by_cases w2 : p = 146 ∧ i = 7
          · rw [w2.1, w2.2] at q; exact absurd q (by decide)
          · have : (p == 146 && decide (i = 7)) = false := by
              by_cases w3 : p = 146
              · simp [w3]; exact fun c => w2 ⟨w3, c⟩
              · simp [w3]
            rw [this]; simp [w]
      · have g4 : ∀ j, dc 4 j = dx 4 j := fun j => by rw [Fk_p fc (p := 4) (fun _ => rfl), v 4 (by decide) (by decide), Fk_p f3 (p := 4) (fun _ => rfl)]; (try simp only [xs_fn, upI_app, Nat.reduceEqDiff, Int.reduceEq, eq_self, false_and, true_and, and_false, and_true, if_false, if_true, ↓reduceIte])
        have g5 : ∀ j, dc 5 j = dx 5 j := fun j => by rw [Fk_p fc (p := 5) (fun _ => rfl), v 5 (by decide) (by decide), Fk_p f3 (p := 5) (fun _ => rfl)]; (try simp only [xs_fn, upI_app, Nat.reduceEqDiff, Int.reduceEq, eq_self, false_and, true_and, and_false, and_true, if_false, if_true, ↓reduceIte])
        refine ⟨by rw [g4, w4]; omega, by rw [g4, w4, c7], fun j a c2 => ?_⟩
        rw [g4, w4] at c2
        rw [g5]
        by_cases w0 : j = 0
        · subst w0; rw [c0, w50]
        · by_cases w1 : j = 1
          · subst w1; rw [c1, w51]
          · have := w5 (j - 2) (by omega) (by omega)
            have h2 := cj (j - 2) (by omega) (by omega)
            rw [show 2 + (j - 2) = j by omega] at this h2
            rw [this, h2]
  -- the class's row
  refine lp_up (n := k) (X := fun i => ∀ dc, Fk (fun p _ => p == 4 || p == 5) d2 dc → dc 4 1 = 2 + i → dc 5 0 = B.1 % 1000 → dc 5 1 = H → (∀ j, 0 ≤ j → j < i → dc 5 (2 + j) = B.2 j) → yB (150 - 1) xm_c115 (yQi L (fun r1 d1 e1 => yC 150 220 L [.ref 146, .int (xJ a1)] d1 e1 (fun r2 d2 e2 => r1 = r2 ∧ Inv iR b d2 e2))) L 38 [.ref 1, .double 0, .ref 119, .int (xJ i)] [] dc e) kr.1 ?_ ?_ d2 Fk_refl (by rw [z41]; rfl) z50 z51 (fun j a c => by omega)
  · intro i a ci ih dc fc c4 c0 c1 cj
    refine yk_115_38 (by omega) ?_
    rw [Fk_p fc (p := 119) (fun _ => rfl), z 119 (by decide) (by decide), y6, Fk_p fc (p := 121) (fun _ => rfl), z 121 (by decide) (by decide), y121 i a ci, c4]
    refine ⟨by omega, by omega, fun g => by omega, fun _ => ⟨by omega, by omega, ih _ (Fk_xs (Fk_xs fc rfl) rfl) (by rw [xs_eq]; omega) (by rw [xs_np (by decide), xs_ni (by omega)]; exact c0) (by rw [xs_np (by decide), xs_ni (by omega)]; exact c1) (fun j a2 c2 => ?_)⟩⟩
    rw [xs_np (by decide)]
    by_cases w : j = i
    · subst w; rw [xs_eq]
    · rw [xs_ni (by omega)]; exact cj j a2 (by omega)
  · intro dc fc c4 c0 c1 cj
    refine yk_115_38 (by omega) ?_
    rw [Fk_p fc (p := 119) (fun _ => rfl), z 119 (by decide) (by decide), y6, y8]
    exact ⟨by omega, by omega, fun _ => ⟨by omega, mm dc fc c4 c0 c1 cj⟩, fun g => by omega⟩
end GOP
