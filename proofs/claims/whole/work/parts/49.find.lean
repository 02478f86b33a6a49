/-! GUIDES of a day, as the class finds them. -/
def envF (t u r k dd i j : Int) : Int → Int := fun x => if x = 0 then t else if x = 1 then u else if x = 2 then r else if x = 3 then k else if x = 4 then dd else if x = 5 then i else j
def sP (p : Nat) (_ : Int) : Bool := p == 115 || p == 116
def sC (p : Nat) (i : Int) : Bool := p == 146 && ((decide (9 ≤ i) && decide (i ≤ 13)) || (decide (17 ≤ i) && decide (i ≤ 20)))
/-- the rule: what it comes to, in the class and in the reference -/
def rX (F : (Int → Int) → Int) (sz : Int) (code : Int → Int) : Prop := ∀ (D L : Nat) (d : xh_D) (e : xd_E) (P : Int → xh_D → xd_E → Prop) (th : Int → Int), 4 ≤ D → d 111 6 = sz → (∀ i, 0 ≤ i → i < 40 → d 112 i = code i) → (∀ i, 0 ≤ i → i < 7 → d 116 i = th i ∧ 0 ≤ th i ∧ th i ≤ 9) → (∀ d', Fk sP d d' → P (max 0 (min (F th) 99)) d' e) → yC D 47 L [.ref 111] d e P
def rM (F : (Int → Int) → Int) (msz : Int) (rule : Int → Int) : Prop := ∀ (a : Nat), a = 147 ∨ a = 162 → ∀ (D L : Nat) (d : xh_D) (e : xd_E) (P : Int → xh_D → xd_E → Prop) (p g day : Int), 100 ≤ D → d 146 16 = msz → (∀ i, 0 ≤ i → i < 40 → d 153 i = rule i) → (0 ≤ p ∧ p < 9) → (0 ≤ g ∧ g < 9) → (0 ≤ day ∧ day < 2147483648) → (0 ≤ d 148 (p * 9 + g) ∧ d 148 (p * 9 + g) ≤ 9) → (0 ≤ d 148 (g * 9 + p) ∧ d 148 (g * 9 + p) ≤ 9) → (0 ≤ d a (9 + p) ∧ d a (9 + p) < 9) → (0 ≤ d a (9 + g) ∧ d a (9 + g) < 9) → (0 ≤ d a (18 + p) ∧ d a (18 + p) < 64) → (0 ≤ d a (18 + g) ∧ d a (18 + g) < 64) → (∀ d', Fk sC d d' → P (max 0 (min (F (envF (d 148 (p * 9 + g)) (d 148 (g * 9 + p)) (xp_apart (d a (9 + p)) (d a (9 + g))) (xp_bc (xi_and (d a (18 + g)) (xi_xor (d a (18 + p)) (-1)))) (day % 9) p g)) 99)) d' e) → yC D 210 L [.ref 146, .ref a, .int (xJ p), .int (xJ g), .int (xJ day)] d e P
def iR : xR := fun sz code msz rule => ∃ F : (Int → Int) → Int, rX F sz code ∧ rM F msz rule
def cst (F : (Int → Int) → Int) (tr s t : Int → Int) (p g day : Int) : Int := max 0 (min (F (envF (tr (p * 9 + g)) (tr (g * 9 + p)) (xp_apart (s p) (s g)) (xp_bc (xi_and (t g) (xi_xor (t p) (-1)))) (day % 9) p g)) 99)
theorem cst_r {F : (Int → Int) → Int} {tr s t : Int → Int} {p g day : Int} : 0 ≤ cst F tr s t p g day ∧ cst F tr s t p g day ≤ 99 := by unfold cst; omega
theorem bc_k {x y : Int} (hx : 0 ≤ x ∧ x < 64) (hy : 0 ≤ y ∧ y < 64) : 0 ≤ xp_bc (xi_and x (xi_xor y (-1))) ∧ xp_bc (xi_and x (xi_xor y (-1))) ≤ 6 := by
  have key : ∀ x : Nat, x < 64 → ∀ y : Nat, y < 64 → 0 ≤ xp_bc (xi_and x (xi_xor y (-1))) ∧ xp_bc (xi_and x (xi_xor y (-1))) ≤ 6 := by decide +kernel
  have := key x.toNat (by omega) y.toNat (by omega)
  rw [show ((x.toNat : Nat) : Int) = x by omega, show ((y.toNat : Nat) : Int) = y by omega] at this
  exact this
def prF (F : (Int → Int) → Int) (tr h s t hp : Int → Int) (day : Int) : Int → Int → Int := fun i g => if h g = day % 9 ∨ tr (hp i * 9 + g) = 0 then -1 else cst F tr s t (hp i) g day
theorem prF_r {F : (Int → Int) → Int} {tr h s t hp : Int → Int} {day i g : Int} : -1 ≤ prF F tr h s t hp day i g ∧ prF F tr h s t hp day i g ≤ 99 := by
  unfold prF
  have := cst_r (F := F) (tr := tr) (s := s) (t := t) (p := hp i) (g := g) (day := day)
  split <;> omega
/-- of the people: what a look for guides needs, in the class (h, s, t the state's places) -/
def okX (n : Int) (hp sp tp : Nat) (d : xh_D) : Prop := d 6 4 = n ∧ (0 ≤ n ∧ n ≤ 9) ∧ (∀ p, 0 ≤ p → p < n → (0 ≤ d hp p ∧ d hp p < 9) ∧ (0 ≤ d sp p ∧ d sp p < 9) ∧ (0 ≤ d tp p ∧ d tp p < 64)) ∧ (∀ i, 0 ≤ i → i < 81 → 0 ≤ d 7 i ∧ d 7 i ≤ 9)
def sF (p : Nat) (_ : Int) : Bool := [115, 116, 119, 120, 121, 122, 123, 124, 125].contains p
theorem sF_sx {d d' : xh_D} (f : Fk sF d d') : Fk sx d d' := Fk_mono f (fun p i q => by
  cases z : sF p i
  · rfl
  · exfalso
    have : p = 115 ∨ p = 116 ∨ p = 119 ∨ p = 120 ∨ p = 121 ∨ p = 122 ∨ p = 123 ∨ p = 124 ∨ p = 125 := by simpa [sF] using z
    rcases this with rfl | rfl | rfl | rfl | rfl | rfl | rfl | rfl | rfl <;> exact absurd (show true = false from q) (by decide))
theorem sP_sF {d d' : xh_D} (f : Fk sP d d') : Fk sF d d' := Fk_mono f (fun p i q => by
  by_cases z : p = 115
  · subst z; exact absurd (show true = false from q) (by decide)
  · by_cases z2 : p = 116
    · subst z2; exact absurd (show true = false from q) (by decide)
    · simp [sP, z, z2])
section FND
variable {L D : Nat} {d : xh_D} {e : xd_E} {n : Int}
theorem cx_11 {F : (Int → Int) → Int} {p g day : Int} {P : Int → xh_D → xd_E → Prop} (hD : 4 ≤ D) (hX : rX F (d 111 6) (d 112)) (ok : okX n 12 13 14 d) (hp : 0 ≤ p ∧ p < n) (hg : 0 ≤ g ∧ g < n) (hd : 0 ≤ day ∧ day < 2147483648) (h : ∀ d', Fk sP d d' → P (cst F (d 7) (d 13) (d 14) p g day) d' e) : yV D 46 L [.ref 111, .ref 6, .ref 11, .int (xJ p), .int (xJ g), .int (xJ day)] d e (fun d1 e1 => yC D 47 L [.ref 111] d1 e1 P) := by
  obtain ⟨o1, o2, o3, o4⟩ := ok
  have q1 := o3 p hp.1 hp.2
  have q2 := o3 g hg.1 hg.2
  have t1 := o4 (p * 9 + g) (by omega) (by omega)
  have t2 := o4 (g * 9 + p) (by omega) (by omega)
  have k := bc_k q2.2.2 q1.2.2
  have ap : 0 ≤ xp_apart (d 13 p) (d 13 g) ∧ xp_apart (d 13 p) (d 13 g) ≤ 9 := by unfold xp_apart; omega
  refine yV_of rfl rfl rfl (by omega) (yk_46_11_0 (by omega) ⟨by omega, by omega, by omega, by omega, by omega, by omega, by omega, ?_⟩)
  refine hX D L _ e P (envF (d 7 (p * 9 + g)) (d 7 (g * 9 + p)) (xp_apart (d 13 p) (d 13 g)) (xp_bc (xi_and (d 14 g) (xi_xor (d 14 p) (-1)))) (day % 9) p g) hD rfl (fun _ _ _ => rfl) (fun i a c => ?_) (fun d' f => h d' (Fk_trans (Fk_xs (Fk_xs (Fk_xs (Fk_xs (Fk_xs (Fk_xs (Fk_xs Fk_refl rfl) rfl) rfl) rfl) rfl) rfl) rfl) f))
  have : i = 0 ∨ i = 1 ∨ i = 2 ∨ i = 3 ∨ i = 4 ∨ i = 5 ∨ i = 6 := by omega
  rcases this with rfl | rfl | rfl | rfl | rfl | rfl | rfl
  · exact ⟨rfl, t1⟩
  · exact ⟨rfl, t2⟩
  · exact ⟨rfl, ap⟩
  · exact ⟨rfl, by show 0 ≤ xp_bc _ ∧ xp_bc _ ≤ 9; omega⟩
  · exact ⟨rfl, by show 0 ≤ day % 9 ∧ day % 9 ≤ 9; omega⟩
  · exact ⟨rfl, by show 0 ≤ p ∧ p ≤ 9; omega⟩
  · exact ⟨rfl, by show 0 ≤ g ∧ g ≤ 9; omega⟩
theorem cx_17 {F : (Int → Int) → Int} {p g day : Int} {P : Int → xh_D → xd_E → Prop} (hD : 4 ≤ D) (hX : rX F (d 111 6) (d 112)) (ok : okX n 18 19 20 d) (hp : 0 ≤ p ∧ p < n) (hg : 0 ≤ g ∧ g < n) (hd : 0 ≤ day ∧ day < 2147483648) (h : ∀ d', Fk sP d d' → P (cst F (d 7) (d 19) (d 20) p g day) d' e) : yV D 46 L [.ref 111, .ref 6, .ref 17, .int (xJ p), .int (xJ g), .int (xJ day)] d e (fun d1 e1 => yC D 47 L [.ref 111] d1 e1 P) := by
  obtain ⟨o1, o2, o3, o4⟩ := ok
  have q1 := o3 p hp.1 hp.2
  have q2 := o3 g hg.1 hg.2
  have t1 := o4 (p * 9 + g) (by omega) (by omega)
  have t2 := o4 (g * 9 + p) (by omega) (by omega)
  have k := bc_k q2.2.2 q1.2.2
  have ap : 0 ≤ xp_apart (d 19 p) (d 19 g) ∧ xp_apart (d 19 p) (d 19 g) ≤ 9 := by unfold xp_apart; omega
  refine yV_of rfl rfl rfl (by omega) (yk_46_17_0 (by omega) ⟨by omega, by omega, by omega, by omega, by omega, by omega, by omega, ?_⟩)
  refine hX D L _ e P (envF (d 7 (p * 9 + g)) (d 7 (g * 9 + p)) (xp_apart (d 19 p) (d 19 g)) (xp_bc (xi_and (d 20 g) (xi_xor (d 20 p) (-1)))) (day % 9) p g) hD rfl (fun _ _ _ => rfl) (fun i a c => ?_) (fun d' f => h d' (Fk_trans (Fk_xs (Fk_xs (Fk_xs (Fk_xs (Fk_xs (Fk_xs (Fk_xs Fk_refl rfl) rfl) rfl) rfl) rfl) rfl) rfl) f))
  have : i = 0 ∨ i = 1 ∨ i = 2 ∨ i = 3 ∨ i = 4 ∨ i = 5 ∨ i = 6 := by omega
  rcases this with rfl | rfl | rfl | rfl | rfl | rfl | rfl
  · exact ⟨rfl, t1⟩
  · exact ⟨rfl, t2⟩
  · exact ⟨rfl, ap⟩
  · exact ⟨rfl, by show 0 ≤ xp_bc _ ∧ xp_bc _ ≤ 9; omega⟩
  · exact ⟨rfl, by show 0 ≤ day % 9 ∧ day % 9 ≤ 9; omega⟩
  · exact ⟨rfl, by show 0 ≤ p ∧ p ≤ 9; omega⟩
  · exact ⟨rfl, by show 0 ≤ g ∧ g ≤ 9; omega⟩
def s24 (p : Nat) (_ : Int) : Bool := p == 115 || p == 116 || p == 124
theorem s24_P {d d' : xh_D} (f : Fk sP d d') : Fk s24 d d' := Fk_mono f (fun p i q => by simp [s24] at q; simp [sP, q])
theorem s24_F {d d' : xh_D} (f : Fk s24 d d') : Fk sF d d' := Fk_mono f (fun p i q => by
  by_cases z : p = 115
  · subst z; exact absurd (show true = false from q) (by decide)
  · by_cases z2 : p = 116
    · subst z2; exact absurd (show true = false from q) (by decide)
    · by_cases z3 : p = 124
      · subst z3; exact absurd (show true = false from q) (by decide)
      · simp [s24, z, z2, z3])
theorem okX_fk {d' : xh_D} {hp sp tp : Nat} (h1 : hp < 27) (h2 : sp < 27) (h3 : tp < 27) (ok : okX n hp sp tp d) (f : Fk sF d d') : okX n hp sp tp d' := by
  have z : ∀ p, p < 27 → ∀ i, sF p i = false := fun p hp i => by
    have : ∀ p, p < 27 → [115, 116, 119, 120, 121, 122, 123, 124, 125].contains p = false := by decide
    exact this p hp
  unfold okX at ok ⊢
  rw [Fk_p f (z 6 (by decide)), Fk_p f (z 7 (by decide)), Fk_p f (z hp h1), Fk_p f (z sp h2), Fk_p f (z tp h3)]
  exact ok
theorem sq_9_11 {F : (Int → Int) → Int} {i day : Int} {hp : Int → Int} {P : xh_D → xd_E → Prop} (hD : 5 ≤ D) (hX : rX F (d 111 6) (d 112)) (ok : okX n 12 13 14 d) (h7 : d 119 7 = n) (hi : 0 ≤ i ∧ i < 9) (h120 : d 120 i = hp i) (hp0 : 0 ≤ hp i ∧ hp i < n) (hd : 0 ≤ day ∧ day < 2147483648) (h : ∀ d', Fk s24 d d' → (∀ g, 0 ≤ g → g < n → d' 124 (i * 9 + g) = prF F (d 7) (d 12) (d 13) (d 14) hp day i g) → (∀ x, ¬ (i * 9 ≤ x ∧ x < i * 9 + n) → d' 124 x = d 124 x) → P d' e) : yV D 9 L [.ref 119, .ref 6, .ref 111, .ref 11, .int (xJ i), .int (xJ day)] d e P := by
  have o2 := ok.2.1
  refine yV_of rfl rfl rfl (by omega) (yk_9_11_0 ⟨hi, ?_⟩)
  rw [h120]
  refine lp_up (n := n) (X := fun g => ∀ dc, Fk s24 d dc → (∀ x, 0 ≤ x → x < g → dc 124 (i * 9 + x) = prF F (d 7) (d 12) (d 13) (d 14) hp day i x) → (∀ x, ¬ (i * 9 ≤ x ∧ x < i * 9 + g) → dc 124 x = d 124 x) → yB (D - 1) xm_c9 (yQv L P) L 7 [.ref 119, .ref 6, .ref 111, .ref 11, .int (xJ i), .int (xJ day), .int (xJ (hp i)), .int (xJ g), .double 0] [] dc e) o2.1 ?_ ?_ d Fk_refl (fun x a c => by omega) (fun x _ => rfl)
  · intro g g1 g2 ih dc f h1 h2
    have e7 := Fk_p f (p := 7) (fun _ => rfl)
    have eh := Fk_p f (p := 12) (fun _ => rfl)
    have es := Fk_p f (p := 13) (fun _ => rfl)
    have et := Fk_p f (p := 14) (fun _ => rfl)
    have okc := okX_fk (by decide) (by decide) (by decide) ok (s24_F f)
    have q := ok.2.2.1 g g1 g2
    have t := ok.2.2.2 (hp i * 9 + g) (by omega) (by omega)
    have nx : ∀ (dn : xh_D) (v : Int), Fk s24 d dn → (∀ x, dn 124 x = dc 124 x) → v = prF F (d 7) (d 12) (d 13) (d 14) hp day i g → yB (D - 1) xm_c9 (yQv L P) L 7 [.ref 119, .ref 6, .ref 111, .ref 11, .int (xJ i), .int (xJ day), .int (xJ (hp i)), .int (xJ (g + 1)), .double 0] [] (xs dn 124 (i * 9 + g) v) e := fun dn v fn hn hv => by
      refine ih _ (Fk_xs fn rfl) (fun x a c => ?_) (fun x hx => ?_)
      · by_cases z : x = g
        · subst z; rw [xs_eq, hv]
        · rw [xs_ni (by omega), hn, h1 x a (by omega)]
      · rw [xs_ni (by omega), hn, h2 x (by omega)]
    refine yk_9_11_7 ?_
    rw [Fk_p f (p := 119) (fun _ => rfl), h7, e7, eh]
    refine ⟨by omega, by omega, fun c => by omega, fun _ => ⟨by omega, hd, by omega, fun c => ⟨by omega, nx dc _ f (fun _ => rfl) ?_⟩, fun c => ⟨by omega, by omega, fun c2 => ⟨by omega, nx dc _ f (fun _ => rfl) ?_⟩, fun c2 => ?_⟩⟩⟩
    · unfold prF; rw [if_pos (Or.inl c)]
    · unfold prF; rw [if_pos (Or.inr (by omega))]
    · refine cx_11 (F := F) (by omega) (by rw [Fk_p f (p := 111) (fun _ => rfl), Fk_p f (p := 112) (fun _ => rfl)]; exact hX) okc hp0 ⟨g1, g2⟩ hd (fun d' f' => ⟨by omega, nx d' _ (Fk_trans f (s24_P f')) (fun x => f' 124 x rfl) ?_⟩)
      rw [e7, es, et]
      unfold prF
      rw [if_neg (by omega)]
  · intro dc f h1 h2
    refine yk_9_11_7 ?_
    rw [Fk_p f (p := 119) (fun _ => rfl), h7]
    exact ⟨by omega, by omega, fun _ => h dc f h1 h2, fun c => by omega⟩
theorem sq_9_17 {F : (Int → Int) → Int} {i day : Int} {hp : Int → Int} {P : xh_D → xd_E → Prop} (hD : 5 ≤ D) (hX : rX F (d 111 6) (d 112)) (ok : okX n 18 19 20 d) (h7 : d 119 7 = n) (hi : 0 ≤ i ∧ i < 9) (h120 : d 120 i = hp i) (hp0 : 0 ≤ hp i ∧ hp i < n) (hd : 0 ≤ day ∧ day < 2147483648) (h : ∀ d', Fk s24 d d' → (∀ g, 0 ≤ g → g < n → d' 124 (i * 9 + g) = prF F (d 7) (d 18) (d 19) (d 20) hp day i g) → (∀ x, ¬ (i * 9 ≤ x ∧ x < i * 9 + n) → d' 124 x = d 124 x) → P d' e) : yV D 9 L [.ref 119, .ref 6, .ref 111, .ref 17, .int (xJ i), .int (xJ day)] d e P := by
  have o2 := ok.2.1
  refine yV_of rfl rfl rfl (by omega) (yk_9_17_0 ⟨hi, ?_⟩)
  rw [h120]
  refine lp_up (n := n) (X := fun g => ∀ dc, Fk s24 d dc → (∀ x, 0 ≤ x → x < g → dc 124 (i * 9 + x) = prF F (d 7) (d 18) (d 19) (d 20) hp day i x) → (∀ x, ¬ (i * 9 ≤ x ∧ x < i * 9 + g) → dc 124 x = d 124 x) → yB (D - 1) xm_c9 (yQv L P) L 7 [.ref 119, .ref 6, .ref 111, .ref 17, .int (xJ i), .int (xJ day), .int (xJ (hp i)), .int (xJ g), .double 0] [] dc e) o2.1 ?_ ?_ d Fk_refl (fun x a c => by omega) (fun x _ => rfl)
  · intro g g1 g2 ih dc f h1 h2
    have e7 := Fk_p f (p := 7) (fun _ => rfl)
    have eh := Fk_p f (p := 18) (fun _ => rfl)
    have es := Fk_p f (p := 19) (fun _ => rfl)
    have et := Fk_p f (p := 20) (fun _ => rfl)
    have okc := okX_fk (by decide) (by decide) (by decide) ok (s24_F f)
    have q := ok.2.2.1 g g1 g2
    have t := ok.2.2.2 (hp i * 9 + g) (by omega) (by omega)
    have nx : ∀ (dn : xh_D) (v : Int), Fk s24 d dn → (∀ x, dn 124 x = dc 124 x) → v = prF F (d 7) (d 18) (d 19) (d 20) hp day i g → yB (D - 1) xm_c9 (yQv L P) L 7 [.ref 119, .ref 6, .ref 111, .ref 17, .int (xJ i), .int (xJ day), .int (xJ (hp i)), .int (xJ (g + 1)), .double 0] [] (xs dn 124 (i * 9 + g) v) e := fun dn v fn hn hv => by
      refine ih _ (Fk_xs fn rfl) (fun x a c => ?_) (fun x hx => ?_)
      · by_cases z : x = g
        · subst z; rw [xs_eq, hv]
        · rw [xs_ni (by omega), hn, h1 x a (by omega)]
      · rw [xs_ni (by omega), hn, h2 x (by omega)]
    refine yk_9_17_7 ?_
    rw [Fk_p f (p := 119) (fun _ => rfl), h7, e7, eh]
    refine ⟨by omega, by omega, fun c => by omega, fun _ => ⟨by omega, hd, by omega, fun c => ⟨by omega, nx dc _ f (fun _ => rfl) ?_⟩, fun c => ⟨by omega, by omega, fun c2 => ⟨by omega, nx dc _ f (fun _ => rfl) ?_⟩, fun c2 => ?_⟩⟩⟩
    · unfold prF; rw [if_pos (Or.inl c)]
    · unfold prF; rw [if_pos (Or.inr (by omega))]
    · refine cx_17 (F := F) (by omega) (by rw [Fk_p f (p := 111) (fun _ => rfl), Fk_p f (p := 112) (fun _ => rfl)]; exact hX) okc hp0 ⟨g1, g2⟩ hd (fun d' f' => ⟨by omega, nx d' _ (Fk_trans f (s24_P f')) (fun x => f' 124 x rfl) ?_⟩)
      rw [e7, es, et]
      unfold prF
      rw [if_neg (by omega)]
  · intro dc f h1 h2
    refine yk_9_17_7 ?_
    rw [Fk_p f (p := 119) (fun _ => rfl), h7]
    exact ⟨by omega, by omega, fun _ => h dc f h1 h2, fun c => by omega⟩
/-- the cheapest guide of one -/
def ceF (pr : Int → Int → Int) (i : Int) : Int → Int → Int := fun g x => if pr i g = -1 ∨ x ≤ pr i g then x else pr i g
def ce (pr : Int → Int → Int) (n i : Int) : Int := fI (ceF pr i) 1000 n
theorem ce_r {pr : Int → Int → Int} {i g : Int} (hp : ∀ g, -1 ≤ pr i g ∧ pr i g ≤ 99) (hg : 0 ≤ g) : 0 ≤ fI (ceF pr i) 1000 g ∧ fI (ceF pr i) 1000 g ≤ 1000 ∧ (∀ x, 0 ≤ x → x < g → ¬ pr i x = -1 → fI (ceF pr i) 1000 g ≤ pr i x) ∧ (fI (ceF pr i) 1000 g = 1000 → ∀ x, 0 ≤ x → x < g → pr i x = -1) := by
  refine fI_inv (g := ceF pr i) (a := 1000) (I := fun g y => 0 ≤ y ∧ y ≤ 1000 ∧ (∀ x, 0 ≤ x → x < g → ¬ pr i x = -1 → y ≤ pr i x) ∧ (y = 1000 → ∀ x, 0 ≤ x → x < g → pr i x = -1)) ⟨by omega, by omega, fun x a c => by omega, fun _ x a c => by omega⟩ ?_ hg
  intro g y g1 g2 hy
  have := hp g
  unfold ceF
  split
  · rename_i c
    refine ⟨hy.1, hy.2.1, fun x a c2 c3 => ?_, fun c4 x a c2 => ?_⟩
    · by_cases z : x = g
      · subst z; omega
      · exact hy.2.2.1 x a (by omega) c3
    · by_cases z : x = g
      · subst z; omega
      · exact hy.2.2.2 c4 x a (by omega)
  · rename_i c
    refine ⟨by omega, by omega, fun x a c2 c3 => ?_, fun c4 => by omega⟩
    by_cases z : x = g
    · subst z; omega
    · have := hy.2.2.1 x a (by omega) c3
      omega
theorem sq_10 {pr : Int → Int → Int} {i : Int} {P : Int → xh_D → xd_E → Prop} (hD : 1 ≤ D) (hn : 0 ≤ n ∧ n ≤ 9) (h7 : d 119 7 = n) (hi : 0 ≤ i ∧ i < 9) (hpr : ∀ g, 0 ≤ g → g < n → d 124 (i * 9 + g) = pr i g) (hr : ∀ g, -1 ≤ pr i g ∧ pr i g ≤ 99) (h : P (ce pr n i) d e) : yC D 10 L [.ref 119, .int (xJ i)] d e P := by
  refine yC_of rfl rfl rfl (by omega) (yk_10_0 ?_)
  have hlp := lp_up (n := n) (X := fun g => yB (D - 1) xm_c10 (yQi L P) L 4 [.ref 119, .int (xJ i), .int (xJ (fI (ceF pr i) 1000 g)), .int (xJ g), .double 0] [] d e) hn.1 ?_ ?_
  · exact hlp
  · intro g g1 g2 ih
    have r := ce_r hr g1
    have r2 := hr g
    rw [fI_s _ _ g1] at ih
    refine yk_10_4 ?_
    rw [h7, hpr g g1 g2]
    refine ⟨by omega, by omega, fun c => by omega, fun _ => ⟨by omega, by omega, fun c => ?_, fun c => ⟨by omega, fun c2 => ?_, fun c2 => ?_⟩⟩⟩
    · rw [show ceF pr i g (fI (ceF pr i) 1000 g) = _ from if_pos (Or.inl c)] at ih; exact ih
    · rw [show ceF pr i g (fI (ceF pr i) 1000 g) = _ from if_pos (Or.inr c2)] at ih; exact ih
    · rw [show ceF pr i g (fI (ceF pr i) 1000 g) = _ from if_neg (by omega)] at ih; exact ih
  · refine yk_10_4 ?_
    rw [h7]
    exact ⟨by omega, by omega, fun _ => h, fun c => by omega⟩
/-- what those from i on cost at the least -/
def alF (pr : Int → Int → Int) (n k i : Int) : Int := sI (fun j => ce pr n (k - 1 - j)) (k - i)
theorem alF_k {pr : Int → Int → Int} {n k : Int} : alF pr n k k = 0 := by unfold alF; rw [show k - k = 0 by omega]; rfl
theorem alF_s {pr : Int → Int → Int} {n k i : Int} (hi : i < k) : alF pr n k i = alF pr n k (i + 1) + ce pr n i := by
  unfold alF
  rw [show k - i = k - (i + 1) + 1 by omega, sI_s _ (by omega), show k - 1 - (k - (i + 1)) = i by omega]
theorem alF_r {pr : Int → Int → Int} {n k i : Int} (hn : 0 ≤ n) (hr : ∀ i g, -1 ≤ pr i g ∧ pr i g ≤ 99) (hi : i ≤ k) : 0 ≤ alF pr n k i ∧ alF pr n k i ≤ 1000 * (k - i) := by
  have := sI_b (f := fun j => ce pr n (k - 1 - j)) (n := k - i) (lo := 0) (hi := 1000) (by omega) (fun j _ _ => by have := ce_r (hr (k - 1 - j)) hn; exact ⟨this.1, this.2.1⟩)
  unfold alF
  omega
def sG (p : Nat) (i : Int) : Bool := p == 121 || p == 122 || p == 123 || (p == 119 && decide (i = 8))
theorem gdD_nn {pr : Int → Int → Int} {k : Int} (hn : 0 ≤ n) (hr : ∀ i g, -1 ≤ pr i g) : ∀ (m : Nat) (sum : Int) (lead ch : Int → Int) (st : Int × (Int → Int)), 0 ≤ sum → 0 ≤ st.1 → 0 ≤ (gdD pr n k m sum lead ch st).1 := by
  intro m
  induction m with
  | zero =>
    intro sum lead ch st h1 h2
    rw [gdD_0]
    split
    · exact h1
    · exact h2
  | succ m ih =>
    intro sum lead ch st h1 h2
    rw [gdD_s (i := k - ((m + 1 : Nat) : Int)) rfl]
    refine ih _ _ _ _ (by omega) ?_
    refine fI_inv (g := gdS pr n k m (k - ((m + 1 : Nat) : Int)) sum lead ch) (a := st) (I := fun _ s => 0 ≤ s.1) h2 ?_ hn
    intro g s g1 g2 hs
    unfold gdS
    split
    · exact hs
    · rename_i c
      have := hr (k - ((m + 1 : Nat) : Int)) g
      exact ih _ _ _ _ (by omega) hs
/-- the search itself -/
theorem sq_11 {pr : Int → Int → Int} {k : Int} (hn : 0 ≤ n ∧ n ≤ 9) (hk : 0 ≤ k ∧ k ≤ 9) (hr : ∀ i g, -1 ≤ pr i g ∧ pr i g ≤ 99) : ∀ (m : Nat) {D : Nat} {d : xh_D} {sum : Int} {lead ch : Int → Int} {st : Int × (Int → Int)} {P : xh_D → xd_E → Prop}, (m : Int) ≤ k → m + 1 ≤ D → d 119 6 = k → d 119 7 = n → (∀ i g, 0 ≤ i → i < k → 0 ≤ g → g < n → d 124 (i * 9 + g) = pr i g) → (∀ i, 0 ≤ i → i ≤ k → d 125 i = alF pr n k i) → d 119 8 = st.1 → (0 ≤ st.1 ∧ st.1 ≤ 9001) → (∀ g, 0 ≤ g → g < n → d 123 g = lead g ∧ 0 ≤ lead g ∧ lead g ≤ 2) → (∀ j, 0 ≤ j → j < k - m → d 122 j = ch j) → (st.1 ≤ k * 1000 → ∀ j, 0 ≤ j → j < k → d 121 j = st.2 j) → (0 ≤ sum ∧ sum ≤ 1000 * (k - m)) → (∀ d', Fk sG d d' → d' 119 8 = (gdD pr n k m sum lead ch st).1 → (∀ g, 0 ≤ g → g < n → d' 123 g = lead g) → (∀ j, 0 ≤ j → j < k - m → d' 122 j = ch j) → ((gdD pr n k m sum lead ch st).1 ≤ k * 1000 → ∀ j, 0 ≤ j → j < k → d' 121 j = (gdD pr n k m sum lead ch st).2 j) → P d' e) → yV D 11 L [.ref 119, .int (xJ (k - m)), .int (xJ sum)] d e P := by
  have ge : ∀ (m : Nat), (m : Int) ≤ k → ∀ (sum : Int) (lead ch : Int → Int) (st : Int × (Int → Int)), st.1 ≤ sum + alF pr n k (k - m) → gdD pr n k m sum lead ch st = st := fun m hm sum lead ch st h => gdD_ge (al := alF pr n k) hn.1 (by rw [alF_k]; omega) (fun i g a c a2 c2 q => by rw [alF_s c]; have := (ce_r (hr i) hn.1).2.2.1 g a2 c2 q; unfold ce; omega) (fun i a c => by rw [alF_s c]; have := (ce_r (hr i) hn.1).2.1; unfold ce; omega) m hm sum lead ch st h alF_k
  intro m
  induction m with
  | zero =>
    intro D d sum lead ch st P hm hD e6 e7 e124 e125 e8 hst hld hch hbest hsum hP
    have a1 := alF_r (pr := pr) (n := n) (k := k) (i := k) hn.1 hr (Int.le_refl _)
    have a0 := alF_k (pr := pr) (n := n) (k := k)
    rw [show k - ((0 : Nat) : Int) = k by omega] at hch hsum hP ⊢
    refine yV_of rfl rfl rfl (by omega) (yk_11_0 ?_)
    rw [e125 k hk.1 (Int.le_refl _), a0, e8, e6]
    refine ⟨by omega, by omega, by omega, fun c => ⟨by omega, by omega, fun c2 => by omega, fun _ => ⟨by omega, ?_⟩⟩, fun c => ?_⟩
    · have hg : gdD pr n k 0 sum lead ch st = (sum, ch) := by rw [gdD_0, if_pos (by omega)]
      rw [hg] at hP
      refine hP _ (Fk_cp (Fk_xs Fk_refl rfl) (fun _ => rfl)) ?_ (fun g a c => ?_) (fun j a c => ?_) (fun _ j a c => ?_)
      · rw [xcp_np (by decide), xs_eq]
      · rw [xcp_np (by decide), xs_np (by decide)]; exact (hld g a c).1
      · rw [xcp_np (by decide), xs_np (by decide)]; exact hch j a c
      · refine (if_pos ⟨rfl, a, c⟩).trans ?_
        rw [xs_np (by decide)]
        exact hch j a c
    · have hg : gdD pr n k 0 sum lead ch st = st := by rw [gdD_0, if_neg (by omega)]
      rw [hg] at hP
      exact hP d Fk_refl e8 (fun g a c => (hld g a c).1) hch hbest
  | succ m ih =>
    intro D d sum lead ch st P hm hD e6 e7 e124 e125 e8 hst hld hch hbest hsum hP
    generalize hi : k - ((m + 1 : Nat) : Int) = i at hch hsum hP
    have i1 : 0 ≤ i ∧ i < k := by omega
    have e1 : k - (m : Int) = i + 1 := by omega
    have a1 := alF_r (pr := pr) (n := n) (k := k) (i := i) hn.1 hr (by omega)
    refine yV_of rfl rfl rfl (by omega) (yk_11_0 ?_)
    rw [e125 i i1.1 (by omega), e8, e6]
    refine ⟨by omega, by omega, by omega, fun c => ⟨by omega, by omega, fun _ => ?_, fun c2 => by omega⟩, fun c => ?_⟩
    · rw [gdD_s hi.symm] at hP
      generalize hS : gdS pr n k m i sum lead ch = S at hP
      have hSg : ∀ g s, S g s = if pr i g = -1 ∨ 2 ≤ lead g then s else gdD pr n k m (sum + pr i g) (upI lead g (lead g + 1)) (upI ch i g) s := fun g s => by rw [← hS]; rfl
      refine lp_up (n := n) (X := fun g => ∀ dc, Fk sG d dc → dc 119 8 = (fI S st g).1 → (0 ≤ (fI S st g).1 ∧ (fI S st g).1 ≤ 9001) → (∀ x, 0 ≤ x → x < n → dc 123 x = lead x) → (∀ j, 0 ≤ j → j < i → dc 122 j = ch j) → ((fI S st g).1 ≤ k * 1000 → ∀ j, 0 ≤ j → j < k → dc 121 j = (fI S st g).2 j) → yB (D - 1) xm_c11 (yQv L P) L 29 [.ref 119, .int (xJ i), .int (xJ sum), .int (xJ g), .double 0] [] dc e) hn.1 ?_ ?_ d Fk_refl e8 hst (fun x a c => (hld x a c).1) hch hbest
      · intro g g1 g2 ihg dc f q8 qr q123 q122 q121
        have hl := hld g g1 g2
        have rp := hr i g
        have hs := hSg g (fI S st g)
        rw [fI_s _ _ g1, hs] at ihg
        refine yk_11_29 ?_
        rw [f 119 7 rfl, e7, Fk_p f (p := 124) (fun _ => rfl), e124 i g i1.1 i1.2 g1 g2, q123 g g1 g2]
        refine ⟨by omega, by omega, fun c => by omega, fun _ => ⟨by omega, by omega, fun c => ?_, fun c => ⟨by omega, by omega, fun c2 => ?_, fun c2 => ⟨by omega, ?_⟩⟩⟩⟩
        · rw [if_pos (Or.inl c)] at ihg
          exact ihg dc f q8 qr q123 q122 q121
        · rw [if_pos (Or.inr c2)] at ihg
          exact ihg dc f q8 qr q123 q122 q121
        · rw [if_neg (by omega)] at ihg
          have fx : Fk sG d (xs (xs dc 123 g (lead g + 1)) 122 i g) := Fk_xs (Fk_xs f rfl) rfl
          have hm2 := @ih (D - 1) (xs (xs dc 123 g (lead g + 1)) 122 i g) (sum + pr i g) (upI lead g (lead g + 1)) (upI ch i g) (fI S st g) (fun d11 e12 => yB (D - 1) xm_c11 (yQv L P) L 29 [.ref 119, .int (xJ i), .int (xJ sum), .int (xJ (g + 1)), .double 0] [] (xs d11 123 g ((d11 123 g) - 1)) e12) (by omega) (by omega) (by rw [fx 119 6 rfl, e6]) (by rw [fx 119 7 rfl, e7]) (by rw [Fk_p fx (p := 124) (fun _ => rfl)]; exact e124) (by rw [Fk_p fx (p := 125) (fun _ => rfl)]; exact e125) (by rw [xs_np (by decide), xs_np (by decide)]; exact q8) qr (fun x a c3 => ?_) (fun j a c3 => ?_) (fun c3 j a c4 => ?_) (by omega) (fun d' f' p8 p123 p122 p121 => ?_)
          · rw [e1] at hm2
            exact hm2
          · rw [xs_np (by decide)]
            by_cases z : x = g
            · subst z
              rw [xs_eq, upI_app, if_pos rfl]
              omega
            · rw [xs_ni z, q123 x a c3, upI_app, if_neg z]
              exact ⟨rfl, (hld x a c3).2⟩
          · by_cases z : j = i
            · subst z
              rw [xs_eq, upI_app, if_pos rfl]
            · rw [xs_ni z, xs_np (by decide), upI_app, if_neg z]
              exact q122 j a (by omega)
          · rw [xs_np (by decide), xs_np (by decide)]
            exact q121 c3 j a c4
          · have gl := gdD_le (pr := pr) (k := k) hn.1 m (sum + pr i g) (upI lead g (lead g + 1)) (upI ch i g) (fI S st g)
            have gi := gdD_nn (pr := pr) (k := k) hn.1 (fun i g => (hr i g).1) m (sum + pr i g) (upI lead g (lead g + 1)) (upI ch i g) (fI S st g) (by omega) qr.1
            refine ihg _ (Fk_xs (Fk_trans fx f') rfl) ?_ ⟨gi, by omega⟩ (fun x a c3 => ?_) (fun j a c3 => ?_) (fun c3 j a c4 => ?_)
            · rw [xs_np (by decide)]; exact p8
            · by_cases z : x = g
              · subst z
                rw [xs_eq, p123 x a c3, upI_app, if_pos rfl]
                omega
              · rw [xs_ni z, p123 x a c3, upI_app, if_neg z]
            · rw [xs_np (by decide), p122 j a (by omega), upI_app, if_neg (by omega)]
            · rw [xs_np (by decide)]
              exact p121 c3 j a c4
      · intro dc f q8 qr q123 q122 q121
        refine yk_11_29 ?_
        rw [f 119 7 rfl, e7]
        refine ⟨by omega, by omega, fun _ => ⟨by omega, ?_⟩, fun c => by omega⟩
        have fx : Fk sG d (xs dc 122 i (-1)) := Fk_xs f rfl
        have hm2 := @ih (D - 1) (xs dc 122 i (-1)) (sum + 1000) lead (upI ch i (-1)) (fI S st n) P (by omega) (by omega) (by rw [fx 119 6 rfl, e6]) (by rw [fx 119 7 rfl, e7]) (by rw [Fk_p fx (p := 124) (fun _ => rfl)]; exact e124) (by rw [Fk_p fx (p := 125) (fun _ => rfl)]; exact e125) (by rw [xs_np (by decide)]; exact q8) qr (fun x a c3 => ?_) (fun j a c3 => ?_) (fun c3 j a c4 => ?_) (by omega) (fun d' f' p8 p123 p122 p121 => ?_)
        · rw [e1] at hm2
          exact hm2
        · rw [xs_np (by decide), q123 x a c3]
          exact ⟨rfl, (hld x a c3).2⟩
        · by_cases z : j = i
          · subst z
            rw [xs_eq, upI_app, if_pos rfl]
          · rw [xs_ni z, upI_app, if_neg z]
            exact q122 j a (by omega)
        · rw [xs_np (by decide)]
          exact q121 c3 j a c4
        · refine hP d' (Fk_trans fx f') p8 p123 (fun j a c3 => ?_) p121
          rw [p122 j a (by omega), upI_app, if_neg (by omega)]
    · have hg : gdD pr n k (m + 1) sum lead ch st = st := ge (m + 1) hm sum lead ch st (by rw [hi]; omega)
      rw [hg] at hP
      exact hP d Fk_refl e8 (fun g a c => (hld g a c).1) hch hbest
/-- what the class has found -/
def fdX (pr : Int → Int → Int) (h : Int → Bool) (hp : Int → Int) (n : Int) (d : xh_D) : Prop := d 119 6 = cI h n ∧ d 119 7 = n ∧ d 119 8 = (gdB pr n (cI h n)).1 ∧ (∀ j, 0 ≤ j → j < cI h n → d 120 j = hp j) ∧ (∀ j, 0 ≤ j → j < cI h n → d 121 j = (gdB pr n (cI h n)).2 j) ∧ ∀ i g, 0 ≤ i → i < cI h n → 0 ≤ g → g < n → d 124 (i * 9 + g) = pr i g
/-- hp tells who is hooded, one by one -/
def hpX (h : Int → Bool) (hp : Int → Int) (n : Int) : Prop := (∀ p, 0 ≤ p → p < n → h p = true → hp (cI h p) = p) ∧ ∀ j, 0 ≤ j → j < cI h n → 0 ≤ hp j ∧ hp j < n ∧ h (hp j) = true ∧ cI h (hp j) = j
theorem cI_mono {h : Int → Bool} {i j : Int} (h0 : 0 ≤ i) (hij : i ≤ j) : cI h i ≤ cI h j := by
  have key : ∀ k : Nat, cI h i ≤ cI h (i + k) := by
    intro k
    induction k with
    | zero => rw [show i + ((0 : Nat) : Int) = i by omega]; exact Int.le_refl _
    | succ k ih =>
      rw [show i + ((k + 1 : Nat) : Int) = i + k + 1 by omega, cI_s _ (by omega)]
      split <;> omega
  have := key (j - i).toNat
  rwa [show i + (((j - i).toNat : Nat) : Int) = j by omega] at this
theorem sq_8_11 {F : (Int → Int) → Int} {day : Int} {P : xh_D → xd_E → Prop} (hD : 12 ≤ D) (hX : rX F (d 111 6) (d 112)) (ok : okX n 12 13 14 d) (hd : 0 ≤ day ∧ day < 2147483648) (h : ∀ (d' : xh_D) (hp : Int → Int), Fk sF d d' → hpX (fun p => decide (d 12 p = day % 9)) hp n → fdX (prF F (d 7) (d 12) (d 13) (d 14) hp day) (fun p => decide (d 12 p = day % 9)) hp n d' → P d' e) : yV D 8 L [.ref 119, .ref 6, .ref 111, .ref 11, .int (xJ day)] d e P := by
  have o1 := ok.1
  have hn := ok.2.1
  generalize hh : (fun p => decide (d 12 p = day % 9)) = hf at h
  have hft : ∀ p, d 12 p = day % 9 → hf p = true := fun p q => by rw [← hh]; simp [q]
  have hff : ∀ p, ¬ d 12 p = day % 9 → hf p = false := fun p q => by rw [← hh]; simp [q]
  have kr := cI_r hf hn.1
  refine yV_of rfl rfl rfl (by omega) (yk_8_11_0 ?_)
  rw [o1]
  refine lp_up (n := n) (X := fun p => ∀ dc, Fk sF d dc → dc 119 6 = cI hf p → dc 119 7 = n → (∀ q, 0 ≤ q → q < p → dc 123 q = 0) → (∀ q, 0 ≤ q → q < p → hf q = true → dc 120 (cI hf q) = q) → (∀ j, 0 ≤ j → j < cI hf p → 0 ≤ dc 120 j ∧ dc 120 j < p ∧ hf (dc 120 j) = true ∧ cI hf (dc 120 j) = j) → yB (D - 1) xm_c8 (yQv L P) L 9 [.ref 119, .ref 6, .ref 111, .ref 11, .int (xJ day), .int (xJ p)] [] dc e) hn.1 ?_ ?_ _ (Fk_xs (Fk_xs Fk_refl rfl) rfl) ?_ ?_ (fun q a c => by omega) (fun q a c => by omega) (fun j a c => by rw [cI_0] at c; omega)
  · intro p a c ih dc f c6 c7 c123 c120 c120b
    have r := ok.2.2.1 p a c
    have rp := cI_r hf a
    refine yk_8_11_9 ?_
    rw [c7, Fk_p f (p := 12) (fun _ => rfl), c6]
    refine ⟨by omega, by omega, fun g => by omega, fun _ => ⟨by omega, hd, by omega, fun g => ?_, fun g => ⟨by omega, ?_⟩⟩⟩
    · have e1 : cI hf (p + 1) = cI hf p := by rw [cI_f a (hff p g)]; omega
      refine ih _ (Fk_xs f rfl) ?_ ?_ (fun q a2 c2 => ?_) (fun q a2 c2 g2 => ?_) (fun j a2 c2 => ?_)
      · rw [e1, xs_np (by decide)]; exact c6
      · rw [xs_np (by decide)]; exact c7
      · by_cases z : q = p
        · subst z; rw [xs_eq]
        · rw [xs_ni z]; exact c123 q a2 (by omega)
      · rw [xs_np (by decide)]
        refine c120 q a2 ?_ g2
        by_cases z : q = p
        · subst z; rw [hff q g] at g2; exact absurd g2 (by decide)
        · omega
      · rw [xs_np (by decide)]
        rw [e1] at c2
        have := c120b j a2 c2
        exact ⟨this.1, by omega, this.2.2⟩
    · have e1 : cI hf (p + 1) = cI hf p + 1 := cI_t a (hft p g)
      refine ih _ (Fk_xs (Fk_xs (Fk_xs f rfl) rfl) rfl) ?_ ?_ (fun q a2 c2 => ?_) (fun q a2 c2 g2 => ?_) (fun j a2 c2 => ?_)
      · rw [e1, xs_eq]
      · rw [xs_ni (by decide), xs_np (by decide), xs_np (by decide)]; exact c7
      · rw [xs_np (by decide), xs_np (by decide)]
        by_cases z : q = p
        · subst z; rw [xs_eq]
        · rw [xs_ni z]; exact c123 q a2 (by omega)
      · rw [xs_np (by decide)]
        by_cases z : q = p
        · subst z; rw [xs_eq]
        · have : cI hf (q + 1) ≤ cI hf p := cI_mono (by omega) (by omega)
          rw [cI_t a2 g2] at this
          rw [xs_ni (by omega), xs_np (by decide)]
          exact c120 q a2 (by omega) g2
      · rw [xs_np (by decide)]
        by_cases z : j = cI hf p
        · subst z
          rw [xs_eq]
          exact ⟨a, by omega, hft p g, rfl⟩
        · rw [xs_ni z, xs_np (by decide)]
          have := c120b j a2 (by omega)
          exact ⟨this.1, by omega, this.2.2⟩
  · intro d1 f1 c6 c7 c123 c120 c120b
    generalize hk : cI hf n = k at c6 c120b h kr
    refine yk_8_11_9 ?_
    rw [c7]
    refine ⟨by omega, by omega, fun _ => ?_, fun g => by omega⟩
    generalize hpe : d1 120 = hp at c120 c120b
    generalize hpr : prF F (d 7) (d 12) (d 13) (d 14) hp day = pr
    have rr : ∀ i g, -1 ≤ pr i g ∧ pr i g ≤ 99 := fun i g => by rw [← hpr]; exact prF_r
    refine lp_up (n := k) (X := fun i => ∀ dc, Fk s24 d1 dc → (∀ j g, 0 ≤ j → j < i → 0 ≤ g → g < n → dc 124 (j * 9 + g) = pr j g) → yB (D - 1) xm_c8 (yQv L P) L 42 [.ref 119, .ref 6, .ref 111, .ref 11, .int (xJ day), .int (xJ i)] [] dc e) kr.1 ?_ ?_ d1 Fk_refl (fun j g a c => by omega)
    · intro i a c ih dc f hp2
      have fd : Fk sF d dc := Fk_trans f1 (s24_F f)
      have hq := c120b i a c
      refine yk_8_11_42 ?_
      rw [Fk_p f (p := 119) (fun _ => rfl), c6]
      refine ⟨by omega, by omega, fun g => by omega, fun _ => ?_⟩
      refine sq_9_11 (n := n) (F := F) (hp := hp) (by omega) (by rw [Fk_p fd (p := 111) (fun _ => rfl), Fk_p fd (p := 112) (fun _ => rfl)]; exact hX) (okX_fk (by decide) (by decide) (by decide) ok fd) (by rw [Fk_p f (p := 119) (fun _ => rfl), c7]) (by omega) (by rw [Fk_p f (p := 120) (fun _ => rfl), hpe]) ⟨hq.1, hq.2.1⟩ hd (fun d' f' g1 g2 => ?_)
      refine ih d' (Fk_trans f f') (fun j g a2 c2 a3 c3 => ?_)
      by_cases z : j = i
      · subst z
        rw [g1 g a3 c3, ← hpr, Fk_p fd (p := 7) (fun _ => rfl), Fk_p fd (p := 12) (fun _ => rfl), Fk_p fd (p := 13) (fun _ => rfl), Fk_p fd (p := 14) (fun _ => rfl)]
      · rw [g2 _ (by omega)]
        exact hp2 j g a2 (by omega) a3 c3
    · intro d2 f2 hp2
      have f2d : Fk sF d d2 := Fk_trans f1 (s24_F f2)
      refine yk_8_11_42 ?_
      rw [Fk_p f2 (p := 119) (fun _ => rfl), c6]
      refine ⟨by omega, by omega, fun _ => ⟨by omega, ?_⟩, fun g => by omega⟩
      have hlp := lp_up (n := k) (X := fun t => ∀ dc, (∀ p, ¬ p = 125 → dc p = d2 p) → (∀ j, k - t ≤ j → j ≤ k → dc 125 j = alF pr n k j) → yB (D - 1) xm_c8 (yQv L P) L 66 [.ref 119, .double 0, .double 0, .double 0, .double 0, .int (xJ (k - 1 - t))] [] dc e) kr.1 ?_ ?_ (xs d2 125 k 0) (fun p hp => by rw [xs_fn, if_neg hp]) (fun j a c => by rw [show j = k by omega, xs_eq, alF_k])
      · rw [show k - 1 - 0 = k - 1 by omega] at hlp; exact hlp
      · intro t a c ih dc fr hal
        have ar := alF_r (pr := pr) (n := n) (k := k) (i := k - t) hn.1 rr (by omega)
        have f119 : dc 119 = d1 119 := by rw [fr 119 (by decide), Fk_p f2 (p := 119) (fun _ => rfl)]
        refine yk_8_11_66 ?_
        refine ⟨by omega, fun g => by omega, fun _ => ⟨by omega, ?_⟩⟩
        refine sq_10 (pr := pr) (n := n) (by omega) hn (by rw [f119, c7]) (by omega) (fun g a2 c2 => by rw [fr 124 (by decide)]; exact hp2 _ g (by omega) (by omega) a2 c2) (fun g => rr _ g) ⟨by omega, ?_⟩
        rw [show k - 1 - t + 1 = k - t by omega, hal (k - t) (by omega) (by omega), show k - 1 - t + -1 = k - 1 - (t + 1) by omega]
        refine ih _ (fun p hp => by rw [xs_fn, if_neg hp, fr p hp]) (fun j a2 c2 => ?_)
        by_cases z : j = k - 1 - t
        · subst z
          rw [xs_eq, alF_s (i := k - 1 - t) (by omega), show k - 1 - t + 1 = k - t by omega]
        · rw [xs_ni z]
          exact hal j (by omega) c2
      · intro d3 fr hal
        have f119 : d3 119 = d1 119 := by rw [fr 119 (by decide), Fk_p f2 (p := 119) (fun _ => rfl)]
        have f3 : Fk sF d d3 := fun p i q => by
          by_cases z : p = 125
          · subst z; exact absurd (show true = false from q) (by decide)
          · rw [fr p z]; exact f2d p i q
        refine yk_8_11_66 ⟨by omega, fun _ => ?_, fun g => by omega⟩
        rw [f119, c6]
        have hm := @sq_11 L e n pr k hn (by omega) rr k.toNat (D - 1) (xs d3 119 8 (k * 1000 + 1)) 0 (fun _ => 0) (fun _ => 0) (k * 1000 + 1, fun _ => 0) P (by omega) (by omega) (by rw [xs_ni (by decide), f119, c6]) (by rw [xs_ni (by decide), f119, c7]) (fun i g a c a2 c2 => by rw [xs_np (by decide), fr 124 (by decide)]; exact hp2 i g a c a2 c2) (fun i a c => by rw [xs_np (by decide)]; exact hal i (by omega) c) xs_eq (by simp only []; omega) (fun g a c => by rw [xs_np (by decide), fr 123 (by decide), Fk_p f2 (p := 123) (fun _ => rfl)]; exact ⟨c123 g a c, by omega, by omega⟩) (fun j a c => by omega) (fun c => by simp only [] at c; omega) (by omega) (fun d' f' p8 p123 p122 p121 => ?_)
        · rw [show k - ((k.toNat : Nat) : Int) = 0 by omega] at hm
          exact hm
        · have fG : Fk sF (xs d3 119 8 (k * 1000 + 1)) d' := Fk_mono f' (fun p i q => by
            cases z : sG p i
            · rfl
            · exfalso
              have : p = 121 ∨ p = 122 ∨ p = 123 ∨ p = 119 := by
                simp only [sG, Bool.or_eq_true, beq_iff_eq, Bool.and_eq_true] at z
                omega
              rcases this with rfl | rfl | rfl | rfl <;> exact absurd (show true = false from q) (by decide))
          have gb := (gdB_ok (pr := pr) (n := n) (k := k) hn.1 kr.1).2
          refine h d' hp (Fk_trans (Fk_xs f3 rfl) fG) ⟨c120, by rw [hk]; exact c120b⟩ ?_
          rw [hpr]
          unfold fdX
          rw [hk]
          refine ⟨?_, ?_, p8, fun j a c => ?_, p121 gb, fun i g a c a2 c2 => ?_⟩
          · rw [f' 119 6 rfl, xs_ni (by decide), f119, c6]
          · rw [f' 119 7 rfl, xs_ni (by decide), f119, c7]
          · rw [Fk_p f' (p := 120) (fun _ => rfl), xs_np (by decide), fr 120 (by decide), Fk_p f2 (p := 120) (fun _ => rfl), hpe]
          · rw [Fk_p f' (p := 124) (fun _ => rfl), xs_np (by decide), fr 124 (by decide)]
            exact hp2 i g a (by omega) a2 c2
  · rw [xs_eq]; rfl
  · rw [xs_ni (by decide), xs_eq]
theorem sq_8_17 {F : (Int → Int) → Int} {day : Int} {P : xh_D → xd_E → Prop} (hD : 12 ≤ D) (hX : rX F (d 111 6) (d 112)) (ok : okX n 18 19 20 d) (hd : 0 ≤ day ∧ day < 2147483648) (h : ∀ (d' : xh_D) (hp : Int → Int), Fk sF d d' → hpX (fun p => decide (d 18 p = day % 9)) hp n → fdX (prF F (d 7) (d 18) (d 19) (d 20) hp day) (fun p => decide (d 18 p = day % 9)) hp n d' → P d' e) : yV D 8 L [.ref 119, .ref 6, .ref 111, .ref 17, .int (xJ day)] d e P := by
  have o1 := ok.1
  have hn := ok.2.1
  generalize hh : (fun p => decide (d 18 p = day % 9)) = hf at h
  have hft : ∀ p, d 18 p = day % 9 → hf p = true := fun p q => by rw [← hh]; simp [q]
  have hff : ∀ p, ¬ d 18 p = day % 9 → hf p = false := fun p q => by rw [← hh]; simp [q]
  have kr := cI_r hf hn.1
  refine yV_of rfl rfl rfl (by omega) (yk_8_17_0 ?_)
  rw [o1]
  refine lp_up (n := n) (X := fun p => ∀ dc, Fk sF d dc → dc 119 6 = cI hf p → dc 119 7 = n → (∀ q, 0 ≤ q → q < p → dc 123 q = 0) → (∀ q, 0 ≤ q → q < p → hf q = true → dc 120 (cI hf q) = q) → (∀ j, 0 ≤ j → j < cI hf p → 0 ≤ dc 120 j ∧ dc 120 j < p ∧ hf (dc 120 j) = true ∧ cI hf (dc 120 j) = j) → yB (D - 1) xm_c8 (yQv L P) L 9 [.ref 119, .ref 6, .ref 111, .ref 17, .int (xJ day), .int (xJ p)] [] dc e) hn.1 ?_ ?_ _ (Fk_xs (Fk_xs Fk_refl rfl) rfl) ?_ ?_ (fun q a c => by omega) (fun q a c => by omega) (fun j a c => by rw [cI_0] at c; omega)
  · intro p a c ih dc f c6 c7 c123 c120 c120b
    have r := ok.2.2.1 p a c
    have rp := cI_r hf a
    refine yk_8_17_9 ?_
    rw [c7, Fk_p f (p := 18) (fun _ => rfl), c6]
    refine ⟨by omega, by omega, fun g => by omega, fun _ => ⟨by omega, hd, by omega, fun g => ?_, fun g => ⟨by omega, ?_⟩⟩⟩
    · have e1 : cI hf (p + 1) = cI hf p := by rw [cI_f a (hff p g)]; omega
      refine ih _ (Fk_xs f rfl) ?_ ?_ (fun q a2 c2 => ?_) (fun q a2 c2 g2 => ?_) (fun j a2 c2 => ?_)
      · rw [e1, xs_np (by decide)]; exact c6
      · rw [xs_np (by decide)]; exact c7
      · by_cases z : q = p
        · subst z; rw [xs_eq]
        · rw [xs_ni z]; exact c123 q a2 (by omega)
      · rw [xs_np (by decide)]
        refine c120 q a2 ?_ g2
        by_cases z : q = p
        · subst z; rw [hff q g] at g2; exact absurd g2 (by decide)
        · omega
      · rw [xs_np (by decide)]
        rw [e1] at c2
        have := c120b j a2 c2
        exact ⟨this.1, by omega, this.2.2⟩
    · have e1 : cI hf (p + 1) = cI hf p + 1 := cI_t a (hft p g)
      refine ih _ (Fk_xs (Fk_xs (Fk_xs f rfl) rfl) rfl) ?_ ?_ (fun q a2 c2 => ?_) (fun q a2 c2 g2 => ?_) (fun j a2 c2 => ?_)
      · rw [e1, xs_eq]
      · rw [xs_ni (by decide), xs_np (by decide), xs_np (by decide)]; exact c7
      · rw [xs_np (by decide), xs_np (by decide)]
        by_cases z : q = p
        · subst z; rw [xs_eq]
        · rw [xs_ni z]; exact c123 q a2 (by omega)
      · rw [xs_np (by decide)]
        by_cases z : q = p
        · subst z; rw [xs_eq]
        · have : cI hf (q + 1) ≤ cI hf p := cI_mono (by omega) (by omega)
          rw [cI_t a2 g2] at this
          rw [xs_ni (by omega), xs_np (by decide)]
          exact c120 q a2 (by omega) g2
      · rw [xs_np (by decide)]
        by_cases z : j = cI hf p
        · subst z
          rw [xs_eq]
          exact ⟨a, by omega, hft p g, rfl⟩
        · rw [xs_ni z, xs_np (by decide)]
          have := c120b j a2 (by omega)
          exact ⟨this.1, by omega, this.2.2⟩
  · intro d1 f1 c6 c7 c123 c120 c120b
    generalize hk : cI hf n = k at c6 c120b h kr
    refine yk_8_17_9 ?_
    rw [c7]
    refine ⟨by omega, by omega, fun _ => ?_, fun g => by omega⟩
    generalize hpe : d1 120 = hp at c120 c120b
    generalize hpr : prF F (d 7) (d 18) (d 19) (d 20) hp day = pr
    have rr : ∀ i g, -1 ≤ pr i g ∧ pr i g ≤ 99 := fun i g => by rw [← hpr]; exact prF_r
    refine lp_up (n := k) (X := fun i => ∀ dc, Fk s24 d1 dc → (∀ j g, 0 ≤ j → j < i → 0 ≤ g → g < n → dc 124 (j * 9 + g) = pr j g) → yB (D - 1) xm_c8 (yQv L P) L 42 [.ref 119, .ref 6, .ref 111, .ref 17, .int (xJ day), .int (xJ i)] [] dc e) kr.1 ?_ ?_ d1 Fk_refl (fun j g a c => by omega)
    · intro i a c ih dc f hp2
      have fd : Fk sF d dc := Fk_trans f1 (s24_F f)
      have hq := c120b i a c
      refine yk_8_17_42 ?_
      rw [Fk_p f (p := 119) (fun _ => rfl), c6]
      refine ⟨by omega, by omega, fun g => by omega, fun _ => ?_⟩
      refine sq_9_17 (n := n) (F := F) (hp := hp) (by omega) (by rw [Fk_p fd (p := 111) (fun _ => rfl), Fk_p fd (p := 112) (fun _ => rfl)]; exact hX) (okX_fk (by decide) (by decide) (by decide) ok fd) (by rw [Fk_p f (p := 119) (fun _ => rfl), c7]) (by omega) (by rw [Fk_p f (p := 120) (fun _ => rfl), hpe]) ⟨hq.1, hq.2.1⟩ hd (fun d' f' g1 g2 => ?_)
      refine ih d' (Fk_trans f f') (fun j g a2 c2 a3 c3 => ?_)
      by_cases z : j = i
      · subst z
        rw [g1 g a3 c3, ← hpr, Fk_p fd (p := 7) (fun _ => rfl), Fk_p fd (p := 18) (fun _ => rfl), Fk_p fd (p := 19) (fun _ => rfl), Fk_p fd (p := 20) (fun _ => rfl)]
      · rw [g2 _ (by omega)]
        exact hp2 j g a2 (by omega) a3 c3
    · intro d2 f2 hp2
      have f2d : Fk sF d d2 := Fk_trans f1 (s24_F f2)
      refine yk_8_17_42 ?_
      rw [Fk_p f2 (p := 119) (fun _ => rfl), c6]
      refine ⟨by omega, by omega, fun _ => ⟨by omega, ?_⟩, fun g => by omega⟩
      have hlp := lp_up (n := k) (X := fun t => ∀ dc, (∀ p, ¬ p = 125 → dc p = d2 p) → (∀ j, k - t ≤ j → j ≤ k → dc 125 j = alF pr n k j) → yB (D - 1) xm_c8 (yQv L P) L 66 [.ref 119, .double 0, .double 0, .double 0, .double 0, .int (xJ (k - 1 - t))] [] dc e) kr.1 ?_ ?_ (xs d2 125 k 0) (fun p hp => by rw [xs_fn, if_neg hp]) (fun j a c => by rw [show j = k by omega, xs_eq, alF_k])
      · rw [show k - 1 - 0 = k - 1 by omega] at hlp; exact hlp
      · intro t a c ih dc fr hal
        have ar := alF_r (pr := pr) (n := n) (k := k) (i := k - t) hn.1 rr (by omega)
        have f119 : dc 119 = d1 119 := by rw [fr 119 (by decide), Fk_p f2 (p := 119) (fun _ => rfl)]
        refine yk_8_17_66 ?_
        refine ⟨by omega, fun g => by omega, fun _ => ⟨by omega, ?_⟩⟩
        refine sq_10 (pr := pr) (n := n) (by omega) hn (by rw [f119, c7]) (by omega) (fun g a2 c2 => by rw [fr 124 (by decide)]; exact hp2 _ g (by omega) (by omega) a2 c2) (fun g => rr _ g) ⟨by omega, ?_⟩
        rw [show k - 1 - t + 1 = k - t by omega, hal (k - t) (by omega) (by omega), show k - 1 - t + -1 = k - 1 - (t + 1) by omega]
        refine ih _ (fun p hp => by rw [xs_fn, if_neg hp, fr p hp]) (fun j a2 c2 => ?_)
        by_cases z : j = k - 1 - t
        · subst z
          rw [xs_eq, alF_s (i := k - 1 - t) (by omega), show k - 1 - t + 1 = k - t by omega]
        · rw [xs_ni z]
          exact hal j (by omega) c2
      · intro d3 fr hal
        have f119 : d3 119 = d1 119 := by rw [fr 119 (by decide), Fk_p f2 (p := 119) (fun _ => rfl)]
        have f3 : Fk sF d d3 := fun p i q => by
          by_cases z : p = 125
          · subst z; exact absurd (show true = false from q) (by decide)
          · rw [fr p z]; exact f2d p i q
        refine yk_8_17_66 ⟨by omega, fun _ => ?_, fun g => by omega⟩
        rw [f119, c6]
        have hm := @sq_11 L e n pr k hn (by omega) rr k.toNat (D - 1) (xs d3 119 8 (k * 1000 + 1)) 0 (fun _ => 0) (fun _ => 0) (k * 1000 + 1, fun _ => 0) P (by omega) (by omega) (by rw [xs_ni (by decide), f119, c6]) (by rw [xs_ni (by decide), f119, c7]) (fun i g a c a2 c2 => by rw [xs_np (by decide), fr 124 (by decide)]; exact hp2 i g a c a2 c2) (fun i a c => by rw [xs_np (by decide)]; exact hal i (by omega) c) xs_eq (by simp only []; omega) (fun g a c => by rw [xs_np (by decide), fr 123 (by decide), Fk_p f2 (p := 123) (fun _ => rfl)]; exact ⟨c123 g a c, by omega, by omega⟩) (fun j a c => by omega) (fun c => by simp only [] at c; omega) (by omega) (fun d' f' p8 p123 p122 p121 => ?_)
        · rw [show k - ((k.toNat : Nat) : Int) = 0 by omega] at hm
          exact hm
        · have fG : Fk sF (xs d3 119 8 (k * 1000 + 1)) d' := Fk_mono f' (fun p i q => by
            cases z : sG p i
            · rfl
            · exfalso
              have : p = 121 ∨ p = 122 ∨ p = 123 ∨ p = 119 := by
                simp only [sG, Bool.or_eq_true, beq_iff_eq, Bool.and_eq_true] at z
                omega
              rcases this with rfl | rfl | rfl | rfl <;> exact absurd (show true = false from q) (by decide))
          have gb := (gdB_ok (pr := pr) (n := n) (k := k) hn.1 kr.1).2
          refine h d' hp (Fk_trans (Fk_xs f3 rfl) fG) ⟨c120, by rw [hk]; exact c120b⟩ ?_
          rw [hpr]
          unfold fdX
          rw [hk]
          refine ⟨?_, ?_, p8, fun j a c => ?_, p121 gb, fun i g a c a2 c2 => ?_⟩
          · rw [f' 119 6 rfl, xs_ni (by decide), f119, c6]
          · rw [f' 119 7 rfl, xs_ni (by decide), f119, c7]
          · rw [Fk_p f' (p := 120) (fun _ => rfl), xs_np (by decide), fr 120 (by decide), Fk_p f2 (p := 120) (fun _ => rfl), hpe]
          · rw [Fk_p f' (p := 124) (fun _ => rfl), xs_np (by decide), fr 124 (by decide)]
            exact hp2 i g a (by omega) a2 c2
  · rw [xs_eq]; rfl
  · rw [xs_ni (by decide), xs_eq]
end FND
